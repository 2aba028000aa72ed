theorem k_X9_isNetwork {X : VX} {cc : ByteArray} {own : String} {nL fr lo : Nat} {ini : Bool} {E : VX → Prop} {sF s : vS} {ρ : Type} {res : ρ} {pc : Nat} {ls : Array Slot} {rest : List Value} {N index : Nat} {a0 : Nat} {l1 : Int32} {f : Int32 → vS → Option ρ} (h : bnd (F_X9_isNetwork N a0 l1 s) f = some res) (hlink : Cond.methodLink own index yX9_isNetwork ∈ TT) (hR : 2 + 1 ≤ fr ∧ 8 + (9 + 11) + 42 ≤ lo) (hls : ls.size = nL) (hr : (rest.map fun v => v.category).sum ≤ 8) (hdg : decode cc pc = .ok (.invokevirtual index, 3)) (kk : ∀ r s', f r s' = some res → V X (cc, own, nL, fr, lo, ini) E sF s' (G0 X (pc + 3) ls (.int r :: rest))) : V X (cc, own, nL, fr, lo, ini) E sF s (G0 X pc ls (.int l1 :: .ref (xb X + a0) :: rest)) := by
  obtain ⟨r, s', e, h⟩ := bnd_some h
  exact v_callV (b := a0) (ci := 9) (As := [.int l1]) (rest := rest) (c_X9_isNetwork X N a0 l1 s s' r e).2 (c_X9_isNetwork (l := xl X) (D := xD X) (ka := xka X) X N a0 l1 s s' r e).1 rfl vl_X9_isNetwork qi_X9_isNetwork qe_X9_isNetwork hlink hR rfl rfl hls hr hdg (kk r s' h)
set_option maxHeartbeats 4000000 in
set_option maxRecDepth 100000 in
theorem L_X9_isOne_115 {X : VX} {sF : vS} {r : Int32} (N : Nat) (k0 : Int32) (s : vS) (ls : Array Slot) (hl : lv_has ls 2 []) (h : J_X9_isOne_115 N k0 s = some (r, sF)) : V X (cX9_isOne, RX9, 2, 4, 88, false) (vRet sF (some (.int r)) (some .boolean)) sF s (G0 X 115 ls [.int k0]) := by
  unfold J_X9_isOne_115 at h
  exact v_zret dX9_isOne_115 h
set_option maxHeartbeats 4000000 in
set_option maxRecDepth 100000 in
theorem L_X9_isOne_114 {X : VX} {sF : vS} {r : Int32} (N : Nat) (s : vS) (ls : Array Slot) (hl : lv_has ls 2 []) (h : J_X9_isOne_114 N  s = some (r, sF)) : V X (cX9_isOne, RX9, 2, 4, 88, false) (vRet sF (some (.int r)) (some .boolean)) sF s (G0 X 114 ls []) := by
  unfold J_X9_isOne_114 at h
  refine v_iconst (0 : Int32) dX9_isOne_114 (by decide) ?_
  exact L_X9_isOne_115 N (0 : Int32) s ls (lv_sub hl [] rfl) h
set_option maxHeartbeats 4000000 in
set_option maxRecDepth 100000 in
theorem L_X9_isOne_88 {X : VX} {sF : vS} {r : Int32} (N : Nat) (a0 : Nat) (l1 : Int32) (s : vS) (ls : Array Slot) (hl : lv_has ls 2 [(0, .ref (xb X + a0)), (1, .int l1)]) (h : J_X9_isOne_88 N a0 l1 s = some (r, sF)) : V X (cX9_isOne, RX9, 2, 4, 88, false) (vRet sF (some (.int r)) (some .boolean)) sF s (G0 X 88 ls []) := by
  unfold J_X9_isOne_88 at h
  refine v_aload_n dX9_isOne_88 rfl (lv_at hl 0 rfl) ?_
  refine v_iload_n dX9_isOne_89 rfl (lv_at hl 1 rfl) ?_
  refine k_X9_isNetwork h qmX9_280 (by decide) hl.1 (Nat.le_of_ble_eq_true rfl) dX9_isOne_90 (fun v12 s h => ?_)
  refine v_goto 115 dX9_isOne_93 (by decide) ?_
  exact L_X9_isOne_115 N v12 s ls (lv_sub hl [] rfl) h
set_option maxHeartbeats 4000000 in
set_option maxRecDepth 100000 in
theorem L_X9_isOne_17 {X : VX} {sF : vS} {r : Int32} (N : Nat) (k5 : Nat → Int32 → vS → Option (Int32 × vS)) (hk5 : ∀ (a0 : Nat) (l1 : Int32) (s : vS) (ls : Array Slot), lv_has ls 2 [(0, .ref (xb X + a0)), (1, .int l1)] → k5 a0 l1 s = some (r, sF) → V X (cX9_isOne, RX9, 2, 4, 88, false) (vRet sF (some (.int r)) (some .boolean)) sF s (G0 X 5 ls [])) (a0 : Nat) (l1 : Int32) (s : vS) (ls : Array Slot) (hl : lv_has ls 2 [(0, .ref (xb X + a0)), (1, .int l1)]) (h : J_X9_isOne_17 N k5 a0 l1 s = some (r, sF)) : V X (cX9_isOne, RX9, 2, 4, 88, false) (vRet sF (some (.int r)) (some .boolean)) sF s (G0 X 17 ls []) := by
  unfold J_X9_isOne_17 at h
  refine v_aload_n dX9_isOne_17 rfl (lv_at hl 0 rfl) ?_
  refine v_getI 9 35 h (by decide) (Or.inl rfl) qfX9_277 dX9_isOne_18 (fun v4 h => ?_)
  refine v_iconst (3 : Int32) dX9_isOne_21 (by decide) ?_
  refine v_icmp_ne 27 dX9_isOne_22 (by decide) h (fun h => ?_) (fun h => ?_)
  · refine v_aload_n dX9_isOne_27 rfl (lv_at hl 0 rfl) ?_
    refine v_getR 9 36 h (by decide) rfl qfX9_108 dX9_isOne_28 (fun r5 h => ?_)
    refine v_aload_n dX9_isOne_31 rfl (lv_at hl 0 rfl) ?_
    refine v_getI 9 35 h (by decide) (Or.inl rfl) qfX9_277 dX9_isOne_32 (fun v6 h => ?_)
    refine v_iload_n dX9_isOne_35 rfl (lv_at hl 1 rfl) ?_
    refine v_iast dX9_isOne_36 h (fun s h => ?_)
    refine v_aload_n dX9_isOne_37 rfl (lv_at hl 0 rfl) ?_
    refine v_dup dX9_isOne_38 rfl ?_
    refine v_getI 9 35 h (by decide) (Or.inl rfl) qfX9_277 dX9_isOne_39 (fun v7 h => ?_)
    refine v_iconst (1 : Int32) dX9_isOne_42 (by decide) ?_
    refine v_iadd dX9_isOne_43 ?_
    refine v_putI 9 35 h (by decide) rfl (Or.inl rfl) qfX9_277 dX9_isOne_44 (fun s h => ?_)
    refine v_aload_n dX9_isOne_47 rfl (lv_at hl 0 rfl) ?_
    refine v_iload_n dX9_isOne_48 rfl (lv_at hl 1 rfl) ?_
    refine v_aload_n dX9_isOne_49 rfl (lv_at hl 0 rfl) ?_
    refine v_getI 9 29 h (by decide) (Or.inl rfl) qfX9_256 dX9_isOne_50 (fun v8 h => ?_)
    refine v_iconst (0 : Int32) dX9_isOne_53 (by decide) ?_
    refine v_iconst (0 : Int32) dX9_isOne_54 (by decide) ?_
    refine k_X9_add h qmX9_273 (by decide) hl.1 (Nat.le_of_ble_eq_true rfl) dX9_isOne_55 (fun v9 s h => ?_)
    refine v_aload_n dX9_isOne_58 rfl (lv_at hl 0 rfl) ?_
    refine v_dup dX9_isOne_59 rfl ?_
    refine v_getI 9 29 h (by decide) (Or.inl rfl) qfX9_256 dX9_isOne_60 (fun v10 h => ?_)
    refine v_iconst (1 : Int32) dX9_isOne_63 (by decide) ?_
    refine v_iadd dX9_isOne_64 ?_
    refine v_putI 9 29 h (by decide) rfl (Or.inl rfl) qfX9_256 dX9_isOne_65 (fun s h => ?_)
    refine v_aload_n dX9_isOne_68 rfl (lv_at hl 0 rfl) ?_
    refine k_X9_here h qmX9_259 (by decide) hl.1 (Nat.le_of_ble_eq_true rfl) dX9_isOne_69 (fun v11 s h => ?_)
    refine v_istore_n [(1, .int v11), (0, .ref (xb X + a0))] dX9_isOne_72 rfl hl (by decide) rfl (fun ls hl => ?_)
    refine v_goto 5 dX9_isOne_73 (by decide) ?_
    exact hk5 a0 v11 s ls (lv_sub hl [1, 0] rfl) h
  · refine v_iconst (0 : Int32) dX9_isOne_25 (by decide) ?_
    exact v_zret dX9_isOne_26 h
set_option maxHeartbeats 4000000 in
set_option maxRecDepth 100000 in
theorem L_X9_isOne_5 {X : VX} {sF : vS} {r : Int32} (N : Nat) : ∀ (n : Nat) (a0 : Nat) (l1 : Int32) (s : vS) (ls : Array Slot), lv_has ls 2 [(0, .ref (xb X + a0)), (1, .int l1)] → H_X9_isOne_5 N n a0 l1 s = some (r, sF) → V X (cX9_isOne, RX9, 2, 4, 88, false) (vRet sF (some (.int r)) (some .boolean)) sF s (G0 X 5 ls []) := by
  intro n
  induction n with
  | zero => intro a0 l1 s ls hl h; cases h
  | succ n ih =>
   intro a0 l1 s ls hl h
   unfold H_X9_isOne_5 at h
   refine v_iload_n dX9_isOne_5 rfl (lv_at hl 1 rfl) ?_
   refine v_bipush (40 : Int32) dX9_isOne_6 (by decide) ?_
   refine v_icmp_eq 17 dX9_isOne_8 (by decide) h (fun h => ?_) (fun h => ?_)
   · exact L_X9_isOne_17 N (H_X9_isOne_5 N n) ih a0 l1 s ls (lv_sub hl [0, 1] rfl) h
   · refine v_iload_n dX9_isOne_11 rfl (lv_at hl 1 rfl) ?_
     refine v_bipush (123 : Int32) dX9_isOne_12 (by decide) ?_
     refine v_icmp_ne 76 dX9_isOne_14 (by decide) h (fun h => ?_) (fun h => ?_)
     · refine v_iload_n dX9_isOne_76 rfl (lv_at hl 1 rfl) ?_
       refine v_bipush (91 : Int32) dX9_isOne_77 (by decide) ?_
       refine v_icmp_eq 88 dX9_isOne_79 (by decide) h (fun h => ?_) (fun h => ?_)
       · exact L_X9_isOne_88 N a0 l1 s ls (lv_sub hl [0, 1] rfl) h
       · refine v_iload_n dX9_isOne_82 rfl (lv_at hl 1 rfl) ?_
         refine v_bipush (60 : Int32) dX9_isOne_83 (by decide) ?_
         refine v_icmp_ne 96 dX9_isOne_85 (by decide) h (fun h => ?_) (fun h => ?_)
         · refine v_aload_n dX9_isOne_96 rfl (lv_at hl 0 rfl) ?_
           refine k_X9_isFigure h qmX9_263 (by decide) hl.1 (Nat.le_of_ble_eq_true rfl) dX9_isOne_97 (fun v2 s h => ?_)
           refine v_if_eq 114 dX9_isOne_100 (by decide) h (fun h => ?_) (fun h => ?_)
           · exact L_X9_isOne_114 N  s ls (lv_sub hl [] rfl) h
           · refine v_aload_n dX9_isOne_103 rfl (lv_at hl 0 rfl) ?_
             refine k_X9_isFraction h qmX9_283 (by decide) hl.1 (Nat.le_of_ble_eq_true rfl) dX9_isOne_104 (fun v3 s h => ?_)
             refine v_if_eq 114 dX9_isOne_107 (by decide) h (fun h => ?_) (fun h => ?_)
             · exact L_X9_isOne_114 N  s ls (lv_sub hl [] rfl) h
             · refine v_iconst (1 : Int32) dX9_isOne_110 (by decide) ?_
               refine v_goto 115 dX9_isOne_111 (by decide) ?_
               exact L_X9_isOne_115 N (1 : Int32) s ls (lv_sub hl [] rfl) h
         · exact L_X9_isOne_88 N a0 l1 s ls (lv_sub hl [0, 1] rfl) h
     · exact L_X9_isOne_17 N (H_X9_isOne_5 N n) ih a0 l1 s ls (lv_sub hl [0, 1] rfl) h
theorem vl_X9_isOne : vCl yX9_isOne cX9_isOne 2 (some .boolean) 0 := ⟨qy_X9_isOne, qjX9, by decide +kernel, by decide +kernel, by decide +kernel⟩
set_option maxHeartbeats 4000000 in
set_option maxRecDepth 100000 in
theorem c_X9_isOne {l : Launch} {D : va_G} {ka : Nat → ClassId} (X0 : VX) (N : Nat) (a0 : Nat) (s sF : vS) (r : Int32) (h : F_X9_isOne N a0 s = some (r, sF)) : isO s a0 9 = true ∧ vMet l D ka (xb X0) yX9_isOne cX9_isOne 2 (some .boolean) 4 88 [.ref (xb X0 + a0)] s sF (some (.int r)) := by
  unfold F_X9_isOne at h
  unfold rcv at h
  obtain ⟨hO, h⟩ := v_chk h
  refine ⟨hO, vMet.of (ini := false) X0 (plainFor_of_name (by decide +kernel)) (Nat.le_of_ble_eq_true rfl) (fun h => by cases h) (fun X ls hb hl => ?_) rfl⟩
  show V X (cX9_isOne, RX9, 2, 4, 88, false) (vRet sF (some (.int r)) (some .boolean)) sF s (G0 X 0 ls [])
  rw [← hb] at hl
  have hl : lv_has ls 2 [(0, .ref (xb X + a0))] := hl
  refine v_aload_n dX9_isOne_0 rfl (lv_at hl 0 rfl) ?_
  refine k_X9_here h qmX9_259 (by decide) hl.1 (Nat.le_of_ble_eq_true rfl) dX9_isOne_1 (fun v1 s h => ?_)
  refine v_istore_n [(1, .int v1), (0, .ref (xb X + a0))] dX9_isOne_4 rfl hl (by decide) rfl (fun ls hl => ?_)
  exact L_X9_isOne_5 N N a0 v1 s ls (lv_sub hl [1, 0] rfl) h
theorem k_X9_isOne {X : VX} {cc : ByteArray} {own : String} {nL fr lo : Nat} {ini : Bool} {E : VX → Prop} {sF s : vS} {ρ : Type} {res : ρ} {pc : Nat} {ls : Array Slot} {rest : List Value} {N index : Nat} {a0 : Nat} {f : Int32 → vS → Option ρ} (h : bnd (F_X9_isOne N a0 s) f = some res) (hlink : Cond.methodLink own index yX9_isOne ∈ TT) (hR : 4 + 1 ≤ fr ∧ 8 + (2 + 11) + 88 ≤ lo) (hls : ls.size = nL) (hr : (rest.map fun v => v.category).sum ≤ 8) (hdg : decode cc pc = .ok (.invokevirtual index, 3)) (kk : ∀ r s', f r s' = some res → V X (cc, own, nL, fr, lo, ini) E sF s' (G0 X (pc + 3) ls (.int r :: rest))) : V X (cc, own, nL, fr, lo, ini) E sF s (G0 X pc ls (.ref (xb X + a0) :: rest)) := by
  obtain ⟨r, s', e, h⟩ := bnd_some h
  exact v_callV (b := a0) (ci := 9) (As := []) (rest := rest) (c_X9_isOne X N a0 s s' r e).2 (c_X9_isOne (l := xl X) (D := xD X) (ka := xka X) X N a0 s s' r e).1 rfl vl_X9_isOne qi_X9_isOne qe_X9_isOne hlink hR rfl rfl hls hr hdg (kk r s' h)
set_option maxHeartbeats 4000000 in
set_option maxRecDepth 100000 in
theorem L_X9_isText_165 {X : VX} {sF : vS} {r : Int32} (N : Nat) (k24 : Nat → vS → Option (Int32 × vS)) (hk24 : ∀ (a0 : Nat) (s : vS) (ls : Array Slot), lv_has ls 2 [(0, .ref (xb X + a0))] → k24 a0 s = some (r, sF) → V X (cX9_isText, RX9, 2, 5, 109, false) (vRet sF (some (.int r)) (some .boolean)) sF s (G0 X 24 ls [])) (a0 : Nat) (s : vS) (ls : Array Slot) (hl : lv_has ls 2 [(0, .ref (xb X + a0))]) (h : J_X9_isText_165 N k24 a0 s = some (r, sF)) : V X (cX9_isText, RX9, 2, 5, 109, false) (vRet sF (some (.int r)) (some .boolean)) sF s (G0 X 165 ls []) := by
  unfold J_X9_isText_165 at h
  refine v_goto 24 dX9_isText_165 (by decide) ?_
  exact hk24 a0 s ls (lv_sub hl [0] rfl) h
set_option maxHeartbeats 4000000 in
set_option maxRecDepth 100000 in
theorem L_X9_isText_163 {X : VX} {sF : vS} {r : Int32} (N : Nat) (s : vS) (ls : Array Slot) (hl : lv_has ls 2 []) (h : J_X9_isText_163 N  s = some (r, sF)) : V X (cX9_isText, RX9, 2, 5, 109, false) (vRet sF (some (.int r)) (some .boolean)) sF s (G0 X 163 ls []) := by
  unfold J_X9_isText_163 at h
  refine v_iconst (0 : Int32) dX9_isText_163 (by decide) ?_
  exact v_zret dX9_isText_164 h
set_option maxHeartbeats 4000000 in
set_option maxRecDepth 100000 in
theorem L_X9_isText_126 {X : VX} {sF : vS} {r : Int32} (N : Nat) (k24 : Nat → vS → Option (Int32 × vS)) (hk24 : ∀ (a0 : Nat) (s : vS) (ls : Array Slot), lv_has ls 2 [(0, .ref (xb X + a0))] → k24 a0 s = some (r, sF) → V X (cX9_isText, RX9, 2, 5, 109, false) (vRet sF (some (.int r)) (some .boolean)) sF s (G0 X 24 ls [])) (a0 : Nat) (l1 : Int32) (k0 : Int32) (k1 : Int32) (s : vS) (ls : Array Slot) (hl : lv_has ls 2 [(0, .ref (xb X + a0)), (1, .int l1)]) (h : J_X9_isText_126 N k24 a0 l1 k0 k1 s = some (r, sF)) : V X (cX9_isText, RX9, 2, 5, 109, false) (vRet sF (some (.int r)) (some .boolean)) sF s (G0 X 126 ls [.int k1, .int k0]) := by
  unfold J_X9_isText_126 at h
  refine v_icmp_ne 163 dX9_isText_126 (by decide) h (fun h => ?_) (fun h => ?_)
  · exact L_X9_isText_163 N  s ls (lv_sub hl [] rfl) h
  · refine v_aload_n dX9_isText_129 rfl (lv_at hl 0 rfl) ?_
    refine v_dup dX9_isText_130 rfl ?_
    refine v_getI 9 35 h (by decide) (Or.inl rfl) qfX9_277 dX9_isText_131 (fun v14 h => ?_)
    refine v_iconst (1 : Int32) dX9_isText_134 (by decide) ?_
    refine v_isub dX9_isText_135 ?_
    refine v_putI 9 35 h (by decide) rfl (Or.inl rfl) qfX9_277 dX9_isText_136 (fun s h => ?_)
    refine v_aload_n dX9_isText_139 rfl (lv_at hl 0 rfl) ?_
    refine v_iload_n dX9_isText_140 rfl (lv_at hl 1 rfl) ?_
    refine v_aload_n dX9_isText_141 rfl (lv_at hl 0 rfl) ?_
    refine v_getI 9 29 h (by decide) (Or.inl rfl) qfX9_256 dX9_isText_142 (fun v15 h => ?_)
    refine v_iconst (0 : Int32) dX9_isText_145 (by decide) ?_
    refine v_iconst (0 : Int32) dX9_isText_146 (by decide) ?_
    refine k_X9_add h qmX9_273 (by decide) hl.1 (Nat.le_of_ble_eq_true rfl) dX9_isText_147 (fun v16 s h => ?_)
    refine v_aload_n dX9_isText_150 rfl (lv_at hl 0 rfl) ?_
    refine v_dup dX9_isText_151 rfl ?_
    refine v_getI 9 29 h (by decide) (Or.inl rfl) qfX9_256 dX9_isText_152 (fun v17 h => ?_)
    refine v_iconst (1 : Int32) dX9_isText_155 (by decide) ?_
    refine v_iadd dX9_isText_156 ?_
    refine v_putI 9 29 h (by decide) rfl (Or.inl rfl) qfX9_256 dX9_isText_157 (fun s h => ?_)
    refine v_goto 165 dX9_isText_160 (by decide) ?_
    exact L_X9_isText_165 N k24 hk24 a0 s ls (lv_sub hl [0] rfl) h
set_option maxHeartbeats 4000000 in
set_option maxRecDepth 100000 in
theorem L_X9_isText_65 {X : VX} {sF : vS} {r : Int32} (N : Nat) (k24 : Nat → vS → Option (Int32 × vS)) (hk24 : ∀ (a0 : Nat) (s : vS) (ls : Array Slot), lv_has ls 2 [(0, .ref (xb X + a0))] → k24 a0 s = some (r, sF) → V X (cX9_isText, RX9, 2, 5, 109, false) (vRet sF (some (.int r)) (some .boolean)) sF s (G0 X 24 ls [])) (a0 : Nat) (l1 : Int32) (s : vS) (ls : Array Slot) (hl : lv_has ls 2 [(0, .ref (xb X + a0)), (1, .int l1)]) (h : J_X9_isText_65 N k24 a0 l1 s = some (r, sF)) : V X (cX9_isText, RX9, 2, 5, 109, false) (vRet sF (some (.int r)) (some .boolean)) sF s (G0 X 65 ls []) := by
  unfold J_X9_isText_65 at h
  refine v_aload_n dX9_isText_65 rfl (lv_at hl 0 rfl) ?_
  refine v_iload_n dX9_isText_66 rfl (lv_at hl 1 rfl) ?_
  refine v_aload_n dX9_isText_67 rfl (lv_at hl 0 rfl) ?_
  refine v_getI 9 29 h (by decide) (Or.inl rfl) qfX9_256 dX9_isText_68 (fun v10 h => ?_)
  refine v_iconst (0 : Int32) dX9_isText_71 (by decide) ?_
  refine v_iconst (0 : Int32) dX9_isText_72 (by decide) ?_
  refine k_X9_add h qmX9_273 (by decide) hl.1 (Nat.le_of_ble_eq_true rfl) dX9_isText_73 (fun v11 s h => ?_)
  refine v_aload_n dX9_isText_76 rfl (lv_at hl 0 rfl) ?_
  refine v_dup dX9_isText_77 rfl ?_
  refine v_getI 9 29 h (by decide) (Or.inl rfl) qfX9_256 dX9_isText_78 (fun v12 h => ?_)
  refine v_iconst (1 : Int32) dX9_isText_81 (by decide) ?_
  refine v_iadd dX9_isText_82 ?_
  refine v_putI 9 29 h (by decide) rfl (Or.inl rfl) qfX9_256 dX9_isText_83 (fun s h => ?_)
  refine v_aload_n dX9_isText_86 rfl (lv_at hl 0 rfl) ?_
  refine k_X9_isOne h qmX9_286 (by decide) hl.1 (Nat.le_of_ble_eq_true rfl) dX9_isText_87 (fun v13 s h => ?_)
  refine v_if_ne 165 dX9_isText_90 (by decide) h (fun h => ?_) (fun h => ?_)
  · exact L_X9_isText_165 N k24 hk24 a0 s ls (lv_sub hl [0] rfl) h
  · refine v_iconst (0 : Int32) dX9_isText_93 (by decide) ?_
    exact v_zret dX9_isText_94 h
set_option maxHeartbeats 4000000 in
set_option maxRecDepth 100000 in
theorem L_X9_isText_42 {X : VX} {sF : vS} {r : Int32} (N : Nat) (k24 : Nat → vS → Option (Int32 × vS)) (hk24 : ∀ (a0 : Nat) (s : vS) (ls : Array Slot), lv_has ls 2 [(0, .ref (xb X + a0))] → k24 a0 s = some (r, sF) → V X (cX9_isText, RX9, 2, 5, 109, false) (vRet sF (some (.int r)) (some .boolean)) sF s (G0 X 24 ls [])) (a0 : Nat) (s : vS) (ls : Array Slot) (hl : lv_has ls 2 [(0, .ref (xb X + a0))]) (h : J_X9_isText_42 N k24 a0 s = some (r, sF)) : V X (cX9_isText, RX9, 2, 5, 109, false) (vRet sF (some (.int r)) (some .boolean)) sF s (G0 X 42 ls []) := by
  unfold J_X9_isText_42 at h
  refine v_aload_n dX9_isText_42 rfl (lv_at hl 0 rfl) ?_
  refine k_X9_here h qmX9_259 (by decide) hl.1 (Nat.le_of_ble_eq_true rfl) dX9_isText_43 (fun v5 s h => ?_)
  refine v_istore_n [(1, .int v5), (0, .ref (xb X + a0))] dX9_isText_46 rfl hl (by decide) rfl (fun ls hl => ?_)
  refine v_iload_n dX9_isText_47 rfl (lv_at hl 0 rfl) ?_
  refine v_bipush (43 : Int32) dX9_isText_48 (by decide) ?_
  refine v_icmp_eq 65 dX9_isText_50 (by decide) h (fun h => ?_) (fun h => ?_)
  · exact L_X9_isText_65 N k24 hk24 a0 v5 s ls (lv_sub hl [1, 0] rfl) h
  · refine v_iload_n dX9_isText_53 rfl (lv_at hl 0 rfl) ?_
    refine v_bipush (45 : Int32) dX9_isText_54 (by decide) ?_
    refine v_icmp_eq 65 dX9_isText_56 (by decide) h (fun h => ?_) (fun h => ?_)
    · exact L_X9_isText_65 N k24 hk24 a0 v5 s ls (lv_sub hl [1, 0] rfl) h
    · refine v_iload_n dX9_isText_59 rfl (lv_at hl 0 rfl) ?_
      refine v_bipush (42 : Int32) dX9_isText_60 (by decide) ?_
      refine v_icmp_ne 95 dX9_isText_62 (by decide) h (fun h => ?_) (fun h => ?_)
      · refine v_aload_n dX9_isText_95 rfl (lv_at hl 1 rfl) ?_
        refine v_getI 9 35 h (by decide) (Or.inl rfl) qfX9_277 dX9_isText_96 (fun v6 h => ?_)
        refine v_if_le 163 dX9_isText_99 (by decide) h (fun h => ?_) (fun h => ?_)
        · exact L_X9_isText_163 N  s ls (lv_sub hl [] rfl) h
        · refine v_iload_n dX9_isText_102 rfl (lv_at hl 0 rfl) ?_
          refine v_aload_n dX9_isText_103 rfl (lv_at hl 1 rfl) ?_
          refine v_getR 9 36 h (by decide) rfl qfX9_108 dX9_isText_104 (fun r7 h => ?_)
          refine v_aload_n dX9_isText_107 rfl (lv_at hl 1 rfl) ?_
          refine v_getI 9 35 h (by decide) (Or.inl rfl) qfX9_277 dX9_isText_108 (fun v8 h => ?_)
          refine v_iconst (1 : Int32) dX9_isText_111 (by decide) ?_
          refine v_isub dX9_isText_112 ?_
          refine v_iald dX9_isText_113 h (fun v9 h => ?_)
          refine v_bipush (40 : Int32) dX9_isText_114 (by decide) ?_
          refine v_icmp_ne 124 dX9_isText_116 (by decide) h (fun h => ?_) (fun h => ?_)
          · refine v_bipush (125 : Int32) dX9_isText_124 (by decide) ?_
            exact L_X9_isText_126 N k24 hk24 a0 v5 v5 (125 : Int32) s ls (lv_sub hl [1, 0] rfl) h
          · refine v_bipush (41 : Int32) dX9_isText_119 (by decide) ?_
            refine v_goto 126 dX9_isText_121 (by decide) ?_
            exact L_X9_isText_126 N k24 hk24 a0 v5 v5 (41 : Int32) s ls (lv_sub hl [1, 0] rfl) h
      · exact L_X9_isText_65 N k24 hk24 a0 v5 s ls (lv_sub hl [1, 0] rfl) h
set_option maxHeartbeats 4000000 in
set_option maxRecDepth 100000 in
theorem L_X9_isText_24 {X : VX} {sF : vS} {r : Int32} (N : Nat) : ∀ (n : Nat) (a0 : Nat) (s : vS) (ls : Array Slot), lv_has ls 2 [(0, .ref (xb X + a0))] → H_X9_isText_24 N n a0 s = some (r, sF) → V X (cX9_isText, RX9, 2, 5, 109, false) (vRet sF (some (.int r)) (some .boolean)) sF s (G0 X 24 ls []) := by
  intro n
  induction n with
  | zero => intro a0 s ls hl h; cases h
  | succ n ih =>
   intro a0 s ls hl h
   unfold H_X9_isText_24 at h
   refine v_aload_n dX9_isText_24 rfl (lv_at hl 0 rfl) ?_
   refine v_getI 9 29 h (by decide) (Or.inl rfl) qfX9_256 dX9_isText_25 (fun v2 h => ?_)
   refine v_aload_n dX9_isText_28 rfl (lv_at hl 0 rfl) ?_
   refine v_getI 9 13 h (by decide) (Or.inl rfl) qfX9_253 dX9_isText_29 (fun v3 h => ?_)
   refine v_icmp_lt 42 dX9_isText_32 (by decide) h (fun h => ?_) (fun h => ?_)
   · exact L_X9_isText_42 N (H_X9_isText_24 N n) ih a0 s ls (lv_sub hl [0] rfl) h
   · refine v_aload_n dX9_isText_35 rfl (lv_at hl 0 rfl) ?_
     refine v_getI 9 35 h (by decide) (Or.inl rfl) qfX9_277 dX9_isText_36 (fun v4 h => ?_)
     refine v_if_le 168 dX9_isText_39 (by decide) h (fun h => ?_) (fun h => ?_)
     · refine v_iconst (1 : Int32) dX9_isText_168 (by decide) ?_
       exact v_zret dX9_isText_169 h
     · exact L_X9_isText_42 N (H_X9_isText_24 N n) ih a0 s ls (lv_sub hl [0] rfl) h
theorem vl_X9_isText : vCl yX9_isText cX9_isText 2 (some .boolean) 0 := ⟨qy_X9_isText, qjX9, by decide +kernel, by decide +kernel, by decide +kernel⟩
set_option maxHeartbeats 4000000 in
set_option maxRecDepth 100000 in
theorem c_X9_isText {l : Launch} {D : va_G} {ka : Nat → ClassId} (X0 : VX) (N : Nat) (a0 : Nat) (s sF : vS) (r : Int32) (h : F_X9_isText N a0 s = some (r, sF)) : isO s a0 9 = true ∧ vMet l D ka (xb X0) yX9_isText cX9_isText 2 (some .boolean) 5 109 [.ref (xb X0 + a0)] s sF (some (.int r)) := by
  unfold F_X9_isText at h
  unfold rcv at h
  obtain ⟨hO, h⟩ := v_chk h
  refine ⟨hO, vMet.of (ini := false) X0 (plainFor_of_name (by decide +kernel)) (Nat.le_of_ble_eq_true rfl) (fun h => by cases h) (fun X ls hb hl => ?_) rfl⟩
  show V X (cX9_isText, RX9, 2, 5, 109, false) (vRet sF (some (.int r)) (some .boolean)) sF s (G0 X 0 ls [])
  rw [← hb] at hl
  have hl : lv_has ls 2 [(0, .ref (xb X + a0))] := hl
  refine v_aload_n dX9_isText_0 rfl (lv_at hl 0 rfl) ?_
  refine v_iconst (0 : Int32) dX9_isText_1 (by decide) ?_
  refine v_putI 9 29 h (by decide) rfl (Or.inl rfl) qfX9_256 dX9_isText_2 (fun s h => ?_)
  refine v_aload_n dX9_isText_5 rfl (lv_at hl 0 rfl) ?_
  refine v_iconst (0 : Int32) dX9_isText_6 (by decide) ?_
  refine v_putI 9 30 h (by decide) rfl (Or.inl rfl) qfX9_267 dX9_isText_7 (fun s h => ?_)
  refine v_aload_n dX9_isText_10 rfl (lv_at hl 0 rfl) ?_
  refine v_iconst (0 : Int32) dX9_isText_11 (by decide) ?_
  refine v_putI 9 35 h (by decide) rfl (Or.inl rfl) qfX9_277 dX9_isText_12 (fun s h => ?_)
  refine v_aload_n dX9_isText_15 rfl (lv_at hl 0 rfl) ?_
  refine k_X9_isOne h qmX9_286 (by decide) hl.1 (Nat.le_of_ble_eq_true rfl) dX9_isText_16 (fun v1 s h => ?_)
  refine v_if_ne 24 dX9_isText_19 (by decide) h (fun h => ?_) (fun h => ?_)
  · exact L_X9_isText_24 N N a0 s ls (lv_sub hl [0] rfl) h
  · refine v_iconst (0 : Int32) dX9_isText_22 (by decide) ?_
    exact v_zret dX9_isText_23 h
theorem k_X9_isText {X : VX} {cc : ByteArray} {own : String} {nL fr lo : Nat} {ini : Bool} {E : VX → Prop} {sF s : vS} {ρ : Type} {res : ρ} {pc : Nat} {ls : Array Slot} {rest : List Value} {N index : Nat} {a0 : Nat} {f : Int32 → vS → Option ρ} (h : bnd (F_X9_isText N a0 s) f = some res) (hlink : Cond.methodLink own index yX9_isText ∈ TT) (hR : 5 + 1 ≤ fr ∧ 8 + (2 + 11) + 109 ≤ lo) (hls : ls.size = nL) (hr : (rest.map fun v => v.category).sum ≤ 8) (hdg : decode cc pc = .ok (.invokevirtual index, 3)) (kk : ∀ r s', f r s' = some res → V X (cc, own, nL, fr, lo, ini) E sF s' (G0 X (pc + 3) ls (.int r :: rest))) : V X (cc, own, nL, fr, lo, ini) E sF s (G0 X pc ls (.ref (xb X + a0) :: rest)) := by
  obtain ⟨r, s', e, h⟩ := bnd_some h
  exact v_callV (b := a0) (ci := 9) (As := []) (rest := rest) (c_X9_isText X N a0 s s' r e).2 (c_X9_isText (l := xl X) (D := xD X) (ka := xka X) X N a0 s s' r e).1 rfl vl_X9_isText qi_X9_isText qe_X9_isText hlink hR rfl rfl hls hr hdg (kk r s' h)
theorem vl_X9_sumRow : vCl yX9_sumRow cX9_sumRow 1 (some .int) 0 := ⟨qy_X9_sumRow, qjX9, by decide +kernel, by decide +kernel, by decide +kernel⟩
set_option maxHeartbeats 4000000 in
set_option maxRecDepth 100000 in
theorem c_X9_sumRow {l : Launch} {D : va_G} {ka : Nat → ClassId} (X0 : VX) (N : Nat) (a0 : Nat) (s sF : vS) (r : Int32) (h : F_X9_sumRow N a0 s = some (r, sF)) : isO s a0 9 = true ∧ vMet l D ka (xb X0) yX9_sumRow cX9_sumRow 1 (some .int) 0 0 [.ref (xb X0 + a0)] s sF (some (.int r)) := by
  unfold F_X9_sumRow at h
  unfold rcv at h
  obtain ⟨hO, h⟩ := v_chk h
  refine ⟨hO, vMet.of (ini := false) X0 (plainFor_of_name (by decide +kernel)) (Nat.le_of_ble_eq_true rfl) (fun h => by cases h) (fun X ls hb hl => ?_) rfl⟩
  show V X (cX9_sumRow, RX9, 1, 0, 0, false) (vRet sF (some (.int r)) (some .int)) sF s (G0 X 0 ls [])
  rw [← hb] at hl
  have hl : lv_has ls 1 [(0, .ref (xb X + a0))] := hl
  refine v_iconst (4 : Int32) dX9_sumRow_0 (by decide) ?_
  refine v_iconst (2 : Int32) dX9_sumRow_1 (by decide) ?_
  refine v_aload_n dX9_sumRow_2 rfl (lv_at hl 0 rfl) ?_
  refine v_getI 9 37 h (by decide) (Or.inl rfl) qfX9_289 dX9_sumRow_3 (fun v1 h => ?_)
  refine v_imul dX9_sumRow_6 ?_
  refine v_iadd dX9_sumRow_7 ?_
  exact v_iret dX9_sumRow_8 h
theorem k_X9_sumRow {X : VX} {cc : ByteArray} {own : String} {nL fr lo : Nat} {ini : Bool} {E : VX → Prop} {sF s : vS} {ρ : Type} {res : ρ} {pc : Nat} {ls : Array Slot} {rest : List Value} {N index : Nat} {a0 : Nat} {f : Int32 → vS → Option ρ} (h : bnd (F_X9_sumRow N a0 s) f = some res) (hlink : Cond.methodLink own index yX9_sumRow ∈ TT) (hR : 0 + 1 ≤ fr ∧ 8 + (1 + 11) + 0 ≤ lo) (hls : ls.size = nL) (hr : (rest.map fun v => v.category).sum ≤ 8) (hdg : decode cc pc = .ok (.invokevirtual index, 3)) (kk : ∀ r s', f r s' = some res → V X (cc, own, nL, fr, lo, ini) E sF s' (G0 X (pc + 3) ls (.int r :: rest))) : V X (cc, own, nL, fr, lo, ini) E sF s (G0 X pc ls (.ref (xb X + a0) :: rest)) := by
  obtain ⟨r, s', e, h⟩ := bnd_some h
  exact v_callV (b := a0) (ci := 9) (As := []) (rest := rest) (c_X9_sumRow X N a0 s s' r e).2 (c_X9_sumRow (l := xl X) (D := xD X) (ka := xka X) X N a0 s s' r e).1 rfl vl_X9_sumRow qi_X9_sumRow qe_X9_sumRow hlink hR rfl rfl hls hr hdg (kk r s' h)
set_option maxHeartbeats 4000000 in
set_option maxRecDepth 100000 in
theorem L_X9_blame_27 {X : VX} {sF : vS} {r : Unit} (N : Nat) (k0 : Nat) (k1 : Int32) (s : vS) (ls : Array Slot) (hl : lv_has ls 3 []) (h : J_X9_blame_27 N k0 k1 s = some (r, sF)) : V X (cX9_blame, RX9, 3, 0, 0, false) (vRet sF none none) sF s (G0 X 27 ls [.int k1, .ref (xb X + k0)]) := by
  unfold J_X9_blame_27 at h
  refine v_putI 9 43 h (by decide) rfl (Or.inl rfl) qfX9_292 dX9_blame_27 (fun s h => ?_)
  exact v_vret dX9_blame_30 h
theorem vl_X9_blame : vCl yX9_blame cX9_blame 3 none 2 := ⟨qy_X9_blame, qjX9, by decide +kernel, by decide +kernel, by decide +kernel⟩
set_option maxHeartbeats 4000000 in
set_option maxRecDepth 100000 in
theorem c_X9_blame {l : Launch} {D : va_G} {ka : Nat → ClassId} (X0 : VX) (N : Nat) (a0 : Nat) (l1 : Int32) (l2 : Int32) (s sF : vS) (r : Unit) (h : F_X9_blame N a0 l1 l2 s = some (r, sF)) : isO s a0 9 = true ∧ vMet l D ka (xb X0) yX9_blame cX9_blame 3 none 0 0 [.ref (xb X0 + a0), .int l1, .int l2] s sF none := by
  unfold F_X9_blame at h
  unfold rcv at h
  obtain ⟨hO, h⟩ := v_chk h
  refine ⟨hO, vMet.of (ini := false) X0 (plainFor_of_name (by decide +kernel)) (Nat.le_of_ble_eq_true rfl) (fun h => by cases h) (fun X ls hb hl => ?_) rfl⟩
  show V X (cX9_blame, RX9, 3, 0, 0, false) (vRet sF none none) sF s (G0 X 0 ls [])
  rw [← hb] at hl
  have hl : lv_has ls 3 [(0, .ref (xb X + a0)), (1, .int l1), (2, .int l2)] := hl
  refine v_aload_n dX9_blame_0 rfl (lv_at hl 0 rfl) ?_
  refine v_aload_n dX9_blame_1 rfl (lv_at hl 0 rfl) ?_
  refine v_getI 9 43 h (by decide) (Or.inl rfl) qfX9_292 dX9_blame_2 (fun v1 h => ?_)
  refine v_if_ne 23 dX9_blame_5 (by decide) h (fun h => ?_) (fun h => ?_)
  · refine v_aload_n dX9_blame_23 rfl (lv_at hl 0 rfl) ?_
    refine v_getI 9 43 h (by decide) (Or.inl rfl) qfX9_292 dX9_blame_24 (fun v2 h => ?_)
    exact L_X9_blame_27 N a0 v2 s ls (lv_sub hl [] rfl) h
  · refine v_sipush (-1000 : Int32) dX9_blame_8 (by decide) ?_
    refine v_iload_n dX9_blame_11 rfl (lv_at hl 1 rfl) ?_
    refine v_imul dX9_blame_12 ?_
    refine v_aload_n dX9_blame_13 rfl (lv_at hl 0 rfl) ?_
    refine v_getR 9 32 h (by decide) rfl qfX9_99 dX9_blame_14 (fun r3 h => ?_)
    refine v_iload_n dX9_blame_17 rfl (lv_at hl 2 rfl) ?_
    refine v_iald dX9_blame_18 h (fun v4 h => ?_)
    refine v_isub dX9_blame_19 ?_
    refine v_goto 27 dX9_blame_20 (by decide) ?_
    exact L_X9_blame_27 N a0 (((-1000 : Int32) * l1) - v4) s ls (lv_sub hl [] rfl) h
theorem k_X9_blame {X : VX} {cc : ByteArray} {own : String} {nL fr lo : Nat} {ini : Bool} {E : VX → Prop} {sF s : vS} {ρ : Type} {res : ρ} {pc : Nat} {ls : Array Slot} {rest : List Value} {N index : Nat} {a0 : Nat} {l1 : Int32} {l2 : Int32} {f : Unit → vS → Option ρ} (h : bnd (F_X9_blame N a0 l1 l2 s) f = some res) (hlink : Cond.methodLink own index yX9_blame ∈ TT) (hR : 0 + 1 ≤ fr ∧ 8 + (3 + 11) + 0 ≤ lo) (hls : ls.size = nL) (hr : (rest.map fun v => v.category).sum ≤ 8) (hdg : decode cc pc = .ok (.invokevirtual index, 3)) (kk : ∀ r s', f r s' = some res → V X (cc, own, nL, fr, lo, ini) E sF s' (G0 X (pc + 3) ls (rest))) : V X (cc, own, nL, fr, lo, ini) E sF s (G0 X pc ls (.int l2 :: .int l1 :: .ref (xb X + a0) :: rest)) := by
  obtain ⟨r, s', e, h⟩ := bnd_some h
  exact v_callV (b := a0) (ci := 9) (As := [.int l1, .int l2]) (rest := rest) (c_X9_blame X N a0 l1 l2 s s' r e).2 (c_X9_blame (l := xl X) (D := xD X) (ka := xka X) X N a0 l1 l2 s s' r e).1 rfl vl_X9_blame qi_X9_blame qe_X9_blame hlink hR rfl rfl hls hr hdg (kk r s' h)
set_option maxHeartbeats 4000000 in
set_option maxRecDepth 100000 in
theorem L_X9_comes_114 {X : VX} {sF : vS} {r : Unit} (N : Nat) (s : vS) (ls : Array Slot) (hl : lv_has ls 3 []) (h : J_X9_comes_114 N  s = some (r, sF)) : V X (cX9_comes, RX9, 3, 6, 174, false) (vRet sF none none) sF s (G0 X 114 ls []) := by
  unfold J_X9_comes_114 at h
  exact v_vret dX9_comes_114 h
set_option maxHeartbeats 4000000 in
set_option maxRecDepth 100000 in
theorem L_X9_comes_101 {X : VX} {sF : vS} {r : Unit} (N : Nat) (a0 : Nat) (l2 : Int32) (s : vS) (ls : Array Slot) (hl : lv_has ls 3 [(0, .ref (xb X + a0)), (2, .int l2)]) (h : J_X9_comes_101 N a0 l2 s = some (r, sF)) : V X (cX9_comes, RX9, 3, 6, 174, false) (vRet sF none none) sF s (G0 X 101 ls []) := by
  unfold J_X9_comes_101 at h
  refine v_aload_n dX9_comes_101 rfl (lv_at hl 0 rfl) ?_
  refine v_getI 9 25 h (by decide) (Or.inr rfl) qfX9_168 dX9_comes_102 (fun v18 h => ?_)
  refine v_if_eq 114 dX9_comes_105 (by decide) h (fun h => ?_) (fun h => ?_)
  · exact L_X9_comes_114 N  s ls (lv_sub hl [] rfl) h
  · refine v_aload_n dX9_comes_108 rfl (lv_at hl 0 rfl) ?_
    refine v_iconst (5 : Int32) dX9_comes_109 (by decide) ?_
    refine v_iload_n dX9_comes_110 rfl (lv_at hl 1 rfl) ?_
    refine k_X9_blame h qmX9_301 (by decide) hl.1 (Nat.le_of_ble_eq_true rfl) dX9_comes_111 (fun v19 s h => ?_)
    exact L_X9_comes_114 N  s ls (lv_sub hl [] rfl) h
theorem vl_X9_comes : vCl yX9_comes cX9_comes 3 none 0 := ⟨qy_X9_comes, qjX9, by decide +kernel, by decide +kernel, by decide +kernel⟩
set_option maxHeartbeats 4000000 in
set_option maxRecDepth 100000 in
theorem c_X9_comes {l : Launch} {D : va_G} {ka : Nat → ClassId} (X0 : VX) (N : Nat) (a0 : Nat) (s sF : vS) (r : Unit) (h : F_X9_comes N a0 s = some (r, sF)) : isO s a0 9 = true ∧ vMet l D ka (xb X0) yX9_comes cX9_comes 3 none 6 174 [.ref (xb X0 + a0)] s sF none := by
  unfold F_X9_comes at h
  unfold rcv at h
  obtain ⟨hO, h⟩ := v_chk h
  refine ⟨hO, vMet.of (ini := false) X0 (plainFor_of_name (by decide +kernel)) (Nat.le_of_ble_eq_true rfl) (fun h => by cases h) (fun X ls hb hl => ?_) rfl⟩
  show V X (cX9_comes, RX9, 3, 6, 174, false) (vRet sF none none) sF s (G0 X 0 ls [])
  rw [← hb] at hl
  have hl : lv_has ls 3 [(0, .ref (xb X + a0))] := hl
  refine v_aload_n dX9_comes_0 rfl (lv_at hl 0 rfl) ?_
  refine k_X9_sumRow h qmX9_295 (by decide) hl.1 (Nat.le_of_ble_eq_true rfl) dX9_comes_1 (fun v1 s h => ?_)
  refine v_iconst (1 : Int32) dX9_comes_4 (by decide) ?_
  refine v_iadd dX9_comes_5 ?_
  refine v_nmI h (fun l1_2 h => ?_)
  refine v_istore_n [(1, .int l1_2), (0, .ref (xb X + a0))] dX9_comes_6 rfl hl (by decide) rfl (fun ls hl => ?_)
  refine v_aload_n dX9_comes_7 rfl (lv_at hl 1 rfl) ?_
  refine v_getR 9 39 h (by decide) rfl qfX9_114 dX9_comes_8 (fun r3 h => ?_)
  refine v_aload_n dX9_comes_11 rfl (lv_at hl 1 rfl) ?_
  refine v_getI 9 37 h (by decide) (Or.inl rfl) qfX9_289 dX9_comes_12 (fun v4 h => ?_)
  refine v_zald dX9_comes_15 h (fun v5 h => ?_)
  refine v_if_ne 37 dX9_comes_16 (by decide) h (fun h => ?_) (fun h => ?_)
  · refine v_aload_n dX9_comes_37 rfl (lv_at hl 1 rfl) ?_
    refine v_getR 9 41 h (by decide) rfl qfX9_120 dX9_comes_38 (fun r6 h => ?_)
    refine v_aload_n dX9_comes_41 rfl (lv_at hl 1 rfl) ?_
    refine v_getI 9 37 h (by decide) (Or.inl rfl) qfX9_289 dX9_comes_42 (fun v7 h => ?_)
    refine v_iald dX9_comes_45 h (fun v8 h => ?_)
    refine v_istore_n [(2, .int v8), (1, .int l1_2), (0, .ref (xb X + a0))] dX9_comes_46 rfl hl (by decide) rfl (fun ls hl => ?_)
    refine v_aload_n dX9_comes_47 rfl (lv_at hl 2 rfl) ?_
    refine v_iload_n dX9_comes_48 rfl (lv_at hl 1 rfl) ?_
    refine v_bipush (12 : Int32) dX9_comes_49 (by decide) ?_
    refine k_X9_areUnlike h qmX9_298 (by decide) hl.1 (Nat.le_of_ble_eq_true rfl) dX9_comes_51 (fun v9 s h => ?_)
    refine v_if_eq 66 dX9_comes_54 (by decide) h (fun h => ?_) (fun h => ?_)
    · refine v_aload_n dX9_comes_66 rfl (lv_at hl 2 rfl) ?_
      refine v_iload_n dX9_comes_67 rfl (lv_at hl 1 rfl) ?_
      refine v_bipush (12 : Int32) dX9_comes_68 (by decide) ?_
      refine k_X9_isTooGreat h qmX9_304 (by decide) hl.1 (Nat.le_of_ble_eq_true rfl) dX9_comes_70 (fun v10 s h => ?_)
      refine v_if_eq 85 dX9_comes_73 (by decide) h (fun h => ?_) (fun h => ?_)
      · refine v_aload_n dX9_comes_85 rfl (lv_at hl 2 rfl) ?_
        refine v_iload_n dX9_comes_86 rfl (lv_at hl 1 rfl) ?_
        refine v_bipush (12 : Int32) dX9_comes_87 (by decide) ?_
        refine v_bipush (13 : Int32) dX9_comes_89 (by decide) ?_
        refine k_X9_multiply h qmX9_307 (by decide) hl.1 (Nat.le_of_ble_eq_true rfl) dX9_comes_91 (fun v11 s h => ?_)
        refine v_aload_n dX9_comes_94 rfl (lv_at hl 2 rfl) ?_
        refine v_bipush (13 : Int32) dX9_comes_95 (by decide) ?_
        refine v_iload_n dX9_comes_97 rfl (lv_at hl 1 rfl) ?_
        refine k_X9_copy h qmX9_182 (by decide) hl.1 (Nat.le_of_ble_eq_true rfl) dX9_comes_98 (fun v12 s h => ?_)
        exact L_X9_comes_101 N a0 v8 s ls (lv_sub hl [2, 0] rfl) h
      · refine v_aload_n dX9_comes_76 rfl (lv_at hl 2 rfl) ?_
        refine v_iconst (4 : Int32) dX9_comes_77 (by decide) ?_
        refine v_iload_n dX9_comes_78 rfl (lv_at hl 0 rfl) ?_
        refine k_X9_blame h qmX9_301 (by decide) hl.1 (Nat.le_of_ble_eq_true rfl) dX9_comes_79 (fun v13 s h => ?_)
        refine v_goto 101 dX9_comes_82 (by decide) ?_
        exact L_X9_comes_101 N a0 v8 s ls (lv_sub hl [2, 0] rfl) h
    · refine v_aload_n dX9_comes_57 rfl (lv_at hl 2 rfl) ?_
      refine v_iconst (3 : Int32) dX9_comes_58 (by decide) ?_
      refine v_iload_n dX9_comes_59 rfl (lv_at hl 0 rfl) ?_
      refine k_X9_blame h qmX9_301 (by decide) hl.1 (Nat.le_of_ble_eq_true rfl) dX9_comes_60 (fun v14 s h => ?_)
      refine v_goto 101 dX9_comes_63 (by decide) ?_
      exact L_X9_comes_101 N a0 v8 s ls (lv_sub hl [2, 0] rfl) h
  · refine v_aload_n dX9_comes_19 rfl (lv_at hl 1 rfl) ?_
    refine v_bipush (12 : Int32) dX9_comes_20 (by decide) ?_
    refine v_iload_n dX9_comes_22 rfl (lv_at hl 0 rfl) ?_
    refine k_X9_copy h qmX9_182 (by decide) hl.1 (Nat.le_of_ble_eq_true rfl) dX9_comes_23 (fun v15 s h => ?_)
    refine v_aload_n dX9_comes_26 rfl (lv_at hl 1 rfl) ?_
    refine v_getR 9 39 h (by decide) rfl qfX9_114 dX9_comes_27 (fun r16 h => ?_)
    refine v_aload_n dX9_comes_30 rfl (lv_at hl 1 rfl) ?_
    refine v_getI 9 37 h (by decide) (Or.inl rfl) qfX9_289 dX9_comes_31 (fun v17 h => ?_)
    refine v_iconst (1 : Int32) dX9_comes_34 (by decide) ?_
    refine v_zast dX9_comes_35 h (fun s h => ?_)
    exact v_vret dX9_comes_36 h
theorem k_X9_comes {X : VX} {cc : ByteArray} {own : String} {nL fr lo : Nat} {ini : Bool} {E : VX → Prop} {sF s : vS} {ρ : Type} {res : ρ} {pc : Nat} {ls : Array Slot} {rest : List Value} {N index : Nat} {a0 : Nat} {f : Unit → vS → Option ρ} (h : bnd (F_X9_comes N a0 s) f = some res) (hlink : Cond.methodLink own index yX9_comes ∈ TT) (hR : 6 + 1 ≤ fr ∧ 8 + (3 + 11) + 174 ≤ lo) (hls : ls.size = nL) (hr : (rest.map fun v => v.category).sum ≤ 8) (hdg : decode cc pc = .ok (.invokevirtual index, 3)) (kk : ∀ r s', f r s' = some res → V X (cc, own, nL, fr, lo, ini) E sF s' (G0 X (pc + 3) ls (rest))) : V X (cc, own, nL, fr, lo, ini) E sF s (G0 X pc ls (.ref (xb X + a0) :: rest)) := by
  obtain ⟨r, s', e, h⟩ := bnd_some h
  exact v_callV (b := a0) (ci := 9) (As := []) (rest := rest) (c_X9_comes X N a0 s s' r e).2 (c_X9_comes (l := xl X) (D := xD X) (ka := xka X) X N a0 s s' r e).1 rfl vl_X9_comes qi_X9_comes qe_X9_comes hlink hR rfl rfl hls hr hdg (kk r s' h)
set_option maxHeartbeats 4000000 in
set_option maxRecDepth 100000 in
theorem L_X9_endProduct_124 {X : VX} {sF : vS} {r : Unit} (N : Nat) (a0 : Nat) (s : vS) (ls : Array Slot) (hl : lv_has ls 3 [(0, .ref (xb X + a0))]) (h : J_X9_endProduct_124 N a0 s = some (r, sF)) : V X (cX9_endProduct, RX9, 3, 5, 143, false) (vRet sF none none) sF s (G0 X 124 ls []) := by
  unfold J_X9_endProduct_124 at h
  refine v_aload_n dX9_endProduct_124 rfl (lv_at hl 0 rfl) ?_
  refine v_getR 9 39 h (by decide) rfl qfX9_114 dX9_endProduct_125 (fun r21 h => ?_)
  refine v_aload_n dX9_endProduct_128 rfl (lv_at hl 0 rfl) ?_
  refine v_getI 9 37 h (by decide) (Or.inl rfl) qfX9_289 dX9_endProduct_129 (fun v22 h => ?_)
  refine v_iconst (0 : Int32) dX9_endProduct_132 (by decide) ?_
  refine v_zast dX9_endProduct_133 h (fun s h => ?_)
  exact v_vret dX9_endProduct_134 h
set_option maxHeartbeats 4000000 in
set_option maxRecDepth 100000 in
theorem L_X9_endProduct_111 {X : VX} {sF : vS} {r : Unit} (N : Nat) (a0 : Nat) (l2 : Int32) (s : vS) (ls : Array Slot) (hl : lv_has ls 3 [(0, .ref (xb X + a0)), (2, .int l2)]) (h : J_X9_endProduct_111 N a0 l2 s = some (r, sF)) : V X (cX9_endProduct, RX9, 3, 5, 143, false) (vRet sF none none) sF s (G0 X 111 ls []) := by
  unfold J_X9_endProduct_111 at h
  refine v_aload_n dX9_endProduct_111 rfl (lv_at hl 0 rfl) ?_
  refine v_getI 9 25 h (by decide) (Or.inr rfl) qfX9_168 dX9_endProduct_112 (fun v19 h => ?_)
  refine v_if_eq 124 dX9_endProduct_115 (by decide) h (fun h => ?_) (fun h => ?_)
  · exact L_X9_endProduct_124 N a0 s ls (lv_sub hl [0] rfl) h
  · refine v_aload_n dX9_endProduct_118 rfl (lv_at hl 0 rfl) ?_
    refine v_iconst (5 : Int32) dX9_endProduct_119 (by decide) ?_
    refine v_iload_n dX9_endProduct_120 rfl (lv_at hl 1 rfl) ?_
    refine k_X9_blame h qmX9_301 (by decide) hl.1 (Nat.le_of_ble_eq_true rfl) dX9_endProduct_121 (fun v20 s h => ?_)
    exact L_X9_endProduct_124 N a0 s ls (lv_sub hl [0] rfl) h
set_option maxHeartbeats 4000000 in
set_option maxRecDepth 100000 in
theorem L_X9_endProduct_99 {X : VX} {sF : vS} {r : Unit} (N : Nat) (a0 : Nat) (l1 : Int32) (l2 : Int32) (k0 : Nat) (k1 : Int32) (k2 : Int32) (k3 : Int64) (s : vS) (ls : Array Slot) (hl : lv_has ls 3 [(0, .ref (xb X + a0)), (1, .int l1), (2, .int l2)]) (h : J_X9_endProduct_99 N a0 l1 l2 k0 k1 k2 k3 s = some (r, sF)) : V X (cX9_endProduct, RX9, 3, 5, 143, false) (vRet sF none none) sF s (G0 X 99 ls [.long k3, .int k2, .int k1, .ref (xb X + k0)]) := by
  unfold J_X9_endProduct_99 at h
  refine v_bipush (13 : Int32) dX9_endProduct_99 (by decide) ?_
  refine k_X9_sumUp h qmX9_310 (by decide) hl.1 (Nat.le_of_ble_eq_true rfl) dX9_endProduct_101 (fun v17 s h => ?_)
  refine v_aload_n dX9_endProduct_104 rfl (lv_at hl 0 rfl) ?_
  refine v_bipush (13 : Int32) dX9_endProduct_105 (by decide) ?_
  refine v_iload_n dX9_endProduct_107 rfl (lv_at hl 1 rfl) ?_
  refine k_X9_copy h qmX9_182 (by decide) hl.1 (Nat.le_of_ble_eq_true rfl) dX9_endProduct_108 (fun v18 s h => ?_)
  exact L_X9_endProduct_111 N a0 l2 s ls (lv_sub hl [0, 2] rfl) h
theorem vl_X9_endProduct : vCl yX9_endProduct cX9_endProduct 3 none 0 := ⟨qy_X9_endProduct, qjX9, by decide +kernel, by decide +kernel, by decide +kernel⟩
set_option maxHeartbeats 4000000 in
set_option maxRecDepth 100000 in
theorem c_X9_endProduct {l : Launch} {D : va_G} {ka : Nat → ClassId} (X0 : VX) (N : Nat) (a0 : Nat) (s sF : vS) (r : Unit) (h : F_X9_endProduct N a0 s = some (r, sF)) : isO s a0 9 = true ∧ vMet l D ka (xb X0) yX9_endProduct cX9_endProduct 3 none 5 143 [.ref (xb X0 + a0)] s sF none := by
  unfold F_X9_endProduct at h
  unfold rcv at h
  obtain ⟨hO, h⟩ := v_chk h
  refine ⟨hO, vMet.of (ini := false) X0 (plainFor_of_name (by decide +kernel)) (Nat.le_of_ble_eq_true rfl) (fun h => by cases h) (fun X ls hb hl => ?_) rfl⟩
  show V X (cX9_endProduct, RX9, 3, 5, 143, false) (vRet sF none none) sF s (G0 X 0 ls [])
  rw [← hb] at hl
  have hl : lv_has ls 3 [(0, .ref (xb X + a0))] := hl
  refine v_aload_n dX9_endProduct_0 rfl (lv_at hl 0 rfl) ?_
  refine k_X9_sumRow h qmX9_295 (by decide) hl.1 (Nat.le_of_ble_eq_true rfl) dX9_endProduct_1 (fun v1 s h => ?_)
  refine v_istore_n [(1, .int v1), (0, .ref (xb X + a0))] dX9_endProduct_4 rfl hl (by decide) rfl (fun ls hl => ?_)
  refine v_aload_n dX9_endProduct_5 rfl (lv_at hl 1 rfl) ?_
  refine v_getR 9 38 h (by decide) rfl qfX9_111 dX9_endProduct_6 (fun r2 h => ?_)
  refine v_aload_n dX9_endProduct_9 rfl (lv_at hl 1 rfl) ?_
  refine v_getI 9 37 h (by decide) (Or.inl rfl) qfX9_289 dX9_endProduct_10 (fun v3 h => ?_)
  refine v_zald dX9_endProduct_13 h (fun v4 h => ?_)
  refine v_if_ne 46 dX9_endProduct_14 (by decide) h (fun h => ?_) (fun h => ?_)
  · refine v_aload_n dX9_endProduct_46 rfl (lv_at hl 1 rfl) ?_
    refine v_getR 9 40 h (by decide) rfl qfX9_117 dX9_endProduct_47 (fun r5 h => ?_)
    refine v_aload_n dX9_endProduct_50 rfl (lv_at hl 1 rfl) ?_
    refine v_getI 9 37 h (by decide) (Or.inl rfl) qfX9_289 dX9_endProduct_51 (fun v6 h => ?_)
    refine v_iald dX9_endProduct_54 h (fun v7 h => ?_)
    refine v_istore_n [(2, .int v7), (1, .int v1), (0, .ref (xb X + a0))] dX9_endProduct_55 rfl hl (by decide) rfl (fun ls hl => ?_)
    refine v_aload_n dX9_endProduct_56 rfl (lv_at hl 2 rfl) ?_
    refine v_iload_n dX9_endProduct_57 rfl (lv_at hl 1 rfl) ?_
    refine v_iload_n dX9_endProduct_58 rfl (lv_at hl 1 rfl) ?_
    refine v_iconst (1 : Int32) dX9_endProduct_59 (by decide) ?_
    refine v_iadd dX9_endProduct_60 ?_
    refine k_X9_areUnlike h qmX9_298 (by decide) hl.1 (Nat.le_of_ble_eq_true rfl) dX9_endProduct_61 (fun v8 s h => ?_)
    refine v_if_eq 76 dX9_endProduct_64 (by decide) h (fun h => ?_) (fun h => ?_)
    · refine v_aload_n dX9_endProduct_76 rfl (lv_at hl 2 rfl) ?_
      refine v_iload_n dX9_endProduct_77 rfl (lv_at hl 1 rfl) ?_
      refine v_iload_n dX9_endProduct_78 rfl (lv_at hl 1 rfl) ?_
      refine v_iconst (1 : Int32) dX9_endProduct_79 (by decide) ?_
      refine v_iadd dX9_endProduct_80 ?_
      refine v_aload_n dX9_endProduct_81 rfl (lv_at hl 2 rfl) ?_
      refine v_getR 9 31 h (by decide) rfl qfX9_96 dX9_endProduct_82 (fun r9 h => ?_)
      refine v_iload_n dX9_endProduct_85 rfl (lv_at hl 0 rfl) ?_
      refine v_iald dX9_endProduct_86 h (fun v10 h => ?_)
      refine v_bipush (45 : Int32) dX9_endProduct_87 (by decide) ?_
      refine v_icmp_ne 98 dX9_endProduct_89 (by decide) h (fun h => ?_) (fun h => ?_)
      · refine v_lconst (1 : Int64) dX9_endProduct_98 (by decide) ?_
        exact L_X9_endProduct_99 N a0 v1 v7 a0 v1 (v1 + (1 : Int32)) (1 : Int64) s ls (lv_sub hl [2, 1, 0] rfl) h
      · refine v_ldc2 qkX9_164 dX9_endProduct_92 ?_
        refine v_goto 99 dX9_endProduct_95 (by decide) ?_
        exact L_X9_endProduct_99 N a0 v1 v7 a0 v1 (v1 + (1 : Int32)) (-1 : Int64) s ls (lv_sub hl [2, 1, 0] rfl) h
    · refine v_aload_n dX9_endProduct_67 rfl (lv_at hl 2 rfl) ?_
      refine v_iconst (3 : Int32) dX9_endProduct_68 (by decide) ?_
      refine v_iload_n dX9_endProduct_69 rfl (lv_at hl 0 rfl) ?_
      refine k_X9_blame h qmX9_301 (by decide) hl.1 (Nat.le_of_ble_eq_true rfl) dX9_endProduct_70 (fun v11 s h => ?_)
      refine v_goto 111 dX9_endProduct_73 (by decide) ?_
      exact L_X9_endProduct_111 N a0 v7 s ls (lv_sub hl [2, 0] rfl) h
  · refine v_aload_n dX9_endProduct_17 rfl (lv_at hl 1 rfl) ?_
    refine v_iload_n dX9_endProduct_18 rfl (lv_at hl 0 rfl) ?_
    refine v_iconst (1 : Int32) dX9_endProduct_19 (by decide) ?_
    refine v_iadd dX9_endProduct_20 ?_
    refine v_iload_n dX9_endProduct_21 rfl (lv_at hl 0 rfl) ?_
    refine k_X9_copy h qmX9_182 (by decide) hl.1 (Nat.le_of_ble_eq_true rfl) dX9_endProduct_22 (fun v12 s h => ?_)
    refine v_aload_n dX9_endProduct_25 rfl (lv_at hl 1 rfl) ?_
    refine v_getR 9 38 h (by decide) rfl qfX9_111 dX9_endProduct_26 (fun r13 h => ?_)
    refine v_aload_n dX9_endProduct_29 rfl (lv_at hl 1 rfl) ?_
    refine v_getI 9 37 h (by decide) (Or.inl rfl) qfX9_289 dX9_endProduct_30 (fun v14 h => ?_)
    refine v_iconst (1 : Int32) dX9_endProduct_33 (by decide) ?_
    refine v_zast dX9_endProduct_34 h (fun s h => ?_)
    refine v_aload_n dX9_endProduct_35 rfl (lv_at hl 1 rfl) ?_
    refine v_getR 9 39 h (by decide) rfl qfX9_114 dX9_endProduct_36 (fun r15 h => ?_)
    refine v_aload_n dX9_endProduct_39 rfl (lv_at hl 1 rfl) ?_
    refine v_getI 9 37 h (by decide) (Or.inl rfl) qfX9_289 dX9_endProduct_40 (fun v16 h => ?_)
    refine v_iconst (0 : Int32) dX9_endProduct_43 (by decide) ?_
    refine v_zast dX9_endProduct_44 h (fun s h => ?_)
    exact v_vret dX9_endProduct_45 h
theorem k_X9_endProduct {X : VX} {cc : ByteArray} {own : String} {nL fr lo : Nat} {ini : Bool} {E : VX → Prop} {sF s : vS} {ρ : Type} {res : ρ} {pc : Nat} {ls : Array Slot} {rest : List Value} {N index : Nat} {a0 : Nat} {f : Unit → vS → Option ρ} (h : bnd (F_X9_endProduct N a0 s) f = some res) (hlink : Cond.methodLink own index yX9_endProduct ∈ TT) (hR : 5 + 1 ≤ fr ∧ 8 + (3 + 11) + 143 ≤ lo) (hls : ls.size = nL) (hr : (rest.map fun v => v.category).sum ≤ 8) (hdg : decode cc pc = .ok (.invokevirtual index, 3)) (kk : ∀ r s', f r s' = some res → V X (cc, own, nL, fr, lo, ini) E sF s' (G0 X (pc + 3) ls (rest))) : V X (cc, own, nL, fr, lo, ini) E sF s (G0 X pc ls (.ref (xb X + a0) :: rest)) := by
  obtain ⟨r, s', e, h⟩ := bnd_some h
  exact v_callV (b := a0) (ci := 9) (As := []) (rest := rest) (c_X9_endProduct X N a0 s s' r e).2 (c_X9_endProduct (l := xl X) (D := xD X) (ka := xka X) X N a0 s s' r e).1 rfl vl_X9_endProduct qi_X9_endProduct qe_X9_endProduct hlink hR rfl rfl hls hr hdg (kk r s' h)
theorem vl_X9_begin : vCl yX9_begin cX9_begin 2 none 1 := ⟨qy_X9_begin, qjX9, by decide +kernel, by decide +kernel, by decide +kernel⟩
set_option maxHeartbeats 4000000 in
set_option maxRecDepth 100000 in
theorem c_X9_begin {l : Launch} {D : va_G} {ka : Nat → ClassId} (X0 : VX) (N : Nat) (a0 : Nat) (l1 : Int32) (s sF : vS) (r : Unit) (h : F_X9_begin N a0 l1 s = some (r, sF)) : isO s a0 9 = true ∧ vMet l D ka (xb X0) yX9_begin cX9_begin 2 none 0 0 [.ref (xb X0 + a0), .int l1] s sF none := by
  unfold F_X9_begin at h
  unfold rcv at h
  obtain ⟨hO, h⟩ := v_chk h
  refine ⟨hO, vMet.of (ini := false) X0 (plainFor_of_name (by decide +kernel)) (Nat.le_of_ble_eq_true rfl) (fun h => by cases h) (fun X ls hb hl => ?_) rfl⟩
  show V X (cX9_begin, RX9, 2, 0, 0, false) (vRet sF none none) sF s (G0 X 0 ls [])
  rw [← hb] at hl
  have hl : lv_has ls 2 [(0, .ref (xb X + a0)), (1, .int l1)] := hl
  refine v_aload_n dX9_begin_0 rfl (lv_at hl 0 rfl) ?_
  refine v_getR 9 38 h (by decide) rfl qfX9_111 dX9_begin_1 (fun r1 h => ?_)
  refine v_aload_n dX9_begin_4 rfl (lv_at hl 0 rfl) ?_
  refine v_getI 9 37 h (by decide) (Or.inl rfl) qfX9_289 dX9_begin_5 (fun v2 h => ?_)
  refine v_iconst (0 : Int32) dX9_begin_8 (by decide) ?_
  refine v_zast dX9_begin_9 h (fun s h => ?_)
  refine v_aload_n dX9_begin_10 rfl (lv_at hl 0 rfl) ?_
  refine v_getR 9 39 h (by decide) rfl qfX9_114 dX9_begin_11 (fun r3 h => ?_)
  refine v_aload_n dX9_begin_14 rfl (lv_at hl 0 rfl) ?_
  refine v_getI 9 37 h (by decide) (Or.inl rfl) qfX9_289 dX9_begin_15 (fun v4 h => ?_)
  refine v_iconst (0 : Int32) dX9_begin_18 (by decide) ?_
  refine v_zast dX9_begin_19 h (fun s h => ?_)
  refine v_aload_n dX9_begin_20 rfl (lv_at hl 0 rfl) ?_
  refine v_getR 9 42 h (by decide) rfl qfX9_123 dX9_begin_21 (fun r5 h => ?_)
  refine v_aload_n dX9_begin_24 rfl (lv_at hl 0 rfl) ?_
  refine v_getI 9 37 h (by decide) (Or.inl rfl) qfX9_289 dX9_begin_25 (fun v6 h => ?_)
  refine v_iload_n dX9_begin_28 rfl (lv_at hl 1 rfl) ?_
  refine v_iast dX9_begin_29 h (fun s h => ?_)
  exact v_vret dX9_begin_30 h
theorem k_X9_begin {X : VX} {cc : ByteArray} {own : String} {nL fr lo : Nat} {ini : Bool} {E : VX → Prop} {sF s : vS} {ρ : Type} {res : ρ} {pc : Nat} {ls : Array Slot} {rest : List Value} {N index : Nat} {a0 : Nat} {l1 : Int32} {f : Unit → vS → Option ρ} (h : bnd (F_X9_begin N a0 l1 s) f = some res) (hlink : Cond.methodLink own index yX9_begin ∈ TT) (hR : 0 + 1 ≤ fr ∧ 8 + (2 + 11) + 0 ≤ lo) (hls : ls.size = nL) (hr : (rest.map fun v => v.category).sum ≤ 8) (hdg : decode cc pc = .ok (.invokevirtual index, 3)) (kk : ∀ r s', f r s' = some res → V X (cc, own, nL, fr, lo, ini) E sF s' (G0 X (pc + 3) ls (rest))) : V X (cc, own, nL, fr, lo, ini) E sF s (G0 X pc ls (.int l1 :: .ref (xb X + a0) :: rest)) := by
  obtain ⟨r, s', e, h⟩ := bnd_some h
  exact v_callV (b := a0) (ci := 9) (As := [.int l1]) (rest := rest) (c_X9_begin X N a0 l1 s s' r e).2 (c_X9_begin (l := xl X) (D := xD X) (ka := xka X) X N a0 l1 s s' r e).1 rfl vl_X9_begin qi_X9_begin qe_X9_begin hlink hR rfl rfl hls hr hdg (kk r s' h)
set_option maxHeartbeats 4000000 in
set_option maxRecDepth 100000 in
theorem L_X9_close_126 {X : VX} {sF : vS} {r : Unit} (N : Nat) (s : vS) (ls : Array Slot) (hl : lv_has ls 2 []) (h : J_X9_close_126 N  s = some (r, sF)) : V X (cX9_close, RX9, 2, 7, 196, false) (vRet sF none none) sF s (G0 X 126 ls []) := by
  unfold J_X9_close_126 at h
  exact v_vret dX9_close_126 h
set_option maxHeartbeats 4000000 in
set_option maxRecDepth 100000 in
theorem L_X9_close_105 {X : VX} {sF : vS} {r : Unit} (N : Nat) (a0 : Nat) (s : vS) (ls : Array Slot) (hl : lv_has ls 2 [(0, .ref (xb X + a0))]) (h : J_X9_close_105 N a0 s = some (r, sF)) : V X (cX9_close, RX9, 2, 7, 196, false) (vRet sF none none) sF s (G0 X 105 ls []) := by
  unfold J_X9_close_105 at h
  refine v_aload_n dX9_close_105 rfl (lv_at hl 0 rfl) ?_
  refine v_dup dX9_close_106 rfl ?_
  refine v_getI 9 37 h (by decide) (Or.inl rfl) qfX9_289 dX9_close_107 (fun v20 h => ?_)
  refine v_iconst (1 : Int32) dX9_close_110 (by decide) ?_
  refine v_isub dX9_close_111 ?_
  refine v_putI 9 37 h (by decide) rfl (Or.inl rfl) qfX9_289 dX9_close_112 (fun s h => ?_)
  refine v_aload_n dX9_close_115 rfl (lv_at hl 0 rfl) ?_
  refine v_getI 9 43 h (by decide) (Or.inl rfl) qfX9_292 dX9_close_116 (fun v21 h => ?_)
  refine v_if_ne 126 dX9_close_119 (by decide) h (fun h => ?_) (fun h => ?_)
  · exact L_X9_close_126 N  s ls (lv_sub hl [] rfl) h
  · refine v_aload_n dX9_close_122 rfl (lv_at hl 0 rfl) ?_
    refine k_X9_comes h qmX9_320 (by decide) hl.1 (Nat.le_of_ble_eq_true rfl) dX9_close_123 (fun v22 s h => ?_)
    exact L_X9_close_126 N  s ls (lv_sub hl [] rfl) h
set_option maxHeartbeats 4000000 in
set_option maxRecDepth 100000 in
theorem L_X9_close_54 {X : VX} {sF : vS} {r : Unit} (N : Nat) (a0 : Nat) (l1 : Int32) (s : vS) (ls : Array Slot) (hl : lv_has ls 2 [(0, .ref (xb X + a0)), (1, .int l1)]) (h : J_X9_close_54 N a0 l1 s = some (r, sF)) : V X (cX9_close, RX9, 2, 7, 196, false) (vRet sF none none) sF s (G0 X 54 ls []) := by
  unfold J_X9_close_54 at h
  refine v_aload_n dX9_close_54 rfl (lv_at hl 0 rfl) ?_
  refine v_getR 9 31 h (by decide) rfl qfX9_96 dX9_close_55 (fun r12 h => ?_)
  refine v_iload_n dX9_close_58 rfl (lv_at hl 1 rfl) ?_
  refine v_iald dX9_close_59 h (fun v13 h => ?_)
  refine v_bipush (123 : Int32) dX9_close_60 (by decide) ?_
  refine v_icmp_ne 105 dX9_close_62 (by decide) h (fun h => ?_) (fun h => ?_)
  · exact L_X9_close_105 N a0 s ls (lv_sub hl [0] rfl) h
  · refine v_aload_n dX9_close_65 rfl (lv_at hl 0 rfl) ?_
    refine v_getR 9 10 h (by decide) rfl qfX9_56 dX9_close_66 (fun r14 h => ?_)
    refine v_bipush (12 : Int32) dX9_close_69 (by decide) ?_
    refine v_iald dX9_close_71 h (fun v15 h => ?_)
    refine v_iconst (1 : Int32) dX9_close_72 (by decide) ?_
    refine v_icmp_ne 105 dX9_close_73 (by decide) h (fun h => ?_) (fun h => ?_)
    · exact L_X9_close_105 N a0 s ls (lv_sub hl [0] rfl) h
    · refine v_aload_n dX9_close_76 rfl (lv_at hl 0 rfl) ?_
      refine v_bipush (12 : Int32) dX9_close_77 (by decide) ?_
      refine v_bipush (13 : Int32) dX9_close_79 (by decide) ?_
      refine k_X9_averageTo h qmX9_317 (by decide) hl.1 (Nat.le_of_ble_eq_true rfl) dX9_close_81 (fun v16 s h => ?_)
      refine v_aload_n dX9_close_84 rfl (lv_at hl 0 rfl) ?_
      refine v_bipush (13 : Int32) dX9_close_85 (by decide) ?_
      refine v_bipush (12 : Int32) dX9_close_87 (by decide) ?_
      refine k_X9_copy h qmX9_182 (by decide) hl.1 (Nat.le_of_ble_eq_true rfl) dX9_close_89 (fun v17 s h => ?_)
      refine v_aload_n dX9_close_92 rfl (lv_at hl 0 rfl) ?_
      refine v_getI 9 25 h (by decide) (Or.inr rfl) qfX9_168 dX9_close_93 (fun v18 h => ?_)
      refine v_if_eq 105 dX9_close_96 (by decide) h (fun h => ?_) (fun h => ?_)
      · exact L_X9_close_105 N a0 s ls (lv_sub hl [0] rfl) h
      · refine v_aload_n dX9_close_99 rfl (lv_at hl 0 rfl) ?_
        refine v_iconst (5 : Int32) dX9_close_100 (by decide) ?_
        refine v_iload_n dX9_close_101 rfl (lv_at hl 1 rfl) ?_
        refine k_X9_blame h qmX9_301 (by decide) hl.1 (Nat.le_of_ble_eq_true rfl) dX9_close_102 (fun v19 s h => ?_)
        exact L_X9_close_105 N a0 s ls (lv_sub hl [0] rfl) h
theorem vl_X9_close : vCl yX9_close cX9_close 2 none 0 := ⟨qy_X9_close, qjX9, by decide +kernel, by decide +kernel, by decide +kernel⟩
set_option maxHeartbeats 4000000 in
set_option maxRecDepth 100000 in
theorem c_X9_close {l : Launch} {D : va_G} {ka : Nat → ClassId} (X0 : VX) (N : Nat) (a0 : Nat) (s sF : vS) (r : Unit) (h : F_X9_close N a0 s = some (r, sF)) : isO s a0 9 = true ∧ vMet l D ka (xb X0) yX9_close cX9_close 2 none 7 196 [.ref (xb X0 + a0)] s sF none := by
  unfold F_X9_close at h
  unfold rcv at h
  obtain ⟨hO, h⟩ := v_chk h
  refine ⟨hO, vMet.of (ini := false) X0 (plainFor_of_name (by decide +kernel)) (Nat.le_of_ble_eq_true rfl) (fun h => by cases h) (fun X ls hb hl => ?_) rfl⟩
  show V X (cX9_close, RX9, 2, 7, 196, false) (vRet sF none none) sF s (G0 X 0 ls [])
  rw [← hb] at hl
  have hl : lv_has ls 2 [(0, .ref (xb X + a0))] := hl
  refine v_aload_n dX9_close_0 rfl (lv_at hl 0 rfl) ?_
  refine k_X9_endProduct h qmX9_314 (by decide) hl.1 (Nat.le_of_ble_eq_true rfl) dX9_close_1 (fun v1 s h => ?_)
  refine v_aload_n dX9_close_4 rfl (lv_at hl 0 rfl) ?_
  refine v_aload_n dX9_close_5 rfl (lv_at hl 0 rfl) ?_
  refine k_X9_sumRow h qmX9_295 (by decide) hl.1 (Nat.le_of_ble_eq_true rfl) dX9_close_6 (fun v2 s h => ?_)
  refine v_bipush (12 : Int32) dX9_close_9 (by decide) ?_
  refine k_X9_copy h qmX9_182 (by decide) hl.1 (Nat.le_of_ble_eq_true rfl) dX9_close_11 (fun v3 s h => ?_)
  refine v_aload_n dX9_close_14 rfl (lv_at hl 0 rfl) ?_
  refine v_getR 9 42 h (by decide) rfl qfX9_123 dX9_close_15 (fun r4 h => ?_)
  refine v_aload_n dX9_close_18 rfl (lv_at hl 0 rfl) ?_
  refine v_getI 9 37 h (by decide) (Or.inl rfl) qfX9_289 dX9_close_19 (fun v5 h => ?_)
  refine v_iald dX9_close_22 h (fun v6 h => ?_)
  refine v_istore_n [(1, .int v6), (0, .ref (xb X + a0))] dX9_close_23 rfl hl (by decide) rfl (fun ls hl => ?_)
  refine v_aload_n dX9_close_24 rfl (lv_at hl 1 rfl) ?_
  refine v_getR 9 31 h (by decide) rfl qfX9_96 dX9_close_25 (fun r7 h => ?_)
  refine v_iload_n dX9_close_28 rfl (lv_at hl 0 rfl) ?_
  refine v_iald dX9_close_29 h (fun v8 h => ?_)
  refine v_bipush (123 : Int32) dX9_close_30 (by decide) ?_
  refine v_icmp_ne 54 dX9_close_32 (by decide) h (fun h => ?_) (fun h => ?_)
  · exact L_X9_close_54 N a0 v6 s ls (lv_sub hl [1, 0] rfl) h
  · refine v_aload_n dX9_close_35 rfl (lv_at hl 1 rfl) ?_
    refine v_getR 9 10 h (by decide) rfl qfX9_56 dX9_close_36 (fun r9 h => ?_)
    refine v_bipush (12 : Int32) dX9_close_39 (by decide) ?_
    refine v_iald dX9_close_41 h (fun v10 h => ?_)
    refine v_if_ne 54 dX9_close_42 (by decide) h (fun h => ?_) (fun h => ?_)
    · exact L_X9_close_54 N a0 v6 s ls (lv_sub hl [1, 0] rfl) h
    · refine v_aload_n dX9_close_45 rfl (lv_at hl 1 rfl) ?_
      refine v_iconst (3 : Int32) dX9_close_46 (by decide) ?_
      refine v_iload_n dX9_close_47 rfl (lv_at hl 0 rfl) ?_
      refine k_X9_blame h qmX9_301 (by decide) hl.1 (Nat.le_of_ble_eq_true rfl) dX9_close_48 (fun v11 s h => ?_)
      refine v_goto 105 dX9_close_51 (by decide) ?_
      exact L_X9_close_105 N a0 s ls (lv_sub hl [1] rfl) h
theorem k_X9_close {X : VX} {cc : ByteArray} {own : String} {nL fr lo : Nat} {ini : Bool} {E : VX → Prop} {sF s : vS} {ρ : Type} {res : ρ} {pc : Nat} {ls : Array Slot} {rest : List Value} {N index : Nat} {a0 : Nat} {f : Unit → vS → Option ρ} (h : bnd (F_X9_close N a0 s) f = some res) (hlink : Cond.methodLink own index yX9_close ∈ TT) (hR : 7 + 1 ≤ fr ∧ 8 + (2 + 11) + 196 ≤ lo) (hls : ls.size = nL) (hr : (rest.map fun v => v.category).sum ≤ 8) (hdg : decode cc pc = .ok (.invokevirtual index, 3)) (kk : ∀ r s', f r s' = some res → V X (cc, own, nL, fr, lo, ini) E sF s' (G0 X (pc + 3) ls (rest))) : V X (cc, own, nL, fr, lo, ini) E sF s (G0 X pc ls (.ref (xb X + a0) :: rest)) := by
  obtain ⟨r, s', e, h⟩ := bnd_some h
  exact v_callV (b := a0) (ci := 9) (As := []) (rest := rest) (c_X9_close X N a0 s s' r e).2 (c_X9_close (l := xl X) (D := xD X) (ka := xka X) X N a0 s s' r e).1 rfl vl_X9_close qi_X9_close qe_X9_close hlink hR rfl rfl hls hr hdg (kk r s' h)
set_option maxHeartbeats 4000000 in
set_option maxRecDepth 100000 in
theorem L_X9_workOut_239 {X : VX} {sF : vS} {r : Unit} (N : Nat) (s : vS) (ls : Array Slot) (hl : lv_has ls 2 []) (h : J_X9_workOut_239 N  s = some (r, sF)) : V X (cX9_workOut, RX9, 2, 8, 217, false) (vRet sF none none) sF s (G0 X 239 ls []) := by
  unfold J_X9_workOut_239 at h
  exact v_vret dX9_workOut_239 h
set_option maxHeartbeats 4000000 in
set_option maxRecDepth 100000 in
theorem L_X9_workOut_179 {X : VX} {sF : vS} {r : Unit} (N : Nat) (a0 : Nat) (k0 : Nat) (k1 : Int32) (k2 : Int32) (s : vS) (ls : Array Slot) (hl : lv_has ls 2 [(0, .ref (xb X + a0))]) (h : J_X9_workOut_179 N a0 k0 k1 k2 s = some (r, sF)) : V X (cX9_workOut, RX9, 2, 8, 217, false) (vRet sF none none) sF s (G0 X 179 ls [.int k2, .int k1, .ref (xb X + k0)]) := by
  unfold J_X9_workOut_179 at h
  refine v_iast dX9_workOut_179 h (fun s h => ?_)
  refine v_aload_n dX9_workOut_180 rfl (lv_at hl 0 rfl) ?_
  refine k_X9_comes h qmX9_320 (by decide) hl.1 (Nat.le_of_ble_eq_true rfl) dX9_workOut_181 (fun v39 s h => ?_)
  refine v_goto 239 dX9_workOut_184 (by decide) ?_
  exact L_X9_workOut_239 N  s ls (lv_sub hl [] rfl) h
theorem vl_X9_workOut : vCl yX9_workOut cX9_workOut 2 none 1 := ⟨qy_X9_workOut, qjX9, by decide +kernel, by decide +kernel, by decide +kernel⟩
set_option maxHeartbeats 4000000 in
set_option maxRecDepth 100000 in
theorem c_X9_workOut {l : Launch} {D : va_G} {ka : Nat → ClassId} (X0 : VX) (N : Nat) (a0 : Nat) (l1 : Int32) (s sF : vS) (r : Unit) (h : F_X9_workOut N a0 l1 s = some (r, sF)) : isO s a0 9 = true ∧ vMet l D ka (xb X0) yX9_workOut cX9_workOut 2 none 8 217 [.ref (xb X0 + a0), .int l1] s sF none := by
  unfold F_X9_workOut at h
  unfold rcv at h
  obtain ⟨hO, h⟩ := v_chk h
  refine ⟨hO, vMet.of (ini := false) X0 (plainFor_of_name (by decide +kernel)) (Nat.le_of_ble_eq_true rfl) (fun h => by cases h) (fun X ls hb hl => ?_) rfl⟩
  show V X (cX9_workOut, RX9, 2, 8, 217, false) (vRet sF none none) sF s (G0 X 0 ls [])
  rw [← hb] at hl
  have hl : lv_has ls 2 [(0, .ref (xb X + a0)), (1, .int l1)] := hl
  refine v_aload_n dX9_workOut_0 rfl (lv_at hl 0 rfl) ?_
  refine v_getR 9 31 h (by decide) rfl qfX9_96 dX9_workOut_1 (fun r1 h => ?_)
  refine v_iload_n dX9_workOut_4 rfl (lv_at hl 1 rfl) ?_
  refine v_iald dX9_workOut_5 h (fun v2 h => ?_)
  refine v_lswc (40 : Int32) 187 (181) dX9_workOut_6 (by decide) (by decide) (by decide) h (fun h => ?_) (fun h0 h => ?_)
  · refine v_aload_n dX9_workOut_187 rfl (lv_at hl 0 rfl) ?_
    refine v_dup dX9_workOut_188 rfl ?_
    refine v_getI 9 37 h (by decide) (Or.inl rfl) qfX9_289 dX9_workOut_189 (fun v37 h => ?_)
    refine v_iconst (1 : Int32) dX9_workOut_192 (by decide) ?_
    refine v_iadd dX9_workOut_193 ?_
    refine v_putI 9 37 h (by decide) rfl (Or.inl rfl) qfX9_289 dX9_workOut_194 (fun s h => ?_)
    refine v_aload_n dX9_workOut_197 rfl (lv_at hl 0 rfl) ?_
    refine v_iload_n dX9_workOut_198 rfl (lv_at hl 1 rfl) ?_
    refine k_X9_begin h qmX9_323 (by decide) hl.1 (Nat.le_of_ble_eq_true rfl) dX9_workOut_199 (fun v38 s h => ?_)
    refine v_goto 239 dX9_workOut_202 (by decide) ?_
    exact L_X9_workOut_239 N  s ls (lv_sub hl [] rfl) h
  · refine v_lswc (41 : Int32) 205 (199) dX9_workOut_6 (by decide) (by decide) (by decide) h (fun h => ?_) (fun h1 h => ?_)
    · refine v_aload_n dX9_workOut_205 rfl (lv_at hl 0 rfl) ?_
      refine k_X9_close h qmX9_326 (by decide) hl.1 (Nat.le_of_ble_eq_true rfl) dX9_workOut_206 (fun v36 s h => ?_)
      refine v_goto 239 dX9_workOut_209 (by decide) ?_
      exact L_X9_workOut_239 N  s ls (lv_sub hl [] rfl) h
    · refine v_lswc (42 : Int32) 212 (206) dX9_workOut_6 (by decide) (by decide) (by decide) h (fun h => ?_) (fun h2 h => ?_)
      · refine v_aload_n dX9_workOut_212 rfl (lv_at hl 0 rfl) ?_
        refine v_getR 9 41 h (by decide) rfl qfX9_120 dX9_workOut_213 (fun r34 h => ?_)
        refine v_aload_n dX9_workOut_216 rfl (lv_at hl 0 rfl) ?_
        refine v_getI 9 37 h (by decide) (Or.inl rfl) qfX9_289 dX9_workOut_217 (fun v35 h => ?_)
        refine v_iload_n dX9_workOut_220 rfl (lv_at hl 1 rfl) ?_
        refine v_iast dX9_workOut_221 h (fun s h => ?_)
        refine v_goto 239 dX9_workOut_222 (by decide) ?_
        exact L_X9_workOut_239 N  s ls (lv_sub hl [] rfl) h
      · refine v_lswc (49 : Int32) 80 (74) dX9_workOut_6 (by decide) (by decide) (by decide) h (fun h => ?_) (fun h3 h => ?_)
        · refine v_aload_n dX9_workOut_80 rfl (lv_at hl 0 rfl) ?_
          refine v_bipush (12 : Int32) dX9_workOut_81 (by decide) ?_
          refine k_X9_empty h qmX9_210 (by decide) hl.1 (Nat.le_of_ble_eq_true rfl) dX9_workOut_83 (fun v23 s h => ?_)
          refine v_aload_n dX9_workOut_86 rfl (lv_at hl 0 rfl) ?_
          refine v_aload_n dX9_workOut_87 rfl (lv_at hl 0 rfl) ?_
          refine v_getR 9 33 h (by decide) rfl qfX9_102 dX9_workOut_88 (fun r24 h => ?_)
          refine v_iload_n dX9_workOut_91 rfl (lv_at hl 1 rfl) ?_
          refine v_iald dX9_workOut_92 h (fun v25 h => ?_)
          refine v_i2l dX9_workOut_93 ?_
          refine v_aload_n dX9_workOut_94 rfl (lv_at hl 0 rfl) ?_
          refine v_getR 9 34 h (by decide) rfl qfX9_105 dX9_workOut_95 (fun r26 h => ?_)
          refine v_iload_n dX9_workOut_98 rfl (lv_at hl 1 rfl) ?_
          refine v_iald dX9_workOut_99 h (fun v27 h => ?_)
          refine v_i2l dX9_workOut_100 ?_
          refine k_X9_lay h qmX9_160 (by decide) hl.1 (Nat.le_of_ble_eq_true rfl) dX9_workOut_101 (fun v28 s h => ?_)
          refine v_aload_n dX9_workOut_104 rfl (lv_at hl 0 rfl) ?_
          refine v_getR 9 11 h (by decide) rfl qfX9_59 dX9_workOut_105 (fun r29 h => ?_)
          refine v_sipush (348 : Int32) dX9_workOut_108 (by decide) ?_
          refine v_aload_n dX9_workOut_111 rfl (lv_at hl 0 rfl) ?_
          refine v_getJ 9 23 h (by decide) rfl qfX9_150 dX9_workOut_112 (fun v30 h => ?_)
          refine v_last dX9_workOut_115 h (fun s h => ?_)
          refine v_aload_n dX9_workOut_116 rfl (lv_at hl 0 rfl) ?_
          refine v_getR 9 12 h (by decide) rfl qfX9_63 dX9_workOut_117 (fun r31 h => ?_)
          refine v_sipush (348 : Int32) dX9_workOut_120 (by decide) ?_
          refine v_aload_n dX9_workOut_123 rfl (lv_at hl 0 rfl) ?_
          refine v_getJ 9 24 h (by decide) rfl qfX9_154 dX9_workOut_124 (fun v32 h => ?_)
          refine v_last dX9_workOut_127 h (fun s h => ?_)
          refine v_aload_n dX9_workOut_128 rfl (lv_at hl 0 rfl) ?_
          refine k_X9_comes h qmX9_320 (by decide) hl.1 (Nat.le_of_ble_eq_true rfl) dX9_workOut_129 (fun v33 s h => ?_)
          refine v_goto 239 dX9_workOut_132 (by decide) ?_
          exact L_X9_workOut_239 N  s ls (lv_sub hl [] rfl) h
        · refine v_lswc (60 : Int32) 135 (129) dX9_workOut_6 (by decide) (by decide) (by decide) h (fun h => ?_) (fun h4 h => ?_)
          · refine v_aload_n dX9_workOut_135 rfl (lv_at hl 0 rfl) ?_
            refine v_bipush (12 : Int32) dX9_workOut_136 (by decide) ?_
            refine k_X9_empty h qmX9_210 (by decide) hl.1 (Nat.le_of_ble_eq_true rfl) dX9_workOut_138 (fun v16 s h => ?_)
            refine v_aload_n dX9_workOut_141 rfl (lv_at hl 0 rfl) ?_
            refine v_getR 9 11 h (by decide) rfl qfX9_59 dX9_workOut_142 (fun r17 h => ?_)
            refine v_sipush (348 : Int32) dX9_workOut_145 (by decide) ?_
            refine v_aload_n dX9_workOut_148 rfl (lv_at hl 0 rfl) ?_
            refine v_getR 9 33 h (by decide) rfl qfX9_102 dX9_workOut_149 (fun r18 h => ?_)
            refine v_iload_n dX9_workOut_152 rfl (lv_at hl 1 rfl) ?_
            refine v_iald dX9_workOut_153 h (fun v19 h => ?_)
            refine v_iadd dX9_workOut_154 ?_
            refine v_lconst (1 : Int64) dX9_workOut_155 (by decide) ?_
            refine v_last dX9_workOut_156 h (fun s h => ?_)
            refine v_aload_n dX9_workOut_157 rfl (lv_at hl 0 rfl) ?_
            refine v_getR 9 10 h (by decide) rfl qfX9_56 dX9_workOut_158 (fun r20 h => ?_)
            refine v_bipush (12 : Int32) dX9_workOut_161 (by decide) ?_
            refine v_aload_n dX9_workOut_163 rfl (lv_at hl 0 rfl) ?_
            refine v_getR 9 31 h (by decide) rfl qfX9_96 dX9_workOut_164 (fun r21 h => ?_)
            refine v_iload_n dX9_workOut_167 rfl (lv_at hl 1 rfl) ?_
            refine v_iald dX9_workOut_168 h (fun v22 h => ?_)
            refine v_bipush (91 : Int32) dX9_workOut_169 (by decide) ?_
            refine v_icmp_ne 178 dX9_workOut_171 (by decide) h (fun h => ?_) (fun h => ?_)
            · refine v_iconst (1 : Int32) dX9_workOut_178 (by decide) ?_
              exact L_X9_workOut_179 N a0 r20 (12 : Int32) (1 : Int32) s ls (lv_sub hl [0] rfl) h
            · refine v_iconst (0 : Int32) dX9_workOut_174 (by decide) ?_
              refine v_goto 179 dX9_workOut_175 (by decide) ?_
              exact L_X9_workOut_179 N a0 r20 (12 : Int32) (0 : Int32) s ls (lv_sub hl [0] rfl) h
          · refine v_lswc (91 : Int32) 135 (129) dX9_workOut_6 (by decide) (by decide) (by decide) h (fun h => ?_) (fun h5 h => ?_)
            · refine v_aload_n dX9_workOut_135 rfl (lv_at hl 0 rfl) ?_
              refine v_bipush (12 : Int32) dX9_workOut_136 (by decide) ?_
              refine k_X9_empty h qmX9_210 (by decide) hl.1 (Nat.le_of_ble_eq_true rfl) dX9_workOut_138 (fun v9 s h => ?_)
              refine v_aload_n dX9_workOut_141 rfl (lv_at hl 0 rfl) ?_
              refine v_getR 9 11 h (by decide) rfl qfX9_59 dX9_workOut_142 (fun r10 h => ?_)
              refine v_sipush (348 : Int32) dX9_workOut_145 (by decide) ?_
              refine v_aload_n dX9_workOut_148 rfl (lv_at hl 0 rfl) ?_
              refine v_getR 9 33 h (by decide) rfl qfX9_102 dX9_workOut_149 (fun r11 h => ?_)
              refine v_iload_n dX9_workOut_152 rfl (lv_at hl 1 rfl) ?_
              refine v_iald dX9_workOut_153 h (fun v12 h => ?_)
              refine v_iadd dX9_workOut_154 ?_
              refine v_lconst (1 : Int64) dX9_workOut_155 (by decide) ?_
              refine v_last dX9_workOut_156 h (fun s h => ?_)
              refine v_aload_n dX9_workOut_157 rfl (lv_at hl 0 rfl) ?_
              refine v_getR 9 10 h (by decide) rfl qfX9_56 dX9_workOut_158 (fun r13 h => ?_)
              refine v_bipush (12 : Int32) dX9_workOut_161 (by decide) ?_
              refine v_aload_n dX9_workOut_163 rfl (lv_at hl 0 rfl) ?_
              refine v_getR 9 31 h (by decide) rfl qfX9_96 dX9_workOut_164 (fun r14 h => ?_)
              refine v_iload_n dX9_workOut_167 rfl (lv_at hl 1 rfl) ?_
              refine v_iald dX9_workOut_168 h (fun v15 h => ?_)
              refine v_bipush (91 : Int32) dX9_workOut_169 (by decide) ?_
              refine v_icmp_ne 178 dX9_workOut_171 (by decide) h (fun h => ?_) (fun h => ?_)
              · refine v_iconst (1 : Int32) dX9_workOut_178 (by decide) ?_
                exact L_X9_workOut_179 N a0 r13 (12 : Int32) (1 : Int32) s ls (lv_sub hl [0] rfl) h
              · refine v_iconst (0 : Int32) dX9_workOut_174 (by decide) ?_
                refine v_goto 179 dX9_workOut_175 (by decide) ?_
                exact L_X9_workOut_179 N a0 r13 (12 : Int32) (0 : Int32) s ls (lv_sub hl [0] rfl) h
            · refine v_lswc (123 : Int32) 187 (181) dX9_workOut_6 (by decide) (by decide) (by decide) h (fun h => ?_) (fun h6 h => ?_)
              · refine v_aload_n dX9_workOut_187 rfl (lv_at hl 0 rfl) ?_
                refine v_dup dX9_workOut_188 rfl ?_
                refine v_getI 9 37 h (by decide) (Or.inl rfl) qfX9_289 dX9_workOut_189 (fun v7 h => ?_)
                refine v_iconst (1 : Int32) dX9_workOut_192 (by decide) ?_
                refine v_iadd dX9_workOut_193 ?_
                refine v_putI 9 37 h (by decide) rfl (Or.inl rfl) qfX9_289 dX9_workOut_194 (fun s h => ?_)
                refine v_aload_n dX9_workOut_197 rfl (lv_at hl 0 rfl) ?_
                refine v_iload_n dX9_workOut_198 rfl (lv_at hl 1 rfl) ?_
                refine k_X9_begin h qmX9_323 (by decide) hl.1 (Nat.le_of_ble_eq_true rfl) dX9_workOut_199 (fun v8 s h => ?_)
                refine v_goto 239 dX9_workOut_202 (by decide) ?_
                exact L_X9_workOut_239 N  s ls (lv_sub hl [] rfl) h
              · refine v_lswc (125 : Int32) 205 (199) dX9_workOut_6 (by decide) (by decide) (by decide) h (fun h => ?_) (fun h7 h => ?_)
                · refine v_aload_n dX9_workOut_205 rfl (lv_at hl 0 rfl) ?_
                  refine k_X9_close h qmX9_326 (by decide) hl.1 (Nat.le_of_ble_eq_true rfl) dX9_workOut_206 (fun v6 s h => ?_)
                  refine v_goto 239 dX9_workOut_209 (by decide) ?_
                  exact L_X9_workOut_239 N  s ls (lv_sub hl [] rfl) h
                · have e0 : v2.toInt ≠ 40 := tsw_ne (c := (40 : Int32)) (i := 40) rfl h0
                  have e1 : v2.toInt ≠ 41 := tsw_ne (c := (41 : Int32)) (i := 41) rfl h1
                  have e2 : v2.toInt ≠ 42 := tsw_ne (c := (42 : Int32)) (i := 42) rfl h2
                  have e3 : v2.toInt ≠ 49 := tsw_ne (c := (49 : Int32)) (i := 49) rfl h3
                  have e4 : v2.toInt ≠ 60 := tsw_ne (c := (60 : Int32)) (i := 60) rfl h4
                  have e5 : v2.toInt ≠ 91 := tsw_ne (c := (91 : Int32)) (i := 91) rfl h5
                  have e6 : v2.toInt ≠ 123 := tsw_ne (c := (123 : Int32)) (i := 123) rfl h6
                  have e7 : v2.toInt ≠ 125 := tsw_ne (c := (125 : Int32)) (i := 125) rfl h7
                  refine v_lswd 225 dX9_workOut_6 (by decide) (by simp [Op.lookupswitch.offset, Ne.symm e0, e0, Ne.symm e1, e1, Ne.symm e2, e2, Ne.symm e3, e3, Ne.symm e4, e4, Ne.symm e5, e5, Ne.symm e6, e6, Ne.symm e7, e7]) (by decide) ?_
                  refine v_aload_n dX9_workOut_225 rfl (lv_at hl 0 rfl) ?_
                  refine k_X9_endProduct h qmX9_314 (by decide) hl.1 (Nat.le_of_ble_eq_true rfl) dX9_workOut_226 (fun v3 s h => ?_)
                  refine v_aload_n dX9_workOut_229 rfl (lv_at hl 0 rfl) ?_
                  refine v_getR 9 40 h (by decide) rfl qfX9_117 dX9_workOut_230 (fun r4 h => ?_)
                  refine v_aload_n dX9_workOut_233 rfl (lv_at hl 0 rfl) ?_
                  refine v_getI 9 37 h (by decide) (Or.inl rfl) qfX9_289 dX9_workOut_234 (fun v5 h => ?_)
                  refine v_iload_n dX9_workOut_237 rfl (lv_at hl 1 rfl) ?_
                  refine v_iast dX9_workOut_238 h (fun s h => ?_)
                  exact L_X9_workOut_239 N  s ls (lv_sub hl [] rfl) h
theorem k_X9_workOut {X : VX} {cc : ByteArray} {own : String} {nL fr lo : Nat} {ini : Bool} {E : VX → Prop} {sF s : vS} {ρ : Type} {res : ρ} {pc : Nat} {ls : Array Slot} {rest : List Value} {N index : Nat} {a0 : Nat} {l1 : Int32} {f : Unit → vS → Option ρ} (h : bnd (F_X9_workOut N a0 l1 s) f = some res) (hlink : Cond.methodLink own index yX9_workOut ∈ TT) (hR : 8 + 1 ≤ fr ∧ 8 + (2 + 11) + 217 ≤ lo) (hls : ls.size = nL) (hr : (rest.map fun v => v.category).sum ≤ 8) (hdg : decode cc pc = .ok (.invokevirtual index, 3)) (kk : ∀ r s', f r s' = some res → V X (cc, own, nL, fr, lo, ini) E sF s' (G0 X (pc + 3) ls (rest))) : V X (cc, own, nL, fr, lo, ini) E sF s (G0 X pc ls (.int l1 :: .ref (xb X + a0) :: rest)) := by
  obtain ⟨r, s', e, h⟩ := bnd_some h
  exact v_callV (b := a0) (ci := 9) (As := [.int l1]) (rest := rest) (c_X9_workOut X N a0 l1 s s' r e).2 (c_X9_workOut (l := xl X) (D := xD X) (ka := xka X) X N a0 l1 s s' r e).1 rfl vl_X9_workOut qi_X9_workOut qe_X9_workOut hlink hR rfl rfl hls hr hdg (kk r s' h)
set_option maxHeartbeats 4000000 in
set_option maxRecDepth 100000 in
theorem L_X9_read_202 {X : VX} {sF : vS} {r : Int32} (N : Nat) (a0 : Nat) (l1 : Int32) (k0 : Nat) (k1 : Int32) (k2 : Int32) (s : vS) (ls : Array Slot) (hl : lv_has ls 4 [(0, .ref (xb X + a0)), (1, .int l1)]) (h : J_X9_read_202 N a0 l1 k0 k1 k2 s = some (r, sF)) : V X (cX9_read, RX9, 4, 9, 238, false) (vRet sF (some (.int r)) (some .int)) sF s (G0 X 202 ls [.int k2, .int k1, .ref (xb X + k0)]) := by
  unfold J_X9_read_202 at h
  refine v_iast dX9_read_202 h (fun s h => ?_)
  refine v_aload_n dX9_read_203 rfl (lv_at hl 0 rfl) ?_
  refine v_getR 9 9 h (by decide) rfl qfX9_52 dX9_read_204 (fun r30 h => ?_)
  refine v_iload_n dX9_read_207 rfl (lv_at hl 1 rfl) ?_
  refine v_iconst (1 : Int32) dX9_read_208 (by decide) ?_
  refine v_zast dX9_read_209 h (fun s h => ?_)
  refine v_aload_n dX9_read_210 rfl (lv_at hl 0 rfl) ?_
  refine v_iload_n dX9_read_211 rfl (lv_at hl 1 rfl) ?_
  refine k_X9_terms h qmX9_196 (by decide) hl.1 (Nat.le_of_ble_eq_true rfl) dX9_read_212 (fun v31 s h => ?_)
  exact v_iret dX9_read_215 h
set_option maxHeartbeats 4000000 in
set_option maxRecDepth 100000 in
theorem L_X9_read_196 {X : VX} {sF : vS} {r : Int32} (N : Nat) (a0 : Nat) (l1 : Int32) (k0 : Nat) (k1 : Int32) (s : vS) (ls : Array Slot) (hl : lv_has ls 4 [(0, .ref (xb X + a0)), (1, .int l1)]) (h : J_X9_read_196 N a0 l1 k0 k1 s = some (r, sF)) : V X (cX9_read, RX9, 4, 9, 238, false) (vRet sF (some (.int r)) (some .int)) sF s (G0 X 196 ls [.int k1, .ref (xb X + k0)]) := by
  unfold J_X9_read_196 at h
  refine v_aload_n dX9_read_196 rfl (lv_at hl 0 rfl) ?_
  refine v_getR 9 10 h (by decide) rfl qfX9_56 dX9_read_197 (fun r28 h => ?_)
  refine v_iload_n dX9_read_200 rfl (lv_at hl 1 rfl) ?_
  refine v_iald dX9_read_201 h (fun v29 h => ?_)
  exact L_X9_read_202 N a0 l1 k0 k1 v29 s ls (lv_sub hl [0, 1] rfl) h
set_option maxHeartbeats 4000000 in
set_option maxRecDepth 100000 in
theorem L_X9_read_151 {X : VX} {sF : vS} {r : Int32} (N : Nat) (a0 : Nat) (l1 : Int32) (s : vS) (ls : Array Slot) (hl : lv_has ls 4 [(0, .ref (xb X + a0)), (1, .int l1)]) (h : J_X9_read_151 N a0 l1 s = some (r, sF)) : V X (cX9_read, RX9, 4, 9, 238, false) (vRet sF (some (.int r)) (some .int)) sF s (G0 X 151 ls []) := by
  unfold J_X9_read_151 at h
  refine v_aload_n dX9_read_151 rfl (lv_at hl 0 rfl) ?_
  refine v_getI 9 43 h (by decide) (Or.inl rfl) qfX9_292 dX9_read_152 (fun v21 h => ?_)
  refine v_if_eq 163 dX9_read_155 (by decide) h (fun h => ?_) (fun h => ?_)
  · refine v_aload_n dX9_read_163 rfl (lv_at hl 0 rfl) ?_
    refine v_iconst (4 : Int32) dX9_read_164 (by decide) ?_
    refine v_iload_n dX9_read_165 rfl (lv_at hl 1 rfl) ?_
    refine k_X9_copy h qmX9_182 (by decide) hl.1 (Nat.le_of_ble_eq_true rfl) dX9_read_166 (fun v22 s h => ?_)
    refine v_aload_n dX9_read_169 rfl (lv_at hl 0 rfl) ?_
    refine v_getR 9 10 h (by decide) rfl qfX9_56 dX9_read_170 (fun r23 h => ?_)
    refine v_iload_n dX9_read_173 rfl (lv_at hl 1 rfl) ?_
    refine v_aload_n dX9_read_174 rfl (lv_at hl 0 rfl) ?_
    refine v_iload_n dX9_read_175 rfl (lv_at hl 1 rfl) ?_
    refine k_X9_terms h qmX9_196 (by decide) hl.1 (Nat.le_of_ble_eq_true rfl) dX9_read_176 (fun v24 s h => ?_)
    refine v_if_le 196 dX9_read_179 (by decide) h (fun h => ?_) (fun h => ?_)
    · exact L_X9_read_196 N a0 l1 r23 l1 s ls (lv_sub hl [0, 1] rfl) h
    · refine v_aload_n dX9_read_182 rfl (lv_at hl 0 rfl) ?_
      refine v_getR 9 10 h (by decide) rfl qfX9_56 dX9_read_183 (fun r25 h => ?_)
      refine v_iload_n dX9_read_186 rfl (lv_at hl 1 rfl) ?_
      refine v_iald dX9_read_187 h (fun v26 h => ?_)
      refine v_iconst (2 : Int32) dX9_read_188 (by decide) ?_
      refine v_icmp_ne 196 dX9_read_189 (by decide) h (fun h => ?_) (fun h => ?_)
      · exact L_X9_read_196 N a0 l1 r23 l1 s ls (lv_sub hl [0, 1] rfl) h
      · refine v_iconst (0 : Int32) dX9_read_192 (by decide) ?_
        refine v_goto 202 dX9_read_193 (by decide) ?_
        exact L_X9_read_202 N a0 l1 r23 l1 (0 : Int32) s ls (lv_sub hl [0, 1] rfl) h
  · refine v_aload_n dX9_read_158 rfl (lv_at hl 0 rfl) ?_
    refine v_getI 9 43 h (by decide) (Or.inl rfl) qfX9_292 dX9_read_159 (fun v27 h => ?_)
    exact v_iret dX9_read_162 h
set_option maxHeartbeats 4000000 in
set_option maxRecDepth 100000 in
theorem L_X9_read_140 {X : VX} {sF : vS} {r : Int32} (N : Nat) (a0 : Nat) (l1 : Int32) (s : vS) (ls : Array Slot) (hl : lv_has ls 4 [(0, .ref (xb X + a0)), (1, .int l1)]) (h : J_X9_read_140 N a0 l1 s = some (r, sF)) : V X (cX9_read, RX9, 4, 9, 238, false) (vRet sF (some (.int r)) (some .int)) sF s (G0 X 140 ls []) := by
  unfold J_X9_read_140 at h
  refine v_aload_n dX9_read_140 rfl (lv_at hl 0 rfl) ?_
  refine v_getI 9 43 h (by decide) (Or.inl rfl) qfX9_292 dX9_read_141 (fun v19 h => ?_)
  refine v_if_ne 151 dX9_read_144 (by decide) h (fun h => ?_) (fun h => ?_)
  · exact L_X9_read_151 N a0 l1 s ls (lv_sub hl [0, 1] rfl) h
  · refine v_aload_n dX9_read_147 rfl (lv_at hl 0 rfl) ?_
    refine k_X9_endProduct h qmX9_314 (by decide) hl.1 (Nat.le_of_ble_eq_true rfl) dX9_read_148 (fun v20 s h => ?_)
    exact L_X9_read_151 N a0 l1 s ls (lv_sub hl [0, 1] rfl) h
set_option maxHeartbeats 4000000 in
set_option maxRecDepth 100000 in
theorem L_X9_read_114 {X : VX} {sF : vS} {r : Int32} (N : Nat) : ∀ (n : Nat) (a0 : Nat) (l1 : Int32) (l3 : Int32) (s : vS) (ls : Array Slot), lv_has ls 4 [(0, .ref (xb X + a0)), (1, .int l1), (3, .int l3)] → H_X9_read_114 N n a0 l1 l3 s = some (r, sF) → V X (cX9_read, RX9, 4, 9, 238, false) (vRet sF (some (.int r)) (some .int)) sF s (G0 X 114 ls []) := by
  intro n
  induction n with
  | zero => intro a0 l1 l3 s ls hl h; cases h
  | succ n ih =>
   intro a0 l1 l3 s ls hl h
   unfold H_X9_read_114 at h
   refine v_iload_n dX9_read_114 rfl (lv_at hl 2 rfl) ?_
   refine v_aload_n dX9_read_115 rfl (lv_at hl 0 rfl) ?_
   refine v_getI 9 30 h (by decide) (Or.inl rfl) qfX9_267 dX9_read_116 (fun v10 h => ?_)
   refine v_icmp_ge 140 dX9_read_119 (by decide) h (fun h => ?_) (fun h => ?_)
   · exact L_X9_read_140 N a0 l1 s ls (lv_sub hl [0, 1] rfl) h
   · refine v_aload_n dX9_read_122 rfl (lv_at hl 0 rfl) ?_
     refine v_getI 9 43 h (by decide) (Or.inl rfl) qfX9_292 dX9_read_123 (fun v11 h => ?_)
     refine v_if_ne 140 dX9_read_126 (by decide) h (fun h => ?_) (fun h => ?_)
     · exact L_X9_read_140 N a0 l1 s ls (lv_sub hl [0, 1] rfl) h
     · refine v_aload_n dX9_read_129 rfl (lv_at hl 0 rfl) ?_
       refine v_iload_n dX9_read_130 rfl (lv_at hl 2 rfl) ?_
       refine k_X9_workOut h qmX9_332 (by decide) hl.1 (Nat.le_of_ble_eq_true rfl) dX9_read_131 (fun v12 s h => ?_)
       refine v_inc (fun z => [(3, .int z), (0, .ref (xb X + a0)), (1, .int l1)]) dX9_read_134 h hl (k := 2) rfl (by rfl) (by decide) (fun _ => rfl) (fun l3_13 ls hl h => ?_)
       refine v_goto 114 dX9_read_137 (by decide) ?_
       exact ih a0 l1 l3_13 s ls (lv_sub hl [1, 2, 0] rfl) h
set_option maxHeartbeats 4000000 in
set_option maxRecDepth 100000 in
theorem L_X9_read_86 {X : VX} {sF : vS} {r : Int32} (N : Nat) (k36 : Nat → Int32 → Int32 → vS → Option (Int32 × vS)) (hk36 : ∀ (a0 : Nat) (l1 : Int32) (l3 : Int32) (s : vS) (ls : Array Slot), lv_has ls 4 [(0, .ref (xb X + a0)), (1, .int l1), (3, .int l3)] → k36 a0 l1 l3 s = some (r, sF) → V X (cX9_read, RX9, 4, 9, 238, false) (vRet sF (some (.int r)) (some .int)) sF s (G0 X 36 ls [])) (a0 : Nat) (l1 : Int32) (l3 : Int32) (s : vS) (ls : Array Slot) (hl : lv_has ls 4 [(0, .ref (xb X + a0)), (1, .int l1), (3, .int l3)]) (h : J_X9_read_86 N k36 a0 l1 l3 s = some (r, sF)) : V X (cX9_read, RX9, 4, 9, 238, false) (vRet sF (some (.int r)) (some .int)) sF s (G0 X 86 ls []) := by
  unfold J_X9_read_86 at h
  refine v_inc (fun z => [(3, .int z), (0, .ref (xb X + a0)), (1, .int l1)]) dX9_read_86 h hl (k := 2) rfl (by rfl) (by decide) (fun _ => rfl) (fun l3_18 ls hl h => ?_)
  refine v_goto 36 dX9_read_89 (by decide) ?_
  exact hk36 a0 l1 l3_18 s ls (lv_sub hl [1, 2, 0] rfl) h
set_option maxHeartbeats 4000000 in
set_option maxRecDepth 100000 in
theorem L_X9_read_66 {X : VX} {sF : vS} {r : Int32} (N : Nat) (k36 : Nat → Int32 → Int32 → vS → Option (Int32 × vS)) (hk36 : ∀ (a0 : Nat) (l1 : Int32) (l3 : Int32) (s : vS) (ls : Array Slot), lv_has ls 4 [(0, .ref (xb X + a0)), (1, .int l1), (3, .int l3)] → k36 a0 l1 l3 s = some (r, sF) → V X (cX9_read, RX9, 4, 9, 238, false) (vRet sF (some (.int r)) (some .int)) sF s (G0 X 36 ls [])) (a0 : Nat) (l1 : Int32) (l3 : Int32) (s : vS) (ls : Array Slot) (hl : lv_has ls 4 [(0, .ref (xb X + a0)), (1, .int l1), (3, .int l3)]) (h : J_X9_read_66 N k36 a0 l1 l3 s = some (r, sF)) : V X (cX9_read, RX9, 4, 9, 238, false) (vRet sF (some (.int r)) (some .int)) sF s (G0 X 66 ls []) := by
  unfold J_X9_read_66 at h
  refine v_aload_n dX9_read_66 rfl (lv_at hl 0 rfl) ?_
  refine v_getR 9 33 h (by decide) rfl qfX9_102 dX9_read_67 (fun r14 h => ?_)
  refine v_iload_n dX9_read_70 rfl (lv_at hl 2 rfl) ?_
  refine v_iald dX9_read_71 h (fun v15 h => ?_)
  refine v_if_ge 86 dX9_read_72 (by decide) h (fun h => ?_) (fun h => ?_)
  · exact L_X9_read_86 N k36 hk36 a0 l1 l3 s ls (lv_sub hl [0, 1, 2] rfl) h
  · refine v_sipush (-2000 : Int32) dX9_read_75 (by decide) ?_
    refine v_aload_n dX9_read_78 rfl (lv_at hl 0 rfl) ?_
    refine v_getR 9 32 h (by decide) rfl qfX9_99 dX9_read_79 (fun r16 h => ?_)
    refine v_iload_n dX9_read_82 rfl (lv_at hl 2 rfl) ?_
    refine v_iald dX9_read_83 h (fun v17 h => ?_)
    refine v_isub dX9_read_84 ?_
    exact v_iret dX9_read_85 h
set_option maxHeartbeats 4000000 in
set_option maxRecDepth 100000 in
theorem L_X9_read_36 {X : VX} {sF : vS} {r : Int32} (N : Nat) : ∀ (n : Nat) (a0 : Nat) (l1 : Int32) (l3 : Int32) (s : vS) (ls : Array Slot), lv_has ls 4 [(0, .ref (xb X + a0)), (1, .int l1), (3, .int l3)] → H_X9_read_36 N n a0 l1 l3 s = some (r, sF) → V X (cX9_read, RX9, 4, 9, 238, false) (vRet sF (some (.int r)) (some .int)) sF s (G0 X 36 ls []) := by
  intro n
  induction n with
  | zero => intro a0 l1 l3 s ls hl h; cases h
  | succ n ih =>
   intro a0 l1 l3 s ls hl h
   unfold H_X9_read_36 at h
   refine v_iload_n dX9_read_36 rfl (lv_at hl 2 rfl) ?_
   refine v_aload_n dX9_read_37 rfl (lv_at hl 0 rfl) ?_
   refine v_getI 9 30 h (by decide) (Or.inl rfl) qfX9_267 dX9_read_38 (fun v4 h => ?_)
   refine v_icmp_ge 92 dX9_read_41 (by decide) h (fun h => ?_) (fun h => ?_)
   · refine v_aload_n dX9_read_92 rfl (lv_at hl 0 rfl) ?_
     refine v_iconst (0 : Int32) dX9_read_93 (by decide) ?_
     refine v_putI 9 37 h (by decide) rfl (Or.inl rfl) qfX9_289 dX9_read_94 (fun s h => ?_)
     refine v_aload_n dX9_read_97 rfl (lv_at hl 0 rfl) ?_
     refine v_iconst (0 : Int32) dX9_read_98 (by decide) ?_
     refine v_putI 9 43 h (by decide) rfl (Or.inl rfl) qfX9_292 dX9_read_99 (fun s h => ?_)
     refine v_aload_n dX9_read_102 rfl (lv_at hl 0 rfl) ?_
     refine v_iconst (0 : Int32) dX9_read_103 (by decide) ?_
     refine v_putZ 9 25 h (by decide) rfl (Or.inl rfl) qfX9_168 dX9_read_104 (fun s h => ?_)
     refine v_aload_n dX9_read_107 rfl (lv_at hl 0 rfl) ?_
     refine v_iconst (0 : Int32) dX9_read_108 (by decide) ?_
     refine k_X9_begin h qmX9_323 (by decide) hl.1 (Nat.le_of_ble_eq_true rfl) dX9_read_109 (fun v5 s h => ?_)
     refine v_iconst (0 : Int32) dX9_read_112 (by decide) ?_
     refine v_istore_n [(3, .int (0 : Int32)), (0, .ref (xb X + a0)), (1, .int l1)] dX9_read_113 rfl hl (by decide) rfl (fun ls hl => ?_)
     exact L_X9_read_114 N N a0 l1 (0 : Int32) s ls (lv_sub hl [1, 2, 0] rfl) h
   · refine v_aload_n dX9_read_44 rfl (lv_at hl 0 rfl) ?_
     refine v_getR 9 31 h (by decide) rfl qfX9_96 dX9_read_45 (fun r6 h => ?_)
     refine v_iload_n dX9_read_48 rfl (lv_at hl 2 rfl) ?_
     refine v_iald dX9_read_49 h (fun v7 h => ?_)
     refine v_bipush (91 : Int32) dX9_read_50 (by decide) ?_
     refine v_icmp_eq 66 dX9_read_52 (by decide) h (fun h => ?_) (fun h => ?_)
     · exact L_X9_read_66 N (H_X9_read_36 N n) ih a0 l1 l3 s ls (lv_sub hl [0, 1, 2] rfl) h
     · refine v_aload_n dX9_read_55 rfl (lv_at hl 0 rfl) ?_
       refine v_getR 9 31 h (by decide) rfl qfX9_96 dX9_read_56 (fun r8 h => ?_)
       refine v_iload_n dX9_read_59 rfl (lv_at hl 2 rfl) ?_
       refine v_iald dX9_read_60 h (fun v9 h => ?_)
       refine v_bipush (60 : Int32) dX9_read_61 (by decide) ?_
       refine v_icmp_ne 86 dX9_read_63 (by decide) h (fun h => ?_) (fun h => ?_)
       · exact L_X9_read_86 N (H_X9_read_36 N n) ih a0 l1 l3 s ls (lv_sub hl [0, 1, 2] rfl) h
       · exact L_X9_read_66 N (H_X9_read_36 N n) ih a0 l1 l3 s ls (lv_sub hl [0, 1, 2] rfl) h
theorem vl_X9_read : vCl yX9_read cX9_read 4 (some .int) 1 := ⟨qy_X9_read, qjX9, by decide +kernel, by decide +kernel, by decide +kernel⟩
set_option maxHeartbeats 4000000 in
set_option maxRecDepth 100000 in
theorem c_X9_read {l : Launch} {D : va_G} {ka : Nat → ClassId} (X0 : VX) (N : Nat) (a0 : Nat) (l1 : Int32) (s sF : vS) (r : Int32) (h : F_X9_read N a0 l1 s = some (r, sF)) : isO s a0 9 = true ∧ vMet l D ka (xb X0) yX9_read cX9_read 4 (some .int) 9 238 [.ref (xb X0 + a0), .int l1] s sF (some (.int r)) := by
  unfold F_X9_read at h
  unfold rcv at h
  obtain ⟨hO, h⟩ := v_chk h
  refine ⟨hO, vMet.of (ini := false) X0 (plainFor_of_name (by decide +kernel)) (Nat.le_of_ble_eq_true rfl) (fun h => by cases h) (fun X ls hb hl => ?_) rfl⟩
  show V X (cX9_read, RX9, 4, 9, 238, false) (vRet sF (some (.int r)) (some .int)) sF s (G0 X 0 ls [])
  rw [← hb] at hl
  have hl : lv_has ls 4 [(0, .ref (xb X + a0)), (1, .int l1)] := hl
  refine v_iload_n dX9_read_0 rfl (lv_at hl 1 rfl) ?_
  refine v_iconst (0 : Int32) dX9_read_1 (by decide) ?_
  refine v_iconst (3 : Int32) dX9_read_2 (by decide) ?_
  refine k_X9_in h qmX9_129 (by decide) hl.1 (Nat.le_of_ble_eq_true rfl) dX9_read_3 (fun v1 s h => ?_)
  refine v_if_ne 11 dX9_read_6 (by decide) h (fun h => ?_) (fun h => ?_)
  · refine v_aload_n dX9_read_11 rfl (lv_at hl 0 rfl) ?_
    refine k_X9_isText h qmX9_329 (by decide) hl.1 (Nat.le_of_ble_eq_true rfl) dX9_read_12 (fun v2 s h => ?_)
    refine v_istore_n [(2, .int v2), (0, .ref (xb X + a0)), (1, .int l1)] dX9_read_15 rfl hl (by decide) rfl (fun ls hl => ?_)
    refine v_aload_n dX9_read_16 rfl (lv_at hl 1 rfl) ?_
    refine v_iconst (0 : Int32) dX9_read_17 (by decide) ?_
    refine v_putI 9 13 h (by decide) rfl (Or.inl rfl) qfX9_253 dX9_read_18 (fun s h => ?_)
    refine v_iload_n dX9_read_21 rfl (lv_at hl 0 rfl) ?_
    refine v_if_ne 34 dX9_read_22 (by decide) h (fun h => ?_) (fun h => ?_)
    · refine v_iconst (0 : Int32) dX9_read_34 (by decide) ?_
      refine v_istore_n [(3, .int (0 : Int32)), (2, .int v2), (0, .ref (xb X + a0)), (1, .int l1)] dX9_read_35 rfl hl (by decide) rfl (fun ls hl => ?_)
      exact L_X9_read_36 N N a0 l1 (0 : Int32) s ls (lv_sub hl [2, 3, 0] rfl) h
    · refine v_sipush (-1000 : Int32) dX9_read_25 (by decide) ?_
      refine v_aload_n dX9_read_28 rfl (lv_at hl 1 rfl) ?_
      refine v_getI 9 29 h (by decide) (Or.inl rfl) qfX9_256 dX9_read_29 (fun v3 h => ?_)
      refine v_isub dX9_read_32 ?_
      exact v_iret dX9_read_33 h
  · refine v_iconst (-1 : Int32) dX9_read_9 (by decide) ?_
    exact v_iret dX9_read_10 h
theorem k_X9_read {X : VX} {cc : ByteArray} {own : String} {nL fr lo : Nat} {ini : Bool} {E : VX → Prop} {sF s : vS} {ρ : Type} {res : ρ} {pc : Nat} {ls : Array Slot} {rest : List Value} {N index : Nat} {a0 : Nat} {l1 : Int32} {f : Int32 → vS → Option ρ} (h : bnd (F_X9_read N a0 l1 s) f = some res) (hlink : Cond.methodLink own index yX9_read ∈ TT) (hR : 9 + 1 ≤ fr ∧ 8 + (4 + 11) + 238 ≤ lo) (hls : ls.size = nL) (hr : (rest.map fun v => v.category).sum ≤ 8) (hdg : decode cc pc = .ok (.invokevirtual index, 3)) (kk : ∀ r s', f r s' = some res → V X (cc, own, nL, fr, lo, ini) E sF s' (G0 X (pc + 3) ls (.int r :: rest))) : V X (cc, own, nL, fr, lo, ini) E sF s (G0 X pc ls (.int l1 :: .ref (xb X + a0) :: rest)) := by
  obtain ⟨r, s', e, h⟩ := bnd_some h
  exact v_callV (b := a0) (ci := 9) (As := [.int l1]) (rest := rest) (c_X9_read X N a0 l1 s s' r e).2 (c_X9_read (l := xl X) (D := xD X) (ka := xka X) X N a0 l1 s s' r e).1 rfl vl_X9_read qi_X9_read qe_X9_read hlink hR rfl rfl hls hr hdg (kk r s' h)
theorem vl_X9_isStore : vCl yX9_isStore cX9_isStore 1 (some .boolean) 1 := ⟨qy_X9_isStore, qjX9, by decide +kernel, by decide +kernel, by decide +kernel⟩
set_option maxHeartbeats 4000000 in
set_option maxRecDepth 100000 in
theorem c_X9_isStore {l : Launch} {D : va_G} {ka : Nat → ClassId} (X0 : VX) (N : Nat) (l0 : Int32) (s sF : vS) (r : Int32) (h : F_X9_isStore N l0 s = some (r, sF)) : vMet l D ka (xb X0) yX9_isStore cX9_isStore 1 (some .boolean) 1 22 [.int l0] s sF (some (.int r)) := by
  unfold F_X9_isStore at h
  refine vMet.of (ini := false) X0 (plainFor_of_name (by decide +kernel)) (Nat.le_of_ble_eq_true rfl) (fun h => by cases h) (fun X ls hb hl => ?_) rfl
  show V X (cX9_isStore, RX9, 1, 1, 22, false) (vRet sF (some (.int r)) (some .boolean)) sF s (G0 X 0 ls [])
  have hl : lv_has ls 1 [(0, .int l0)] := hl
  refine v_iload_n dX9_isStore_0 rfl (lv_at hl 0 rfl) ?_
  refine v_iconst (0 : Int32) dX9_isStore_1 (by decide) ?_
  refine v_iconst (3 : Int32) dX9_isStore_2 (by decide) ?_
  refine k_X9_in h qmX9_129 (by decide) hl.1 (Nat.le_of_ble_eq_true rfl) dX9_isStore_3 (fun v1 s h => ?_)
  exact v_zret dX9_isStore_6 h
theorem k_X9_isStore {X : VX} {cc : ByteArray} {own : String} {nL fr lo : Nat} {ini : Bool} {E : VX → Prop} {sF s : vS} {ρ : Type} {res : ρ} {pc : Nat} {ls : Array Slot} {rest : List Value} {N index : Nat} {l0 : Int32} {f : Int32 → vS → Option ρ} (h : bnd (F_X9_isStore N l0 s) f = some res) (hlink : Cond.methodLink own index yX9_isStore ∈ TT) (hR : 1 + 1 ≤ fr ∧ 8 + (1 + 11) + 22 ≤ lo) (hls : ls.size = nL) (hr : (rest.map fun v => v.category).sum ≤ 8) (hdg : decode cc pc = .ok (.invokestatic index, 3)) (kk : ∀ r s', f r s' = some res → V X (cc, own, nL, fr, lo, ini) E sF s' (G0 X (pc + 3) ls (.int r :: rest))) : V X (cc, own, nL, fr, lo, ini) E sF s (G0 X pc ls (.int l0 :: rest)) := by
  obtain ⟨r, s', e, h⟩ := bnd_some h
  exact v_callS (As := [.int l0]) (rest := rest) (c_X9_isStore X N l0 s s' r e) vl_X9_isStore qs_X9_isStore hlink hR rfl rfl hls hr hdg (kk r s' h)
set_option maxHeartbeats 4000000 in
set_option maxRecDepth 100000 in
theorem L_X9_termsIn_18 {X : VX} {sF : vS} {r : Int32} (N : Nat) (k0 : Int32) (s : vS) (ls : Array Slot) (hl : lv_has ls 2 []) (h : J_X9_termsIn_18 N k0 s = some (r, sF)) : V X (cX9_termsIn, RX9, 2, 2, 45, false) (vRet sF (some (.int r)) (some .int)) sF s (G0 X 18 ls [.int k0]) := by
  unfold J_X9_termsIn_18 at h
  exact v_iret dX9_termsIn_18 h
theorem vl_X9_termsIn : vCl yX9_termsIn cX9_termsIn 2 (some .int) 1 := ⟨qy_X9_termsIn, qjX9, by decide +kernel, by decide +kernel, by decide +kernel⟩
set_option maxHeartbeats 4000000 in
set_option maxRecDepth 100000 in
theorem c_X9_termsIn {l : Launch} {D : va_G} {ka : Nat → ClassId} (X0 : VX) (N : Nat) (a0 : Nat) (l1 : Int32) (s sF : vS) (r : Int32) (h : F_X9_termsIn N a0 l1 s = some (r, sF)) : isO s a0 9 = true ∧ vMet l D ka (xb X0) yX9_termsIn cX9_termsIn 2 (some .int) 2 45 [.ref (xb X0 + a0), .int l1] s sF (some (.int r)) := by
  unfold F_X9_termsIn at h
  unfold rcv at h
  obtain ⟨hO, h⟩ := v_chk h
  refine ⟨hO, vMet.of (ini := false) X0 (plainFor_of_name (by decide +kernel)) (Nat.le_of_ble_eq_true rfl) (fun h => by cases h) (fun X ls hb hl => ?_) rfl⟩
  show V X (cX9_termsIn, RX9, 2, 2, 45, false) (vRet sF (some (.int r)) (some .int)) sF s (G0 X 0 ls [])
  rw [← hb] at hl
  have hl : lv_has ls 2 [(0, .ref (xb X + a0)), (1, .int l1)] := hl
  refine v_aload_n dX9_termsIn_0 rfl (lv_at hl 0 rfl) ?_
  refine v_getR 9 9 h (by decide) rfl qfX9_52 dX9_termsIn_1 (fun r1 h => ?_)
  refine v_iload_n dX9_termsIn_4 rfl (lv_at hl 1 rfl) ?_
  refine v_zald dX9_termsIn_5 h (fun v2 h => ?_)
  refine v_if_eq 17 dX9_termsIn_6 (by decide) h (fun h => ?_) (fun h => ?_)
  · refine v_iconst (0 : Int32) dX9_termsIn_17 (by decide) ?_
    exact L_X9_termsIn_18 N (0 : Int32) s ls (lv_sub hl [] rfl) h
  · refine v_aload_n dX9_termsIn_9 rfl (lv_at hl 0 rfl) ?_
    refine v_iload_n dX9_termsIn_10 rfl (lv_at hl 1 rfl) ?_
    refine k_X9_terms h qmX9_196 (by decide) hl.1 (Nat.le_of_ble_eq_true rfl) dX9_termsIn_11 (fun v3 s h => ?_)
    refine v_goto 18 dX9_termsIn_14 (by decide) ?_
    exact L_X9_termsIn_18 N v3 s ls (lv_sub hl [] rfl) h
theorem k_X9_termsIn {X : VX} {cc : ByteArray} {own : String} {nL fr lo : Nat} {ini : Bool} {E : VX → Prop} {sF s : vS} {ρ : Type} {res : ρ} {pc : Nat} {ls : Array Slot} {rest : List Value} {N index : Nat} {a0 : Nat} {l1 : Int32} {f : Int32 → vS → Option ρ} (h : bnd (F_X9_termsIn N a0 l1 s) f = some res) (hlink : Cond.methodLink own index yX9_termsIn ∈ TT) (hR : 2 + 1 ≤ fr ∧ 8 + (2 + 11) + 45 ≤ lo) (hls : ls.size = nL) (hr : (rest.map fun v => v.category).sum ≤ 8) (hdg : decode cc pc = .ok (.invokevirtual index, 3)) (kk : ∀ r s', f r s' = some res → V X (cc, own, nL, fr, lo, ini) E sF s' (G0 X (pc + 3) ls (.int r :: rest))) : V X (cc, own, nL, fr, lo, ini) E sF s (G0 X pc ls (.int l1 :: .ref (xb X + a0) :: rest)) := by
  obtain ⟨r, s', e, h⟩ := bnd_some h
  exact v_callV (b := a0) (ci := 9) (As := [.int l1]) (rest := rest) (c_X9_termsIn X N a0 l1 s s' r e).2 (c_X9_termsIn (l := xl X) (D := xD X) (ka := xka X) X N a0 l1 s s' r e).1 rfl vl_X9_termsIn qi_X9_termsIn qe_X9_termsIn hlink hR rfl rfl hls hr hdg (kk r s' h)
theorem vl_X9_clear : vCl yX9_clear cX9_clear 3 (some .int) 1 := ⟨qy_X9_clear, qjX9, by decide +kernel, by decide +kernel, by decide +kernel⟩
set_option maxHeartbeats 4000000 in
set_option maxRecDepth 100000 in
theorem c_X9_clear {l : Launch} {D : va_G} {ka : Nat → ClassId} (X0 : VX) (N : Nat) (a0 : Nat) (l1 : Int32) (s sF : vS) (r : Int32) (h : F_X9_clear N a0 l1 s = some (r, sF)) : isO s a0 9 = true ∧ vMet l D ka (xb X0) yX9_clear cX9_clear 3 (some .int) 3 66 [.ref (xb X0 + a0), .int l1] s sF (some (.int r)) := by
  unfold F_X9_clear at h
  unfold rcv at h
  obtain ⟨hO, h⟩ := v_chk h
  refine ⟨hO, vMet.of (ini := false) X0 (plainFor_of_name (by decide +kernel)) (Nat.le_of_ble_eq_true rfl) (fun h => by cases h) (fun X ls hb hl => ?_) rfl⟩
  show V X (cX9_clear, RX9, 3, 3, 66, false) (vRet sF (some (.int r)) (some .int)) sF s (G0 X 0 ls [])
  rw [← hb] at hl
  have hl : lv_has ls 3 [(0, .ref (xb X + a0)), (1, .int l1)] := hl
  refine v_iload_n dX9_clear_0 rfl (lv_at hl 1 rfl) ?_
  refine k_X9_isStore h qmX9_335 (by decide) hl.1 (Nat.le_of_ble_eq_true rfl) dX9_clear_1 (fun v1 s h => ?_)
  refine v_if_ne 9 dX9_clear_4 (by decide) h (fun h => ?_) (fun h => ?_)
  · refine v_aload_n dX9_clear_9 rfl (lv_at hl 0 rfl) ?_
    refine v_iload_n dX9_clear_10 rfl (lv_at hl 1 rfl) ?_
    refine k_X9_termsIn h qmX9_338 (by decide) hl.1 (Nat.le_of_ble_eq_true rfl) dX9_clear_11 (fun v2 s h => ?_)
    refine v_istore_n [(2, .int v2), (0, .ref (xb X + a0)), (1, .int l1)] dX9_clear_14 rfl hl (by decide) rfl (fun ls hl => ?_)
    refine v_aload_n dX9_clear_15 rfl (lv_at hl 1 rfl) ?_
    refine v_getR 9 9 h (by decide) rfl qfX9_52 dX9_clear_16 (fun r3 h => ?_)
    refine v_iload_n dX9_clear_19 rfl (lv_at hl 2 rfl) ?_
    refine v_iconst (0 : Int32) dX9_clear_20 (by decide) ?_
    refine v_zast dX9_clear_21 h (fun s h => ?_)
    refine v_iload_n dX9_clear_22 rfl (lv_at hl 0 rfl) ?_
    exact v_iret dX9_clear_23 h
  · refine v_iconst (-1 : Int32) dX9_clear_7 (by decide) ?_
    exact v_iret dX9_clear_8 h
theorem k_X9_clear {X : VX} {cc : ByteArray} {own : String} {nL fr lo : Nat} {ini : Bool} {E : VX → Prop} {sF s : vS} {ρ : Type} {res : ρ} {pc : Nat} {ls : Array Slot} {rest : List Value} {N index : Nat} {a0 : Nat} {l1 : Int32} {f : Int32 → vS → Option ρ} (h : bnd (F_X9_clear N a0 l1 s) f = some res) (hlink : Cond.methodLink own index yX9_clear ∈ TT) (hR : 3 + 1 ≤ fr ∧ 8 + (3 + 11) + 66 ≤ lo) (hls : ls.size = nL) (hr : (rest.map fun v => v.category).sum ≤ 8) (hdg : decode cc pc = .ok (.invokevirtual index, 3)) (kk : ∀ r s', f r s' = some res → V X (cc, own, nL, fr, lo, ini) E sF s' (G0 X (pc + 3) ls (.int r :: rest))) : V X (cc, own, nL, fr, lo, ini) E sF s (G0 X pc ls (.int l1 :: .ref (xb X + a0) :: rest)) := by
  obtain ⟨r, s', e, h⟩ := bnd_some h
  exact v_callV (b := a0) (ci := 9) (As := [.int l1]) (rest := rest) (c_X9_clear X N a0 l1 s s' r e).2 (c_X9_clear (l := xl X) (D := xD X) (ka := xka X) X N a0 l1 s s' r e).1 rfl vl_X9_clear qi_X9_clear qe_X9_clear hlink hR rfl rfl hls hr hdg (kk r s' h)
theorem vl_X9_sizeIn : vCl yX9_sizeIn cX9_sizeIn 3 (some .int) 2 := ⟨qy_X9_sizeIn, qjX9, by decide +kernel, by decide +kernel, by decide +kernel⟩
set_option maxHeartbeats 4000000 in
set_option maxRecDepth 100000 in
theorem c_X9_sizeIn {l : Launch} {D : va_G} {ka : Nat → ClassId} (X0 : VX) (N : Nat) (a0 : Nat) (l1 : Int32) (l2 : Int32) (s sF : vS) (r : Int32) (h : F_X9_sizeIn N a0 l1 l2 s = some (r, sF)) : isO s a0 9 = true ∧ vMet l D ka (xb X0) yX9_sizeIn cX9_sizeIn 3 (some .int) 1 22 [.ref (xb X0 + a0), .int l1, .int l2] s sF (some (.int r)) := by
  unfold F_X9_sizeIn at h
  unfold rcv at h
  obtain ⟨hO, h⟩ := v_chk h
  refine ⟨hO, vMet.of (ini := false) X0 (plainFor_of_name (by decide +kernel)) (Nat.le_of_ble_eq_true rfl) (fun h => by cases h) (fun X ls hb hl => ?_) rfl⟩
  show V X (cX9_sizeIn, RX9, 3, 1, 22, false) (vRet sF (some (.int r)) (some .int)) sF s (G0 X 0 ls [])
  rw [← hb] at hl
  have hl : lv_has ls 3 [(0, .ref (xb X + a0)), (1, .int l1), (2, .int l2)] := hl
  refine v_aload_n dX9_sizeIn_0 rfl (lv_at hl 0 rfl) ?_
  refine v_getR 9 0 h (by decide) rfl qfX9_28 dX9_sizeIn_1 (fun r1 h => ?_)
  refine v_aload_n dX9_sizeIn_4 rfl (lv_at hl 0 rfl) ?_
  refine v_getR 9 10 h (by decide) rfl qfX9_56 dX9_sizeIn_5 (fun r2 h => ?_)
  refine v_iload_n dX9_sizeIn_8 rfl (lv_at hl 1 rfl) ?_
  refine v_iald dX9_sizeIn_9 h (fun v3 h => ?_)
  refine v_iload_n dX9_sizeIn_10 rfl (lv_at hl 2 rfl) ?_
  refine k_X9_sizeBy h qmX9_199 (by decide) hl.1 (Nat.le_of_ble_eq_true rfl) dX9_sizeIn_11 (fun v4 s h => ?_)
  exact v_iret dX9_sizeIn_14 h
theorem k_X9_sizeIn {X : VX} {cc : ByteArray} {own : String} {nL fr lo : Nat} {ini : Bool} {E : VX → Prop} {sF s : vS} {ρ : Type} {res : ρ} {pc : Nat} {ls : Array Slot} {rest : List Value} {N index : Nat} {a0 : Nat} {l1 : Int32} {l2 : Int32} {f : Int32 → vS → Option ρ} (h : bnd (F_X9_sizeIn N a0 l1 l2 s) f = some res) (hlink : Cond.methodLink own index yX9_sizeIn ∈ TT) (hR : 1 + 1 ≤ fr ∧ 8 + (3 + 11) + 22 ≤ lo) (hls : ls.size = nL) (hr : (rest.map fun v => v.category).sum ≤ 8) (hdg : decode cc pc = .ok (.invokevirtual index, 3)) (kk : ∀ r s', f r s' = some res → V X (cc, own, nL, fr, lo, ini) E sF s' (G0 X (pc + 3) ls (.int r :: rest))) : V X (cc, own, nL, fr, lo, ini) E sF s (G0 X pc ls (.int l2 :: .int l1 :: .ref (xb X + a0) :: rest)) := by
  obtain ⟨r, s', e, h⟩ := bnd_some h
  exact v_callV (b := a0) (ci := 9) (As := [.int l1, .int l2]) (rest := rest) (c_X9_sizeIn X N a0 l1 l2 s s' r e).2 (c_X9_sizeIn (l := xl X) (D := xD X) (ka := xka X) X N a0 l1 l2 s s' r e).1 rfl vl_X9_sizeIn qi_X9_sizeIn qe_X9_sizeIn hlink hR rfl rfl hls hr hdg (kk r s' h)
set_option maxHeartbeats 4000000 in
set_option maxRecDepth 100000 in
theorem L_X9_greatest_40 {X : VX} {sF : vS} {r : Int32} (N : Nat) (k5 : Nat → Int32 → Int32 → Int32 → vS → Option (Int32 × vS)) (hk5 : ∀ (a0 : Nat) (l1 : Int32) (l2 : Int32) (l3 : Int32) (s : vS) (ls : Array Slot), lv_has ls 4 [(0, .ref (xb X + a0)), (1, .int l1), (2, .int l2), (3, .int l3)] → k5 a0 l1 l2 l3 s = some (r, sF) → V X (cX9_greatest, RX9, 4, 2, 44, false) (vRet sF (some (.int r)) (some .int)) sF s (G0 X 5 ls [])) (a0 : Nat) (l1 : Int32) (l3 : Int32) (k0 : Int32) (s : vS) (ls : Array Slot) (hl : lv_has ls 4 [(0, .ref (xb X + a0)), (1, .int l1), (3, .int l3)]) (h : J_X9_greatest_40 N k5 a0 l1 l3 k0 s = some (r, sF)) : V X (cX9_greatest, RX9, 4, 2, 44, false) (vRet sF (some (.int r)) (some .int)) sF s (G0 X 40 ls [.int k0]) := by
  unfold J_X9_greatest_40 at h
  refine v_istore_n [(2, .int k0), (0, .ref (xb X + a0)), (1, .int l1), (3, .int l3)] dX9_greatest_40 rfl hl (by decide) rfl (fun ls hl => ?_)
  refine v_inc (fun z => [(3, .int z), (2, .int k0), (0, .ref (xb X + a0)), (1, .int l1)]) dX9_greatest_41 h hl (k := 3) rfl (by rfl) (by decide) (fun _ => rfl) (fun l3_4 ls hl h => ?_)
  refine v_goto 5 dX9_greatest_44 (by decide) ?_
  exact hk5 a0 l1 k0 l3_4 s ls (lv_sub hl [2, 3, 1, 0] rfl) h
set_option maxHeartbeats 4000000 in
set_option maxRecDepth 100000 in
theorem L_X9_greatest_39 {X : VX} {sF : vS} {r : Int32} (N : Nat) (k5 : Nat → Int32 → Int32 → Int32 → vS → Option (Int32 × vS)) (hk5 : ∀ (a0 : Nat) (l1 : Int32) (l2 : Int32) (l3 : Int32) (s : vS) (ls : Array Slot), lv_has ls 4 [(0, .ref (xb X + a0)), (1, .int l1), (2, .int l2), (3, .int l3)] → k5 a0 l1 l2 l3 s = some (r, sF) → V X (cX9_greatest, RX9, 4, 2, 44, false) (vRet sF (some (.int r)) (some .int)) sF s (G0 X 5 ls [])) (a0 : Nat) (l1 : Int32) (l2 : Int32) (l3 : Int32) (s : vS) (ls : Array Slot) (hl : lv_has ls 4 [(0, .ref (xb X + a0)), (1, .int l1), (2, .int l2), (3, .int l3)]) (h : J_X9_greatest_39 N k5 a0 l1 l2 l3 s = some (r, sF)) : V X (cX9_greatest, RX9, 4, 2, 44, false) (vRet sF (some (.int r)) (some .int)) sF s (G0 X 39 ls []) := by
  unfold J_X9_greatest_39 at h
  refine v_iload_n dX9_greatest_39 rfl (lv_at hl 2 rfl) ?_
  exact L_X9_greatest_40 N k5 hk5 a0 l1 l3 l2 s ls (lv_sub hl [0, 1, 3] rfl) h
set_option maxHeartbeats 4000000 in
set_option maxRecDepth 100000 in
theorem L_X9_greatest_5 {X : VX} {sF : vS} {r : Int32} (N : Nat) : ∀ (n : Nat) (a0 : Nat) (l1 : Int32) (l2 : Int32) (l3 : Int32) (s : vS) (ls : Array Slot), lv_has ls 4 [(0, .ref (xb X + a0)), (1, .int l1), (2, .int l2), (3, .int l3)] → H_X9_greatest_5 N n a0 l1 l2 l3 s = some (r, sF) → V X (cX9_greatest, RX9, 4, 2, 44, false) (vRet sF (some (.int r)) (some .int)) sF s (G0 X 5 ls []) := by
  intro n
  induction n with
  | zero => intro a0 l1 l2 l3 s ls hl h; cases h
  | succ n ih =>
   intro a0 l1 l2 l3 s ls hl h
   unfold H_X9_greatest_5 at h
   refine v_iload_n dX9_greatest_5 rfl (lv_at hl 3 rfl) ?_
   refine v_bipush (29 : Int32) dX9_greatest_6 (by decide) ?_
   refine v_icmp_ge 47 dX9_greatest_8 (by decide) h (fun h => ?_) (fun h => ?_)
   · refine v_iload_n dX9_greatest_47 rfl (lv_at hl 2 rfl) ?_
     exact v_iret dX9_greatest_48 h
   · refine v_aload_n dX9_greatest_11 rfl (lv_at hl 0 rfl) ?_
     refine v_iload_n dX9_greatest_12 rfl (lv_at hl 1 rfl) ?_
     refine v_iload_n dX9_greatest_13 rfl (lv_at hl 3 rfl) ?_
     refine k_X9_isTerm h qmX9_179 (by decide) hl.1 (Nat.le_of_ble_eq_true rfl) dX9_greatest_14 (fun v1 s h => ?_)
     refine v_if_eq 39 dX9_greatest_17 (by decide) h (fun h => ?_) (fun h => ?_)
     · exact L_X9_greatest_39 N (H_X9_greatest_5 N n) ih a0 l1 l2 l3 s ls (lv_sub hl [0, 1, 2, 3] rfl) h
     · refine v_aload_n dX9_greatest_20 rfl (lv_at hl 0 rfl) ?_
       refine v_iload_n dX9_greatest_21 rfl (lv_at hl 1 rfl) ?_
       refine v_iload_n dX9_greatest_22 rfl (lv_at hl 3 rfl) ?_
       refine k_X9_sizeIn h qmX9_341 (by decide) hl.1 (Nat.le_of_ble_eq_true rfl) dX9_greatest_23 (fun v2 s h => ?_)
       refine v_iload_n dX9_greatest_26 rfl (lv_at hl 2 rfl) ?_
       refine v_icmp_le 39 dX9_greatest_27 (by decide) h (fun h => ?_) (fun h => ?_)
       · exact L_X9_greatest_39 N (H_X9_greatest_5 N n) ih a0 l1 l2 l3 s ls (lv_sub hl [0, 1, 2, 3] rfl) h
       · refine v_aload_n dX9_greatest_30 rfl (lv_at hl 0 rfl) ?_
         refine v_iload_n dX9_greatest_31 rfl (lv_at hl 1 rfl) ?_
         refine v_iload_n dX9_greatest_32 rfl (lv_at hl 3 rfl) ?_
         refine k_X9_sizeIn h qmX9_341 (by decide) hl.1 (Nat.le_of_ble_eq_true rfl) dX9_greatest_33 (fun v3 s h => ?_)
         refine v_goto 40 dX9_greatest_36 (by decide) ?_
         exact L_X9_greatest_40 N (H_X9_greatest_5 N n) ih a0 l1 l3 v3 s ls (lv_sub hl [0, 1, 3] rfl) h
theorem vl_X9_greatest : vCl yX9_greatest cX9_greatest 4 (some .int) 1 := ⟨qy_X9_greatest, qjX9, by decide +kernel, by decide +kernel, by decide +kernel⟩
set_option maxHeartbeats 4000000 in
set_option maxRecDepth 100000 in
theorem c_X9_greatest {l : Launch} {D : va_G} {ka : Nat → ClassId} (X0 : VX) (N : Nat) (a0 : Nat) (l1 : Int32) (s sF : vS) (r : Int32) (h : F_X9_greatest N a0 l1 s = some (r, sF)) : isO s a0 9 = true ∧ vMet l D ka (xb X0) yX9_greatest cX9_greatest 4 (some .int) 2 44 [.ref (xb X0 + a0), .int l1] s sF (some (.int r)) := by
  unfold F_X9_greatest at h
  unfold rcv at h
  obtain ⟨hO, h⟩ := v_chk h
  refine ⟨hO, vMet.of (ini := false) X0 (plainFor_of_name (by decide +kernel)) (Nat.le_of_ble_eq_true rfl) (fun h => by cases h) (fun X ls hb hl => ?_) rfl⟩
  show V X (cX9_greatest, RX9, 4, 2, 44, false) (vRet sF (some (.int r)) (some .int)) sF s (G0 X 0 ls [])
  rw [← hb] at hl
  have hl : lv_has ls 4 [(0, .ref (xb X + a0)), (1, .int l1)] := hl
  refine v_bipush (-5 : Int32) dX9_greatest_0 (by decide) ?_
  refine v_istore_n [(2, .int (-5 : Int32)), (0, .ref (xb X + a0)), (1, .int l1)] dX9_greatest_2 rfl hl (by decide) rfl (fun ls hl => ?_)
  refine v_iconst (0 : Int32) dX9_greatest_3 (by decide) ?_
  refine v_istore_n [(3, .int (0 : Int32)), (2, .int (-5 : Int32)), (0, .ref (xb X + a0)), (1, .int l1)] dX9_greatest_4 rfl hl (by decide) rfl (fun ls hl => ?_)
  exact L_X9_greatest_5 N N a0 l1 (-5 : Int32) (0 : Int32) s ls (lv_sub hl [2, 3, 1, 0] rfl) h
theorem k_X9_greatest {X : VX} {cc : ByteArray} {own : String} {nL fr lo : Nat} {ini : Bool} {E : VX → Prop} {sF s : vS} {ρ : Type} {res : ρ} {pc : Nat} {ls : Array Slot} {rest : List Value} {N index : Nat} {a0 : Nat} {l1 : Int32} {f : Int32 → vS → Option ρ} (h : bnd (F_X9_greatest N a0 l1 s) f = some res) (hlink : Cond.methodLink own index yX9_greatest ∈ TT) (hR : 2 + 1 ≤ fr ∧ 8 + (4 + 11) + 44 ≤ lo) (hls : ls.size = nL) (hr : (rest.map fun v => v.category).sum ≤ 8) (hdg : decode cc pc = .ok (.invokevirtual index, 3)) (kk : ∀ r s', f r s' = some res → V X (cc, own, nL, fr, lo, ini) E sF s' (G0 X (pc + 3) ls (.int r :: rest))) : V X (cc, own, nL, fr, lo, ini) E sF s (G0 X pc ls (.int l1 :: .ref (xb X + a0) :: rest)) := by
  obtain ⟨r, s', e, h⟩ := bnd_some h
  exact v_callV (b := a0) (ci := 9) (As := [.int l1]) (rest := rest) (c_X9_greatest X N a0 l1 s s' r e).2 (c_X9_greatest (l := xl X) (D := xD X) (ka := xka X) X N a0 l1 s s' r e).1 rfl vl_X9_greatest qi_X9_greatest qe_X9_greatest hlink hR rfl rfl hls hr hdg (kk r s' h)
set_option maxHeartbeats 4000000 in
set_option maxRecDepth 100000 in
theorem L_X9_sum_63 {X : VX} {sF : vS} {r : Int32} (N : Nat) (k0 : Int32) (s : vS) (ls : Array Slot) (hl : lv_has ls 3 []) (h : J_X9_sum_63 N k0 s = some (r, sF)) : V X (cX9_sum, RX9, 3, 3, 67, false) (vRet sF (some (.int r)) (some .int)) sF s (G0 X 63 ls [.int k0]) := by
  unfold J_X9_sum_63 at h
  exact v_iret dX9_sum_63 h
set_option maxHeartbeats 4000000 in
set_option maxRecDepth 100000 in
theorem L_X9_sum_16 {X : VX} {sF : vS} {r : Int32} (N : Nat) (s : vS) (ls : Array Slot) (hl : lv_has ls 3 []) (h : J_X9_sum_16 N  s = some (r, sF)) : V X (cX9_sum, RX9, 3, 3, 67, false) (vRet sF (some (.int r)) (some .int)) sF s (G0 X 16 ls []) := by
  unfold J_X9_sum_16 at h
  refine v_iconst (-1 : Int32) dX9_sum_16 (by decide) ?_
  exact v_iret dX9_sum_17 h
theorem vl_X9_sum : vCl yX9_sum cX9_sum 3 (some .int) 2 := ⟨qy_X9_sum, qjX9, by decide +kernel, by decide +kernel, by decide +kernel⟩
set_option maxHeartbeats 4000000 in
set_option maxRecDepth 100000 in
theorem c_X9_sum {l : Launch} {D : va_G} {ka : Nat → ClassId} (X0 : VX) (N : Nat) (a0 : Nat) (l1 : Int32) (l2 : Int32) (s sF : vS) (r : Int32) (h : F_X9_sum N a0 l1 l2 s = some (r, sF)) : isO s a0 9 = true ∧ vMet l D ka (xb X0) yX9_sum cX9_sum 3 (some .int) 3 67 [.ref (xb X0 + a0), .int l1, .int l2] s sF (some (.int r)) := by
  unfold F_X9_sum at h
  unfold rcv at h
  obtain ⟨hO, h⟩ := v_chk h
  refine ⟨hO, vMet.of (ini := false) X0 (plainFor_of_name (by decide +kernel)) (Nat.le_of_ble_eq_true rfl) (fun h => by cases h) (fun X ls hb hl => ?_) rfl⟩
  show V X (cX9_sum, RX9, 3, 3, 67, false) (vRet sF (some (.int r)) (some .int)) sF s (G0 X 0 ls [])
  rw [← hb] at hl
  have hl : lv_has ls 3 [(0, .ref (xb X + a0)), (1, .int l1), (2, .int l2)] := hl
  refine v_iload_n dX9_sum_0 rfl (lv_at hl 1 rfl) ?_
  refine k_X9_isStore h qmX9_335 (by decide) hl.1 (Nat.le_of_ble_eq_true rfl) dX9_sum_1 (fun v1 s h => ?_)
  refine v_if_eq 16 dX9_sum_4 (by decide) h (fun h => ?_) (fun h => ?_)
  · exact L_X9_sum_16 N  s ls (lv_sub hl [] rfl) h
  · refine v_iload_n dX9_sum_7 rfl (lv_at hl 2 rfl) ?_
    refine v_iconst (0 : Int32) dX9_sum_8 (by decide) ?_
    refine v_iconst (2 : Int32) dX9_sum_9 (by decide) ?_
    refine k_X9_in h qmX9_129 (by decide) hl.1 (Nat.le_of_ble_eq_true rfl) dX9_sum_10 (fun v2 s h => ?_)
    refine v_if_ne 18 dX9_sum_13 (by decide) h (fun h => ?_) (fun h => ?_)
    · refine v_aload_n dX9_sum_18 rfl (lv_at hl 0 rfl) ?_
      refine v_getR 9 9 h (by decide) rfl qfX9_52 dX9_sum_19 (fun r3 h => ?_)
      refine v_iload_n dX9_sum_22 rfl (lv_at hl 1 rfl) ?_
      refine v_zald dX9_sum_23 h (fun v4 h => ?_)
      refine v_if_ne 30 dX9_sum_24 (by decide) h (fun h => ?_) (fun h => ?_)
      · refine v_iload_n dX9_sum_30 rfl (lv_at hl 2 rfl) ?_
        refine v_if_ne 42 dX9_sum_31 (by decide) h (fun h => ?_) (fun h => ?_)
        · refine v_iload_n dX9_sum_42 rfl (lv_at hl 2 rfl) ?_
          refine v_iconst (1 : Int32) dX9_sum_43 (by decide) ?_
          refine v_icmp_ne 58 dX9_sum_44 (by decide) h (fun h => ?_) (fun h => ?_)
          · refine v_aload_n dX9_sum_58 rfl (lv_at hl 0 rfl) ?_
            refine v_iload_n dX9_sum_59 rfl (lv_at hl 1 rfl) ?_
            refine k_X9_greatest h qmX9_344 (by decide) hl.1 (Nat.le_of_ble_eq_true rfl) dX9_sum_60 (fun v5 s h => ?_)
            exact L_X9_sum_63 N v5 s ls (lv_sub hl [] rfl) h
          · refine v_aload_n dX9_sum_47 rfl (lv_at hl 0 rfl) ?_
            refine v_getR 9 10 h (by decide) rfl qfX9_56 dX9_sum_48 (fun r6 h => ?_)
            refine v_iload_n dX9_sum_51 rfl (lv_at hl 1 rfl) ?_
            refine v_iald dX9_sum_52 h (fun v7 h => ?_)
            refine v_iconst (2 : Int32) dX9_sum_53 (by decide) ?_
            refine v_irem dX9_sum_54 h (fun h => ?_)
            refine v_goto 63 dX9_sum_55 (by decide) ?_
            exact L_X9_sum_63 N (v7 - v7 / (2 : Int32) * (2 : Int32)) s ls (lv_sub hl [] rfl) h
        · refine v_aload_n dX9_sum_34 rfl (lv_at hl 0 rfl) ?_
          refine v_iload_n dX9_sum_35 rfl (lv_at hl 1 rfl) ?_
          refine k_X9_terms h qmX9_196 (by decide) hl.1 (Nat.le_of_ble_eq_true rfl) dX9_sum_36 (fun v8 s h => ?_)
          refine v_goto 63 dX9_sum_39 (by decide) ?_
          exact L_X9_sum_63 N v8 s ls (lv_sub hl [] rfl) h
      · refine v_bipush (-3 : Int32) dX9_sum_27 (by decide) ?_
        exact v_iret dX9_sum_29 h
    · exact L_X9_sum_16 N  s ls (lv_sub hl [] rfl) h
