theorem vl_X7_takeBehindOne : vCl yX7_takeBehindOne cX7_takeBehindOne 4 (some .int) 1 := ⟨qy_X7_takeBehindOne, qjX7, by decide +kernel, by decide +kernel, by decide +kernel⟩
set_option maxHeartbeats 4000000 in
set_option maxRecDepth 100000 in
theorem c_X7_takeBehindOne {l : Launch} {D : va_G} {ka : Nat → ClassId} (X0 : VX) (N : Nat) (a0 : Nat) (l1 : Int32) (s sF : vS) (r : Int32) (h : F_X7_takeBehindOne N a0 l1 s = some (r, sF)) : isO s a0 7 = true ∧ vMet l D ka (xb X0) yX7_takeBehindOne cX7_takeBehindOne 4 (some .int) 3 65 [.ref (xb X0 + a0), .int l1] s sF (some (.int r)) := by
  unfold F_X7_takeBehindOne at h
  unfold rcv at h
  obtain ⟨hO, h⟩ := v_chk h
  refine ⟨hO, vMet.of (ini := false) X0 (plainFor_of_name (by decide +kernel)) (Nat.le_of_ble_eq_true rfl) (fun h => by cases h) (fun X ls hb hl => ?_) rfl⟩
  show V X (cX7_takeBehindOne, RX7, 4, 3, 65, false) (vRet sF (some (.int r)) (some .int)) sF s (G0 X 0 ls [])
  rw [← hb] at hl
  have hl : lv_has ls 4 [(0, .ref (xb X + a0)), (1, .int l1)] := hl
  refine v_aload_n dX7_takeBehindOne_0 rfl (lv_at hl 0 rfl) ?_
  refine v_getI 7 10 h (by decide) (Or.inl rfl) qfX7_37 dX7_takeBehindOne_1 (fun v1 h => ?_)
  refine v_if_le 24 dX7_takeBehindOne_4 (by decide) h (fun h => ?_) (fun h => ?_)
  · refine v_iconst (-1 : Int32) dX7_takeBehindOne_24 (by decide) ?_
    exact L_X7_takeBehindOne_25 N a0 l1 (-1 : Int32) s ls (lv_sub hl [0, 1] rfl) h
  · refine v_aload_n dX7_takeBehindOne_7 rfl (lv_at hl 0 rfl) ?_
    refine v_getR 7 2 h (by decide) rfl qfX7_9 dX7_takeBehindOne_8 (fun r2 h => ?_)
    refine v_aload_n dX7_takeBehindOne_11 rfl (lv_at hl 0 rfl) ?_
    refine v_getR 7 11 h (by decide) rfl qfX7_40 dX7_takeBehindOne_12 (fun r3 h => ?_)
    refine v_aload_n dX7_takeBehindOne_15 rfl (lv_at hl 0 rfl) ?_
    refine v_getI 7 10 h (by decide) (Or.inl rfl) qfX7_37 dX7_takeBehindOne_16 (fun v4 h => ?_)
    refine v_iald dX7_takeBehindOne_19 h (fun v5 h => ?_)
    refine v_iald dX7_takeBehindOne_20 h (fun v6 h => ?_)
    refine v_goto 25 dX7_takeBehindOne_21 (by decide) ?_
    exact L_X7_takeBehindOne_25 N a0 l1 v6 s ls (lv_sub hl [0, 1] rfl) h
theorem k_X7_takeBehindOne {X : VX} {cc : ByteArray} {own : String} {nL fr lo : Nat} {ini : Bool} {E : VX → Prop} {sF s : vS} {ρ : Type} {res : ρ} {pc : Nat} {ls : Array Slot} {rest : List Value} {N index : Nat} {a0 : Nat} {l1 : Int32} {f : Int32 → vS → Option ρ} (h : bnd (F_X7_takeBehindOne N a0 l1 s) f = some res) (hlink : Cond.methodLink own index yX7_takeBehindOne ∈ TT) (hR : 3 + 1 ≤ fr ∧ 8 + (4 + 11) + 65 ≤ lo) (hls : ls.size = nL) (hr : (rest.map fun v => v.category).sum ≤ 8) (hdg : decode cc pc = .ok (.invokevirtual index, 3)) (kk : ∀ r s', f r s' = some res → V X (cc, own, nL, fr, lo, ini) E sF s' (G0 X (pc + 3) ls (.int r :: rest))) : V X (cc, own, nL, fr, lo, ini) E sF s (G0 X pc ls (.int l1 :: .ref (xb X + a0) :: rest)) := by
  obtain ⟨r, s', e, h⟩ := bnd_some h
  exact v_callV (b := a0) (ci := 7) (As := [.int l1]) (rest := rest) (c_X7_takeBehindOne X N a0 l1 s s' r e).2 (c_X7_takeBehindOne (l := xl X) (D := xD X) (ka := xka X) X N a0 l1 s s' r e).1 rfl vl_X7_takeBehindOne qi_X7_takeBehindOne qe_X7_takeBehindOne hlink hR rfl rfl hls hr hdg (kk r s' h)
theorem vl_X7_takeOpening : vCl yX7_takeOpening cX7_takeOpening 1 (some .int) 0 := ⟨qy_X7_takeOpening, qjX7, by decide +kernel, by decide +kernel, by decide +kernel⟩
set_option maxHeartbeats 4000000 in
set_option maxRecDepth 100000 in
theorem c_X7_takeOpening {l : Launch} {D : va_G} {ka : Nat → ClassId} (X0 : VX) (N : Nat) (a0 : Nat) (s sF : vS) (r : Int32) (h : F_X7_takeOpening N a0 s = some (r, sF)) : isO s a0 7 = true ∧ vMet l D ka (xb X0) yX7_takeOpening cX7_takeOpening 1 (some .int) 1 22 [.ref (xb X0 + a0)] s sF (some (.int r)) := by
  unfold F_X7_takeOpening at h
  unfold rcv at h
  obtain ⟨hO, h⟩ := v_chk h
  refine ⟨hO, vMet.of (ini := false) X0 (plainFor_of_name (by decide +kernel)) (Nat.le_of_ble_eq_true rfl) (fun h => by cases h) (fun X ls hb hl => ?_) rfl⟩
  show V X (cX7_takeOpening, RX7, 1, 1, 22, false) (vRet sF (some (.int r)) (some .int)) sF s (G0 X 0 ls [])
  rw [← hb] at hl
  have hl : lv_has ls 1 [(0, .ref (xb X + a0))] := hl
  refine v_aload_n dX7_takeOpening_0 rfl (lv_at hl 0 rfl) ?_
  refine v_getI 7 10 h (by decide) (Or.inl rfl) qfX7_37 dX7_takeOpening_1 (fun v1 h => ?_)
  refine v_iconst (3 : Int32) dX7_takeOpening_4 (by decide) ?_
  refine v_icmp_lt 13 dX7_takeOpening_5 (by decide) h (fun h => ?_) (fun h => ?_)
  · refine v_aload_n dX7_takeOpening_13 rfl (lv_at hl 0 rfl) ?_
    refine v_aload_n dX7_takeOpening_14 rfl (lv_at hl 0 rfl) ?_
    refine v_getI 7 10 h (by decide) (Or.inl rfl) qfX7_37 dX7_takeOpening_15 (fun v2 h => ?_)
    refine v_iconst (1 : Int32) dX7_takeOpening_18 (by decide) ?_
    refine v_iadd dX7_takeOpening_19 ?_
    refine v_aload_n dX7_takeOpening_20 rfl (lv_at hl 0 rfl) ?_
    refine v_getI 7 9 h (by decide) (Or.inl rfl) qfX7_34 dX7_takeOpening_21 (fun v3 h => ?_)
    refine k_X7_startLevel h qmX7_64 (by decide) hl.1 (Nat.le_of_ble_eq_true rfl) dX7_takeOpening_24 (fun v4 s h => ?_)
    refine v_aload_n dX7_takeOpening_27 rfl (lv_at hl 0 rfl) ?_
    refine v_dup dX7_takeOpening_28 rfl ?_
    refine v_getI 7 9 h (by decide) (Or.inl rfl) qfX7_34 dX7_takeOpening_29 (fun v5 h => ?_)
    refine v_iconst (1 : Int32) dX7_takeOpening_32 (by decide) ?_
    refine v_iadd dX7_takeOpening_33 ?_
    refine v_putI 7 9 h (by decide) rfl (Or.inl rfl) qfX7_34 dX7_takeOpening_34 (fun s h => ?_)
    refine v_iconst (-1 : Int32) dX7_takeOpening_37 (by decide) ?_
    exact v_iret dX7_takeOpening_38 h
  · refine v_aload_n dX7_takeOpening_8 rfl (lv_at hl 0 rfl) ?_
    refine v_getI 7 9 h (by decide) (Or.inl rfl) qfX7_34 dX7_takeOpening_9 (fun v6 h => ?_)
    exact v_iret dX7_takeOpening_12 h
theorem k_X7_takeOpening {X : VX} {cc : ByteArray} {own : String} {nL fr lo : Nat} {ini : Bool} {E : VX → Prop} {sF s : vS} {ρ : Type} {res : ρ} {pc : Nat} {ls : Array Slot} {rest : List Value} {N index : Nat} {a0 : Nat} {f : Int32 → vS → Option ρ} (h : bnd (F_X7_takeOpening N a0 s) f = some res) (hlink : Cond.methodLink own index yX7_takeOpening ∈ TT) (hR : 1 + 1 ≤ fr ∧ 8 + (1 + 11) + 22 ≤ lo) (hls : ls.size = nL) (hr : (rest.map fun v => v.category).sum ≤ 8) (hdg : decode cc pc = .ok (.invokevirtual index, 3)) (kk : ∀ r s', f r s' = some res → V X (cc, own, nL, fr, lo, ini) E sF s' (G0 X (pc + 3) ls (.int r :: rest))) : V X (cc, own, nL, fr, lo, ini) E sF s (G0 X pc ls (.ref (xb X + a0) :: rest)) := by
  obtain ⟨r, s', e, h⟩ := bnd_some h
  exact v_callV (b := a0) (ci := 7) (As := []) (rest := rest) (c_X7_takeOpening X N a0 s s' r e).2 (c_X7_takeOpening (l := xl X) (D := xD X) (ka := xka X) X N a0 s s' r e).1 rfl vl_X7_takeOpening qi_X7_takeOpening qe_X7_takeOpening hlink hR rfl rfl hls hr hdg (kk r s' h)
set_option maxHeartbeats 4000000 in
set_option maxRecDepth 100000 in
theorem L_X7_endOfFigures_38 {X : VX} {sF : vS} {r : Int32} (N : Nat) (l2 : Int32) (s : vS) (ls : Array Slot) (hl : lv_has ls 3 [(2, .int l2)]) (h : J_X7_endOfFigures_38 N l2 s = some (r, sF)) : V X (cX7_endOfFigures, RX7, 3, 0, 0, false) (vRet sF (some (.int r)) (some .int)) sF s (G0 X 38 ls []) := by
  unfold J_X7_endOfFigures_38 at h
  refine v_iload_n dX7_endOfFigures_38 rfl (lv_at hl 0 rfl) ?_
  exact v_iret dX7_endOfFigures_39 h
set_option maxHeartbeats 4000000 in
set_option maxRecDepth 100000 in
theorem L_X7_endOfFigures_2 {X : VX} {sF : vS} {r : Int32} (N : Nat) : ∀ (n : Nat) (a0 : Nat) (l2 : Int32) (s : vS) (ls : Array Slot), lv_has ls 3 [(0, .ref (xb X + a0)), (2, .int l2)] → H_X7_endOfFigures_2 N n a0 l2 s = some (r, sF) → V X (cX7_endOfFigures, RX7, 3, 0, 0, false) (vRet sF (some (.int r)) (some .int)) sF s (G0 X 2 ls []) := by
  intro n
  induction n with
  | zero => intro a0 l2 s ls hl h; cases h
  | succ n ih =>
   intro a0 l2 s ls hl h
   unfold H_X7_endOfFigures_2 at h
   refine v_iload_n dX7_endOfFigures_2 rfl (lv_at hl 1 rfl) ?_
   refine v_aload_n dX7_endOfFigures_3 rfl (lv_at hl 0 rfl) ?_
   refine v_getI 7 3 h (by decide) (Or.inl rfl) qfX7_15 dX7_endOfFigures_4 (fun v1 h => ?_)
   refine v_icmp_ge 38 dX7_endOfFigures_7 (by decide) h (fun h => ?_) (fun h => ?_)
   · exact L_X7_endOfFigures_38 N l2 s ls (lv_sub hl [1] rfl) h
   · refine v_aload_n dX7_endOfFigures_10 rfl (lv_at hl 0 rfl) ?_
     refine v_getR 7 2 h (by decide) rfl qfX7_9 dX7_endOfFigures_11 (fun r2 h => ?_)
     refine v_iload_n dX7_endOfFigures_14 rfl (lv_at hl 1 rfl) ?_
     refine v_iald dX7_endOfFigures_15 h (fun v3 h => ?_)
     refine v_bipush (48 : Int32) dX7_endOfFigures_16 (by decide) ?_
     refine v_icmp_lt 38 dX7_endOfFigures_18 (by decide) h (fun h => ?_) (fun h => ?_)
     · exact L_X7_endOfFigures_38 N l2 s ls (lv_sub hl [1] rfl) h
     · refine v_aload_n dX7_endOfFigures_21 rfl (lv_at hl 0 rfl) ?_
       refine v_getR 7 2 h (by decide) rfl qfX7_9 dX7_endOfFigures_22 (fun r4 h => ?_)
       refine v_iload_n dX7_endOfFigures_25 rfl (lv_at hl 1 rfl) ?_
       refine v_iald dX7_endOfFigures_26 h (fun v5 h => ?_)
       refine v_bipush (57 : Int32) dX7_endOfFigures_27 (by decide) ?_
       refine v_icmp_gt 38 dX7_endOfFigures_29 (by decide) h (fun h => ?_) (fun h => ?_)
       · exact L_X7_endOfFigures_38 N l2 s ls (lv_sub hl [1] rfl) h
       · refine v_inc (fun z => [(2, .int z), (0, .ref (xb X + a0))]) dX7_endOfFigures_32 h hl (k := 1) rfl (by rfl) (by decide) (fun _ => rfl) (fun l2_6 ls hl h => ?_)
         refine v_goto 2 dX7_endOfFigures_35 (by decide) ?_
         exact ih a0 l2_6 s ls (lv_sub hl [1, 0] rfl) h
theorem vl_X7_endOfFigures : vCl yX7_endOfFigures cX7_endOfFigures 3 (some .int) 1 := ⟨qy_X7_endOfFigures, qjX7, by decide +kernel, by decide +kernel, by decide +kernel⟩
set_option maxHeartbeats 4000000 in
set_option maxRecDepth 100000 in
theorem c_X7_endOfFigures {l : Launch} {D : va_G} {ka : Nat → ClassId} (X0 : VX) (N : Nat) (a0 : Nat) (l1 : Int32) (s sF : vS) (r : Int32) (h : F_X7_endOfFigures N a0 l1 s = some (r, sF)) : isO s a0 7 = true ∧ vMet l D ka (xb X0) yX7_endOfFigures cX7_endOfFigures 3 (some .int) 0 0 [.ref (xb X0 + a0), .int l1] s sF (some (.int r)) := by
  unfold F_X7_endOfFigures at h
  unfold rcv at h
  obtain ⟨hO, h⟩ := v_chk h
  refine ⟨hO, vMet.of (ini := false) X0 (plainFor_of_name (by decide +kernel)) (Nat.le_of_ble_eq_true rfl) (fun h => by cases h) (fun X ls hb hl => ?_) rfl⟩
  show V X (cX7_endOfFigures, RX7, 3, 0, 0, false) (vRet sF (some (.int r)) (some .int)) sF s (G0 X 0 ls [])
  rw [← hb] at hl
  have hl : lv_has ls 3 [(0, .ref (xb X + a0)), (1, .int l1)] := hl
  refine v_iload_n dX7_endOfFigures_0 rfl (lv_at hl 1 rfl) ?_
  refine v_istore_n [(2, .int l1), (0, .ref (xb X + a0)), (1, .int l1)] dX7_endOfFigures_1 rfl hl (by decide) rfl (fun ls hl => ?_)
  exact L_X7_endOfFigures_2 N N a0 l1 s ls (lv_sub hl [1, 0] rfl) h
theorem k_X7_endOfFigures {X : VX} {cc : ByteArray} {own : String} {nL fr lo : Nat} {ini : Bool} {E : VX → Prop} {sF s : vS} {ρ : Type} {res : ρ} {pc : Nat} {ls : Array Slot} {rest : List Value} {N index : Nat} {a0 : Nat} {l1 : Int32} {f : Int32 → vS → Option ρ} (h : bnd (F_X7_endOfFigures N a0 l1 s) f = some res) (hlink : Cond.methodLink own index yX7_endOfFigures ∈ TT) (hR : 0 + 1 ≤ fr ∧ 8 + (3 + 11) + 0 ≤ lo) (hls : ls.size = nL) (hr : (rest.map fun v => v.category).sum ≤ 8) (hdg : decode cc pc = .ok (.invokevirtual index, 3)) (kk : ∀ r s', f r s' = some res → V X (cc, own, nL, fr, lo, ini) E sF s' (G0 X (pc + 3) ls (.int r :: rest))) : V X (cc, own, nL, fr, lo, ini) E sF s (G0 X pc ls (.int l1 :: .ref (xb X + a0) :: rest)) := by
  obtain ⟨r, s', e, h⟩ := bnd_some h
  exact v_callV (b := a0) (ci := 7) (As := [.int l1]) (rest := rest) (c_X7_endOfFigures X N a0 l1 s s' r e).2 (c_X7_endOfFigures (l := xl X) (D := xD X) (ka := xka X) X N a0 l1 s s' r e).1 rfl vl_X7_endOfFigures qi_X7_endOfFigures qe_X7_endOfFigures hlink hR rfl rfl hls hr hdg (kk r s' h)
set_option maxHeartbeats 4000000 in
set_option maxRecDepth 100000 in
theorem L_X7_badFigure_21 {X : VX} {sF : vS} {r : Int32} (N : Nat) (k0 : Int32) (s : vS) (ls : Array Slot) (hl : lv_has ls 3 []) (h : J_X7_badFigure_21 N k0 s = some (r, sF)) : V X (cX7_badFigure, RX7, 3, 0, 0, false) (vRet sF (some (.int r)) (some .int)) sF s (G0 X 21 ls [.int k0]) := by
  unfold J_X7_badFigure_21 at h
  exact v_iret dX7_badFigure_21 h
theorem vl_X7_badFigure : vCl yX7_badFigure cX7_badFigure 3 (some .int) 3 := ⟨qy_X7_badFigure, qjX7, by decide +kernel, by decide +kernel, by decide +kernel⟩
set_option maxHeartbeats 4000000 in
set_option maxRecDepth 100000 in
theorem c_X7_badFigure {l : Launch} {D : va_G} {ka : Nat → ClassId} (X0 : VX) (N : Nat) (l0 : Int32) (l1 : Int32) (l2 : Int32) (s sF : vS) (r : Int32) (h : F_X7_badFigure N l0 l1 l2 s = some (r, sF)) : vMet l D ka (xb X0) yX7_badFigure cX7_badFigure 3 (some .int) 0 0 [.int l0, .int l1, .int l2] s sF (some (.int r)) := by
  unfold F_X7_badFigure at h
  refine vMet.of (ini := false) X0 (plainFor_of_name (by decide +kernel)) (Nat.le_of_ble_eq_true rfl) (fun h => by cases h) (fun X ls hb hl => ?_) rfl
  show V X (cX7_badFigure, RX7, 3, 0, 0, false) (vRet sF (some (.int r)) (some .int)) sF s (G0 X 0 ls [])
  have hl : lv_has ls 3 [(0, .int l0), (1, .int l1), (2, .int l2)] := hl
  refine v_iload_n dX7_badFigure_0 rfl (lv_at hl 1 rfl) ?_
  refine v_iload_n dX7_badFigure_1 rfl (lv_at hl 0 rfl) ?_
  refine v_icmp_ne 7 dX7_badFigure_2 (by decide) h (fun h => ?_) (fun h => ?_)
  · refine v_iload_n dX7_badFigure_7 rfl (lv_at hl 1 rfl) ?_
    refine v_iload_n dX7_badFigure_8 rfl (lv_at hl 0 rfl) ?_
    refine v_isub dX7_badFigure_9 ?_
    refine v_iload_n dX7_badFigure_10 rfl (lv_at hl 2 rfl) ?_
    refine v_icmp_le 20 dX7_badFigure_11 (by decide) h (fun h => ?_) (fun h => ?_)
    · refine v_iconst (-1 : Int32) dX7_badFigure_20 (by decide) ?_
      exact L_X7_badFigure_21 N (-1 : Int32) s ls (lv_sub hl [] rfl) h
    · refine v_iload_n dX7_badFigure_14 rfl (lv_at hl 0 rfl) ?_
      refine v_iload_n dX7_badFigure_15 rfl (lv_at hl 2 rfl) ?_
      refine v_iadd dX7_badFigure_16 ?_
      refine v_goto 21 dX7_badFigure_17 (by decide) ?_
      exact L_X7_badFigure_21 N (l0 + l2) s ls (lv_sub hl [] rfl) h
  · refine v_iload_n dX7_badFigure_5 rfl (lv_at hl 0 rfl) ?_
    exact v_iret dX7_badFigure_6 h
theorem k_X7_badFigure {X : VX} {cc : ByteArray} {own : String} {nL fr lo : Nat} {ini : Bool} {E : VX → Prop} {sF s : vS} {ρ : Type} {res : ρ} {pc : Nat} {ls : Array Slot} {rest : List Value} {N index : Nat} {l0 : Int32} {l1 : Int32} {l2 : Int32} {f : Int32 → vS → Option ρ} (h : bnd (F_X7_badFigure N l0 l1 l2 s) f = some res) (hlink : Cond.methodLink own index yX7_badFigure ∈ TT) (hR : 0 + 1 ≤ fr ∧ 8 + (3 + 11) + 0 ≤ lo) (hls : ls.size = nL) (hr : (rest.map fun v => v.category).sum ≤ 8) (hdg : decode cc pc = .ok (.invokestatic index, 3)) (kk : ∀ r s', f r s' = some res → V X (cc, own, nL, fr, lo, ini) E sF s' (G0 X (pc + 3) ls (.int r :: rest))) : V X (cc, own, nL, fr, lo, ini) E sF s (G0 X pc ls (.int l2 :: .int l1 :: .int l0 :: rest)) := by
  obtain ⟨r, s', e, h⟩ := bnd_some h
  exact v_callS (As := [.int l0, .int l1, .int l2]) (rest := rest) (c_X7_badFigure X N l0 l1 l2 s s' r e) vl_X7_badFigure qs_X7_badFigure hlink hR rfl rfl hls hr hdg (kk r s' h)
set_option maxHeartbeats 4000000 in
set_option maxRecDepth 100000 in
theorem L_X7_netOf_93 {X : VX} {sF : vS} {r : Int32} (N : Nat) (s : vS) (ls : Array Slot) (hl : lv_has ls 9 []) (h : J_X7_netOf_93 N  s = some (r, sF)) : V X (cX7_netOf, RX7, 9, 1, 23, false) (vRet sF (some (.int r)) (some .int)) sF s (G0 X 93 ls []) := by
  unfold J_X7_netOf_93 at h
  refine v_iconst (-1 : Int32) dX7_netOf_93 (by decide) ?_
  exact v_iret dX7_netOf_94 h
set_option maxHeartbeats 4000000 in
set_option maxRecDepth 100000 in
theorem L_X7_netOf_38 {X : VX} {sF : vS} {r : Int32} (N : Nat) : ∀ (n : Nat) (a0 : Nat) (l2 : Int32) (a3 : Nat) (l4 : Int32) (l5 : Int32) (l6 : Int32) (s : vS) (ls : Array Slot), lv_has ls 9 [(0, .ref (xb X + a0)), (2, .int l2), (3, .ref (xb X + a3)), (4, .int l4), (5, .int l5), (6, .int l6)] → H_X7_netOf_38 N n a0 l2 a3 l4 l5 l6 s = some (r, sF) → V X (cX7_netOf, RX7, 9, 1, 23, false) (vRet sF (some (.int r)) (some .int)) sF s (G0 X 38 ls []) := by
  intro n
  induction n with
  | zero => intro a0 l2 a3 l4 l5 l6 s ls hl h; cases h
  | succ n ih =>
   intro a0 l2 a3 l4 l5 l6 s ls hl h
   unfold H_X7_netOf_38 at h
   refine v_iload dX7_netOf_38 (lv_at hl 5 rfl) ?_
   refine v_iconst (1 : Int32) dX7_netOf_40 (by decide) ?_
   refine v_iadd dX7_netOf_41 ?_
   refine v_iload_n dX7_netOf_42 rfl (lv_at hl 1 rfl) ?_
   refine v_icmp_ge 113 dX7_netOf_43 (by decide) h (fun h => ?_) (fun h => ?_)
   · refine v_aload_n dX7_netOf_113 rfl (lv_at hl 2 rfl) ?_
     refine v_getR 1 7 h (by decide) rfl qfX7_127 dX7_netOf_114 (fun r6 h => ?_)
     refine v_iload dX7_netOf_117 (lv_at hl 3 rfl) ?_
     refine v_aald 6 dX7_netOf_119 h (fun r7 h => ?_)
     refine v_iload dX7_netOf_120 (lv_at hl 4 rfl) ?_
     refine v_iald dX7_netOf_122 h (fun v8 h => ?_)
     exact v_iret dX7_netOf_123 h
   · refine v_aload_n dX7_netOf_46 rfl (lv_at hl 0 rfl) ?_
     refine v_getR 7 2 h (by decide) rfl qfX7_9 dX7_netOf_47 (fun r9 h => ?_)
     refine v_iload dX7_netOf_50 (lv_at hl 5 rfl) ?_
     refine v_iald dX7_netOf_52 h (fun v10 h => ?_)
     refine v_bipush (48 : Int32) dX7_netOf_53 (by decide) ?_
     refine v_isub dX7_netOf_55 ?_
     refine v_nmI h (fun l7_11 h => ?_)
     refine v_istore [(7, .int l7_11), (0, .ref (xb X + a0)), (2, .int l2), (3, .ref (xb X + a3)), (4, .int l4), (5, .int l5), (6, .int l6)] dX7_netOf_56 hl (by decide) rfl (fun ls hl => ?_)
     refine v_aload_n dX7_netOf_58 rfl (lv_at hl 1 rfl) ?_
     refine v_getR 7 2 h (by decide) rfl qfX7_9 dX7_netOf_59 (fun r12 h => ?_)
     refine v_iload dX7_netOf_62 (lv_at hl 6 rfl) ?_
     refine v_iconst (1 : Int32) dX7_netOf_64 (by decide) ?_
     refine v_iadd dX7_netOf_65 ?_
     refine v_iald dX7_netOf_66 h (fun v13 h => ?_)
     refine v_bipush (48 : Int32) dX7_netOf_67 (by decide) ?_
     refine v_isub dX7_netOf_69 ?_
     refine v_nmI h (fun l8_14 h => ?_)
     refine v_istore [(8, .int l8_14), (7, .int l7_11), (0, .ref (xb X + a0)), (2, .int l2), (3, .ref (xb X + a3)), (4, .int l4), (5, .int l5), (6, .int l6)] dX7_netOf_70 hl (by decide) rfl (fun ls hl => ?_)
     refine v_iload dX7_netOf_72 (lv_at hl 1 rfl) ?_
     refine v_iload dX7_netOf_74 (lv_at hl 0 rfl) ?_
     refine v_icmp_eq 93 dX7_netOf_76 (by decide) h (fun h => ?_) (fun h => ?_)
     · exact L_X7_netOf_93 N  s ls (lv_sub hl [] rfl) h
     · refine v_iload dX7_netOf_79 (lv_at hl 1 rfl) ?_
       refine v_iload dX7_netOf_81 (lv_at hl 5 rfl) ?_
       refine v_icmp_ge 93 dX7_netOf_83 (by decide) h (fun h => ?_) (fun h => ?_)
       · exact L_X7_netOf_93 N  s ls (lv_sub hl [] rfl) h
       · refine v_iload dX7_netOf_86 (lv_at hl 0 rfl) ?_
         refine v_iload dX7_netOf_88 (lv_at hl 5 rfl) ?_
         refine v_icmp_lt 95 dX7_netOf_90 (by decide) h (fun h => ?_) (fun h => ?_)
         · refine v_iload dX7_netOf_95 (lv_at hl 6 rfl) ?_
           refine v_iload dX7_netOf_97 (lv_at hl 1 rfl) ?_
           refine v_iload dX7_netOf_99 (lv_at hl 0 rfl) ?_
           refine k_X1_bitOf h qmX7_124 (by decide) hl.1 (Nat.le_of_ble_eq_true rfl) dX7_netOf_101 (fun v15 s h => ?_)
           refine v_ior dX7_netOf_104 ?_
           refine v_nmI h (fun l5_16 h => ?_)
           refine v_istore [(5, .int l5_16), (8, .int l8_14), (7, .int l7_11), (0, .ref (xb X + a0)), (2, .int l2), (3, .ref (xb X + a3)), (4, .int l4), (6, .int l6)] dX7_netOf_105 hl (by decide) rfl (fun ls hl => ?_)
           refine v_inc (fun z => [(6, .int z), (5, .int l5_16), (8, .int l8_14), (7, .int l7_11), (0, .ref (xb X + a0)), (2, .int l2), (3, .ref (xb X + a3)), (4, .int l4)]) dX7_netOf_107 h hl (k := 7) rfl (by rfl) (by decide) (fun _ => rfl) (fun l6_17 ls hl h => ?_)
           refine v_goto 38 dX7_netOf_110 (by decide) ?_
           exact ih a0 l2 a3 l4 l5_16 l6_17 s ls (lv_sub hl [4, 5, 6, 7, 1, 0] rfl) h
         · exact L_X7_netOf_93 N  s ls (lv_sub hl [] rfl) h
set_option maxHeartbeats 4000000 in
set_option maxRecDepth 100000 in
theorem L_X7_netOf_28 {X : VX} {sF : vS} {r : Int32} (N : Nat) (s : vS) (ls : Array Slot) (hl : lv_has ls 9 []) (h : J_X7_netOf_28 N  s = some (r, sF)) : V X (cX7_netOf, RX7, 9, 1, 23, false) (vRet sF (some (.int r)) (some .int)) sF s (G0 X 28 ls []) := by
  unfold J_X7_netOf_28 at h
  refine v_iconst (-1 : Int32) dX7_netOf_28 (by decide) ?_
  exact v_iret dX7_netOf_29 h
theorem vl_X7_netOf : vCl yX7_netOf cX7_netOf 9 (some .int) 3 := ⟨qy_X7_netOf, qjX7, by decide +kernel, by decide +kernel, by decide +kernel⟩
set_option maxHeartbeats 4000000 in
set_option maxRecDepth 100000 in
theorem c_X7_netOf {l : Launch} {D : va_G} {ka : Nat → ClassId} (X0 : VX) (N : Nat) (a0 : Nat) (l1 : Int32) (l2 : Int32) (a3 : Nat) (s sF : vS) (r : Int32) (h : F_X7_netOf N a0 l1 l2 a3 s = some (r, sF)) : isO s a0 7 = true ∧ vMet l D ka (xb X0) yX7_netOf cX7_netOf 9 (some .int) 1 23 [.ref (xb X0 + a0), .int l1, .int l2, .ref (xb X0 + a3)] s sF (some (.int r)) := by
  unfold F_X7_netOf at h
  unfold rcv at h
  obtain ⟨hO, h⟩ := v_chk h
  refine ⟨hO, vMet.of (ini := false) X0 (plainFor_of_name (by decide +kernel)) (Nat.le_of_ble_eq_true rfl) (fun h => by cases h) (fun X ls hb hl => ?_) rfl⟩
  show V X (cX7_netOf, RX7, 9, 1, 23, false) (vRet sF (some (.int r)) (some .int)) sF s (G0 X 0 ls [])
  rw [← hb] at hl
  have hl : lv_has ls 9 [(0, .ref (xb X + a0)), (1, .int l1), (2, .int l2), (3, .ref (xb X + a3))] := hl
  refine v_aload_n dX7_netOf_0 rfl (lv_at hl 0 rfl) ?_
  refine v_getR 7 2 h (by decide) rfl qfX7_9 dX7_netOf_1 (fun r1 h => ?_)
  refine v_iload_n dX7_netOf_4 rfl (lv_at hl 1 rfl) ?_
  refine v_iald dX7_netOf_5 h (fun v2 h => ?_)
  refine v_bipush (48 : Int32) dX7_netOf_6 (by decide) ?_
  refine v_isub dX7_netOf_8 ?_
  refine v_nmI h (fun l4_3 h => ?_)
  refine v_istore [(4, .int l4_3), (0, .ref (xb X + a0)), (1, .int l1), (2, .int l2), (3, .ref (xb X + a3))] dX7_netOf_9 hl (by decide) rfl (fun ls hl => ?_)
  refine v_aload_n dX7_netOf_11 rfl (lv_at hl 4 rfl) ?_
  refine v_iload dX7_netOf_12 (lv_at hl 0 rfl) ?_
  refine k_X1_hasSize h qmX7_118 (by decide) hl.1 (Nat.le_of_ble_eq_true rfl) dX7_netOf_14 (fun v4 s h => ?_)
  refine v_if_eq 28 dX7_netOf_17 (by decide) h (fun h => ?_) (fun h => ?_)
  · exact L_X7_netOf_28 N  s ls (lv_sub hl [] rfl) h
  · refine v_iload_n dX7_netOf_20 rfl (lv_at hl 3 rfl) ?_
    refine v_iload_n dX7_netOf_21 rfl (lv_at hl 2 rfl) ?_
    refine v_isub dX7_netOf_22 ?_
    refine v_iconst (2 : Int32) dX7_netOf_23 (by decide) ?_
    refine v_irem dX7_netOf_24 h (fun h => ?_)
    refine v_if_ne 30 dX7_netOf_25 (by decide) h (fun h => ?_) (fun h => ?_)
    · refine v_iconst (0 : Int32) dX7_netOf_30 (by decide) ?_
      refine v_istore [(5, .int (0 : Int32)), (4, .int l4_3), (0, .ref (xb X + a0)), (1, .int l1), (2, .int l2), (3, .ref (xb X + a3))] dX7_netOf_31 hl (by decide) rfl (fun ls hl => ?_)
      refine v_iload_n dX7_netOf_33 rfl (lv_at hl 3 rfl) ?_
      refine v_iconst (1 : Int32) dX7_netOf_34 (by decide) ?_
      refine v_iadd dX7_netOf_35 ?_
      refine v_nmI h (fun l6_5 h => ?_)
      refine v_istore [(6, .int l6_5), (5, .int (0 : Int32)), (4, .int l4_3), (0, .ref (xb X + a0)), (1, .int l1), (2, .int l2), (3, .ref (xb X + a3))] dX7_netOf_36 hl (by decide) rfl (fun ls hl => ?_)
      exact L_X7_netOf_38 N N a0 l2 a3 l4_3 (0 : Int32) l6_5 s ls (lv_sub hl [3, 5, 6, 2, 1, 0] rfl) h
    · exact L_X7_netOf_28 N  s ls (lv_sub hl [] rfl) h
theorem k_X7_netOf {X : VX} {cc : ByteArray} {own : String} {nL fr lo : Nat} {ini : Bool} {E : VX → Prop} {sF s : vS} {ρ : Type} {res : ρ} {pc : Nat} {ls : Array Slot} {rest : List Value} {N index : Nat} {a0 : Nat} {l1 : Int32} {l2 : Int32} {a3 : Nat} {f : Int32 → vS → Option ρ} (h : bnd (F_X7_netOf N a0 l1 l2 a3 s) f = some res) (hlink : Cond.methodLink own index yX7_netOf ∈ TT) (hR : 1 + 1 ≤ fr ∧ 8 + (9 + 11) + 23 ≤ lo) (hls : ls.size = nL) (hr : (rest.map fun v => v.category).sum ≤ 8) (hdg : decode cc pc = .ok (.invokevirtual index, 3)) (kk : ∀ r s', f r s' = some res → V X (cc, own, nL, fr, lo, ini) E sF s' (G0 X (pc + 3) ls (.int r :: rest))) : V X (cc, own, nL, fr, lo, ini) E sF s (G0 X pc ls (.ref (xb X + a3) :: .int l2 :: .int l1 :: .ref (xb X + a0) :: rest)) := by
  obtain ⟨r, s', e, h⟩ := bnd_some h
  exact v_callV (b := a0) (ci := 7) (As := [.int l1, .int l2, .ref (xb X + a3)]) (rest := rest) (c_X7_netOf X N a0 l1 l2 a3 s s' r e).2 (c_X7_netOf (l := xl X) (D := xD X) (ka := xka X) X N a0 l1 l2 a3 s s' r e).1 rfl vl_X7_netOf qi_X7_netOf qe_X7_netOf hlink hR rfl rfl hls hr hdg (kk r s' h)
set_option maxHeartbeats 4000000 in
set_option maxRecDepth 100000 in
theorem L_X7_takeNet_53 {X : VX} {sF : vS} {r : Int32} (N : Nat) (l4 : Int32) (s : vS) (ls : Array Slot) (hl : lv_has ls 6 [(4, .int l4)]) (h : J_X7_takeNet_53 N l4 s = some (r, sF)) : V X (cX7_takeNet, RX7, 6, 2, 51, false) (vRet sF (some (.int r)) (some .int)) sF s (G0 X 53 ls []) := by
  unfold J_X7_takeNet_53 at h
  refine v_iload dX7_takeNet_53 (lv_at hl 0 rfl) ?_
  exact v_iret dX7_takeNet_55 h
theorem vl_X7_takeNet : vCl yX7_takeNet cX7_takeNet 6 (some .int) 2 := ⟨qy_X7_takeNet, qjX7, by decide +kernel, by decide +kernel, by decide +kernel⟩
set_option maxHeartbeats 4000000 in
set_option maxRecDepth 100000 in
theorem c_X7_takeNet {l : Launch} {D : va_G} {ka : Nat → ClassId} (X0 : VX) (N : Nat) (a0 : Nat) (l1 : Int32) (a2 : Nat) (s sF : vS) (r : Int32) (h : F_X7_takeNet N a0 l1 a2 s = some (r, sF)) : isO s a0 7 = true ∧ vMet l D ka (xb X0) yX7_takeNet cX7_takeNet 6 (some .int) 2 51 [.ref (xb X0 + a0), .int l1, .ref (xb X0 + a2)] s sF (some (.int r)) := by
  unfold F_X7_takeNet at h
  unfold rcv at h
  obtain ⟨hO, h⟩ := v_chk h
  refine ⟨hO, vMet.of (ini := false) X0 (plainFor_of_name (by decide +kernel)) (Nat.le_of_ble_eq_true rfl) (fun h => by cases h) (fun X ls hb hl => ?_) rfl⟩
  show V X (cX7_takeNet, RX7, 6, 2, 51, false) (vRet sF (some (.int r)) (some .int)) sF s (G0 X 0 ls [])
  rw [← hb] at hl
  have hl : lv_has ls 6 [(0, .ref (xb X + a0)), (1, .int l1), (2, .ref (xb X + a2))] := hl
  refine v_aload_n dX7_takeNet_0 rfl (lv_at hl 0 rfl) ?_
  refine v_getI 7 9 h (by decide) (Or.inl rfl) qfX7_34 dX7_takeNet_1 (fun v1 h => ?_)
  refine v_iconst (1 : Int32) dX7_takeNet_4 (by decide) ?_
  refine v_iadd dX7_takeNet_5 ?_
  refine v_nmI h (fun l3_2 h => ?_)
  refine v_istore_n [(3, .int l3_2), (0, .ref (xb X + a0)), (1, .int l1), (2, .ref (xb X + a2))] dX7_takeNet_6 rfl hl (by decide) rfl (fun ls hl => ?_)
  refine v_aload_n dX7_takeNet_7 rfl (lv_at hl 1 rfl) ?_
  refine v_iload_n dX7_takeNet_8 rfl (lv_at hl 0 rfl) ?_
  refine k_X7_endOfFigures h qmX7_104 (by decide) hl.1 (Nat.le_of_ble_eq_true rfl) dX7_takeNet_9 (fun v3 s h => ?_)
  refine v_istore [(4, .int v3), (3, .int l3_2), (0, .ref (xb X + a0)), (1, .int l1), (2, .ref (xb X + a2))] dX7_takeNet_12 hl (by decide) rfl (fun ls hl => ?_)
  refine v_iload_n dX7_takeNet_14 rfl (lv_at hl 1 rfl) ?_
  refine v_iload dX7_takeNet_15 (lv_at hl 0 rfl) ?_
  refine v_bipush (9 : Int32) dX7_takeNet_17 (by decide) ?_
  refine k_X7_badFigure h qmX7_107 (by decide) hl.1 (Nat.le_of_ble_eq_true rfl) dX7_takeNet_19 (fun v4 s h => ?_)
  refine v_istore [(5, .int v4), (4, .int v3), (3, .int l3_2), (0, .ref (xb X + a0)), (1, .int l1), (2, .ref (xb X + a2))] dX7_takeNet_22 hl (by decide) rfl (fun ls hl => ?_)
  refine v_iload dX7_takeNet_24 (lv_at hl 0 rfl) ?_
  refine v_iconst (-1 : Int32) dX7_takeNet_26 (by decide) ?_
  refine v_icmp_eq 33 dX7_takeNet_27 (by decide) h (fun h => ?_) (fun h => ?_)
  · refine v_iload dX7_takeNet_33 (lv_at hl 1 rfl) ?_
    refine v_aload_n dX7_takeNet_35 rfl (lv_at hl 3 rfl) ?_
    refine v_getI 7 3 h (by decide) (Or.inl rfl) qfX7_15 dX7_takeNet_36 (fun v5 h => ?_)
    refine v_icmp_ge 53 dX7_takeNet_39 (by decide) h (fun h => ?_) (fun h => ?_)
    · exact L_X7_takeNet_53 N v3 s ls (lv_sub hl [1] rfl) h
    · refine v_aload_n dX7_takeNet_42 rfl (lv_at hl 3 rfl) ?_
      refine v_getR 7 2 h (by decide) rfl qfX7_9 dX7_takeNet_43 (fun r6 h => ?_)
      refine v_iload dX7_takeNet_46 (lv_at hl 1 rfl) ?_
      refine v_iald dX7_takeNet_48 h (fun v7 h => ?_)
      refine v_iload_n dX7_takeNet_49 rfl (lv_at hl 4 rfl) ?_
      refine v_icmp_eq 56 dX7_takeNet_50 (by decide) h (fun h => ?_) (fun h => ?_)
      · refine v_aload_n dX7_takeNet_56 rfl (lv_at hl 3 rfl) ?_
        refine v_aload_n dX7_takeNet_57 rfl (lv_at hl 3 rfl) ?_
        refine v_getR 7 2 h (by decide) rfl qfX7_9 dX7_takeNet_58 (fun r8 h => ?_)
        refine v_aload_n dX7_takeNet_61 rfl (lv_at hl 3 rfl) ?_
        refine v_getI 7 9 h (by decide) (Or.inl rfl) qfX7_34 dX7_takeNet_62 (fun v9 h => ?_)
        refine v_iald dX7_takeNet_65 h (fun v10 h => ?_)
        refine v_aload_n dX7_takeNet_66 rfl (lv_at hl 3 rfl) ?_
        refine v_getI 7 9 h (by decide) (Or.inl rfl) qfX7_34 dX7_takeNet_67 (fun v11 h => ?_)
        refine v_aload_n dX7_takeNet_70 rfl (lv_at hl 3 rfl) ?_
        refine v_iload_n dX7_takeNet_71 rfl (lv_at hl 2 rfl) ?_
        refine v_iload dX7_takeNet_72 (lv_at hl 1 rfl) ?_
        refine v_aload_n dX7_takeNet_74 rfl (lv_at hl 5 rfl) ?_
        refine k_X7_netOf h qmX7_111 (by decide) hl.1 (Nat.le_of_ble_eq_true rfl) dX7_takeNet_75 (fun v12 s h => ?_)
        refine v_iconst (0 : Int32) dX7_takeNet_78 (by decide) ?_
        refine k_X7_order h qmX7_85 (by decide) hl.1 (Nat.le_of_ble_eq_true rfl) dX7_takeNet_79 (fun v13 s h => ?_)
        refine v_aload_n dX7_takeNet_82 rfl (lv_at hl 3 rfl) ?_
        refine v_iload dX7_takeNet_83 (lv_at hl 1 rfl) ?_
        refine v_iconst (1 : Int32) dX7_takeNet_85 (by decide) ?_
        refine v_iadd dX7_takeNet_86 ?_
        refine v_putI 7 9 h (by decide) rfl (Or.inl rfl) qfX7_34 dX7_takeNet_87 (fun s h => ?_)
        refine v_iconst (-1 : Int32) dX7_takeNet_90 (by decide) ?_
        exact v_iret dX7_takeNet_91 h
      · exact L_X7_takeNet_53 N v3 s ls (lv_sub hl [1] rfl) h
  · refine v_iload dX7_takeNet_30 (lv_at hl 0 rfl) ?_
    exact v_iret dX7_takeNet_32 h
theorem k_X7_takeNet {X : VX} {cc : ByteArray} {own : String} {nL fr lo : Nat} {ini : Bool} {E : VX → Prop} {sF s : vS} {ρ : Type} {res : ρ} {pc : Nat} {ls : Array Slot} {rest : List Value} {N index : Nat} {a0 : Nat} {l1 : Int32} {a2 : Nat} {f : Int32 → vS → Option ρ} (h : bnd (F_X7_takeNet N a0 l1 a2 s) f = some res) (hlink : Cond.methodLink own index yX7_takeNet ∈ TT) (hR : 2 + 1 ≤ fr ∧ 8 + (6 + 11) + 51 ≤ lo) (hls : ls.size = nL) (hr : (rest.map fun v => v.category).sum ≤ 8) (hdg : decode cc pc = .ok (.invokevirtual index, 3)) (kk : ∀ r s', f r s' = some res → V X (cc, own, nL, fr, lo, ini) E sF s' (G0 X (pc + 3) ls (.int r :: rest))) : V X (cc, own, nL, fr, lo, ini) E sF s (G0 X pc ls (.ref (xb X + a2) :: .int l1 :: .ref (xb X + a0) :: rest)) := by
  obtain ⟨r, s', e, h⟩ := bnd_some h
  exact v_callV (b := a0) (ci := 7) (As := [.int l1, .ref (xb X + a2)]) (rest := rest) (c_X7_takeNet X N a0 l1 a2 s s' r e).2 (c_X7_takeNet (l := xl X) (D := xD X) (ka := xka X) X N a0 l1 a2 s s' r e).1 rfl vl_X7_takeNet qi_X7_takeNet qe_X7_takeNet hlink hR rfl rfl hls hr hdg (kk r s' h)
set_option maxHeartbeats 4000000 in
set_option maxRecDepth 100000 in
theorem L_X7_numberOf_5 {X : VX} {sF : vS} {r : Int32} (N : Nat) : ∀ (n : Nat) (a0 : Nat) (l2 : Int32) (l3 : Int32) (l4 : Int32) (s : vS) (ls : Array Slot), lv_has ls 5 [(0, .ref (xb X + a0)), (2, .int l2), (3, .int l3), (4, .int l4)] → H_X7_numberOf_5 N n a0 l2 l3 l4 s = some (r, sF) → V X (cX7_numberOf, RX7, 5, 0, 0, false) (vRet sF (some (.int r)) (some .int)) sF s (G0 X 5 ls []) := by
  intro n
  induction n with
  | zero => intro a0 l2 l3 l4 s ls hl h; cases h
  | succ n ih =>
   intro a0 l2 l3 l4 s ls hl h
   unfold H_X7_numberOf_5 at h
   refine v_iload dX7_numberOf_5 (lv_at hl 3 rfl) ?_
   refine v_iload_n dX7_numberOf_7 rfl (lv_at hl 1 rfl) ?_
   refine v_icmp_ge 33 dX7_numberOf_8 (by decide) h (fun h => ?_) (fun h => ?_)
   · refine v_iload_n dX7_numberOf_33 rfl (lv_at hl 2 rfl) ?_
     exact v_iret dX7_numberOf_34 h
   · refine v_iload_n dX7_numberOf_11 rfl (lv_at hl 2 rfl) ?_
     refine v_bipush (10 : Int32) dX7_numberOf_12 (by decide) ?_
     refine v_imul dX7_numberOf_14 ?_
     refine v_aload_n dX7_numberOf_15 rfl (lv_at hl 0 rfl) ?_
     refine v_getR 7 2 h (by decide) rfl qfX7_9 dX7_numberOf_16 (fun r1 h => ?_)
     refine v_iload dX7_numberOf_19 (lv_at hl 3 rfl) ?_
     refine v_iald dX7_numberOf_21 h (fun v2 h => ?_)
     refine v_iadd dX7_numberOf_22 ?_
     refine v_bipush (48 : Int32) dX7_numberOf_23 (by decide) ?_
     refine v_isub dX7_numberOf_25 ?_
     refine v_nmI h (fun l3_3 h => ?_)
     refine v_istore_n [(3, .int l3_3), (0, .ref (xb X + a0)), (2, .int l2), (4, .int l4)] dX7_numberOf_26 rfl hl (by decide) rfl (fun ls hl => ?_)
     refine v_inc (fun z => [(4, .int z), (3, .int l3_3), (0, .ref (xb X + a0)), (2, .int l2)]) dX7_numberOf_27 h hl (k := 3) rfl (by rfl) (by decide) (fun _ => rfl) (fun l4_4 ls hl h => ?_)
     refine v_goto 5 dX7_numberOf_30 (by decide) ?_
     exact ih a0 l2 l3_3 l4_4 s ls (lv_sub hl [2, 3, 1, 0] rfl) h
theorem vl_X7_numberOf : vCl yX7_numberOf cX7_numberOf 5 (some .int) 2 := ⟨qy_X7_numberOf, qjX7, by decide +kernel, by decide +kernel, by decide +kernel⟩
set_option maxHeartbeats 4000000 in
set_option maxRecDepth 100000 in
theorem c_X7_numberOf {l : Launch} {D : va_G} {ka : Nat → ClassId} (X0 : VX) (N : Nat) (a0 : Nat) (l1 : Int32) (l2 : Int32) (s sF : vS) (r : Int32) (h : F_X7_numberOf N a0 l1 l2 s = some (r, sF)) : isO s a0 7 = true ∧ vMet l D ka (xb X0) yX7_numberOf cX7_numberOf 5 (some .int) 0 0 [.ref (xb X0 + a0), .int l1, .int l2] s sF (some (.int r)) := by
  unfold F_X7_numberOf at h
  unfold rcv at h
  obtain ⟨hO, h⟩ := v_chk h
  refine ⟨hO, vMet.of (ini := false) X0 (plainFor_of_name (by decide +kernel)) (Nat.le_of_ble_eq_true rfl) (fun h => by cases h) (fun X ls hb hl => ?_) rfl⟩
  show V X (cX7_numberOf, RX7, 5, 0, 0, false) (vRet sF (some (.int r)) (some .int)) sF s (G0 X 0 ls [])
  rw [← hb] at hl
  have hl : lv_has ls 5 [(0, .ref (xb X + a0)), (1, .int l1), (2, .int l2)] := hl
  refine v_iconst (0 : Int32) dX7_numberOf_0 (by decide) ?_
  refine v_istore_n [(3, .int (0 : Int32)), (0, .ref (xb X + a0)), (1, .int l1), (2, .int l2)] dX7_numberOf_1 rfl hl (by decide) rfl (fun ls hl => ?_)
  refine v_iload_n dX7_numberOf_2 rfl (lv_at hl 2 rfl) ?_
  refine v_istore [(4, .int l1), (3, .int (0 : Int32)), (0, .ref (xb X + a0)), (1, .int l1), (2, .int l2)] dX7_numberOf_3 hl (by decide) rfl (fun ls hl => ?_)
  exact L_X7_numberOf_5 N N a0 l2 (0 : Int32) l1 s ls (lv_sub hl [2, 4, 1, 0] rfl) h
theorem k_X7_numberOf {X : VX} {cc : ByteArray} {own : String} {nL fr lo : Nat} {ini : Bool} {E : VX → Prop} {sF s : vS} {ρ : Type} {res : ρ} {pc : Nat} {ls : Array Slot} {rest : List Value} {N index : Nat} {a0 : Nat} {l1 : Int32} {l2 : Int32} {f : Int32 → vS → Option ρ} (h : bnd (F_X7_numberOf N a0 l1 l2 s) f = some res) (hlink : Cond.methodLink own index yX7_numberOf ∈ TT) (hR : 0 + 1 ≤ fr ∧ 8 + (5 + 11) + 0 ≤ lo) (hls : ls.size = nL) (hr : (rest.map fun v => v.category).sum ≤ 8) (hdg : decode cc pc = .ok (.invokevirtual index, 3)) (kk : ∀ r s', f r s' = some res → V X (cc, own, nL, fr, lo, ini) E sF s' (G0 X (pc + 3) ls (.int r :: rest))) : V X (cc, own, nL, fr, lo, ini) E sF s (G0 X pc ls (.int l2 :: .int l1 :: .ref (xb X + a0) :: rest)) := by
  obtain ⟨r, s', e, h⟩ := bnd_some h
  exact v_callV (b := a0) (ci := 7) (As := [.int l1, .int l2]) (rest := rest) (c_X7_numberOf X N a0 l1 l2 s s' r e).2 (c_X7_numberOf (l := xl X) (D := xD X) (ka := xka X) X N a0 l1 l2 s s' r e).1 rfl vl_X7_numberOf qi_X7_numberOf qe_X7_numberOf hlink hR rfl rfl hls hr hdg (kk r s' h)
set_option maxHeartbeats 4000000 in
set_option maxRecDepth 100000 in
theorem L_X7_takeFraction_102 {X : VX} {sF : vS} {r : Int32} (N : Nat) (a0 : Nat) (l1 : Int32) (l3 : Int32) (l4 : Int32) (s : vS) (ls : Array Slot) (hl : lv_has ls 6 [(0, .ref (xb X + a0)), (1, .int l1), (3, .int l3), (4, .int l4)]) (h : J_X7_takeFraction_102 N a0 l1 l3 l4 s = some (r, sF)) : V X (cX7_takeFraction, RX7, 6, 1, 24, false) (vRet sF (some (.int r)) (some .int)) sF s (G0 X 102 ls []) := by
  unfold J_X7_takeFraction_102 at h
  refine v_aload_n dX7_takeFraction_102 rfl (lv_at hl 0 rfl) ?_
  refine v_bipush (48 : Int32) dX7_takeFraction_103 (by decide) ?_
  refine v_aload_n dX7_takeFraction_105 rfl (lv_at hl 0 rfl) ?_
  refine v_getI 7 9 h (by decide) (Or.inl rfl) qfX7_34 dX7_takeFraction_106 (fun v14 h => ?_)
  refine v_iload_n dX7_takeFraction_109 rfl (lv_at hl 2 rfl) ?_
  refine v_iload dX7_takeFraction_110 (lv_at hl 3 rfl) ?_
  refine k_X7_order h qmX7_85 (by decide) hl.1 (Nat.le_of_ble_eq_true rfl) dX7_takeFraction_112 (fun v15 s h => ?_)
  refine v_aload_n dX7_takeFraction_115 rfl (lv_at hl 0 rfl) ?_
  refine v_iload_n dX7_takeFraction_116 rfl (lv_at hl 1 rfl) ?_
  refine v_putI 7 9 h (by decide) rfl (Or.inl rfl) qfX7_34 dX7_takeFraction_117 (fun s h => ?_)
  refine v_iconst (-1 : Int32) dX7_takeFraction_120 (by decide) ?_
  exact v_iret dX7_takeFraction_121 h
theorem vl_X7_takeFraction : vCl yX7_takeFraction cX7_takeFraction 6 (some .int) 0 := ⟨qy_X7_takeFraction, qjX7, by decide +kernel, by decide +kernel, by decide +kernel⟩
set_option maxHeartbeats 4000000 in
set_option maxRecDepth 100000 in
theorem c_X7_takeFraction {l : Launch} {D : va_G} {ka : Nat → ClassId} (X0 : VX) (N : Nat) (a0 : Nat) (s sF : vS) (r : Int32) (h : F_X7_takeFraction N a0 s = some (r, sF)) : isO s a0 7 = true ∧ vMet l D ka (xb X0) yX7_takeFraction cX7_takeFraction 6 (some .int) 1 24 [.ref (xb X0 + a0)] s sF (some (.int r)) := by
  unfold F_X7_takeFraction at h
  unfold rcv at h
  obtain ⟨hO, h⟩ := v_chk h
  refine ⟨hO, vMet.of (ini := false) X0 (plainFor_of_name (by decide +kernel)) (Nat.le_of_ble_eq_true rfl) (fun h => by cases h) (fun X ls hb hl => ?_) rfl⟩
  show V X (cX7_takeFraction, RX7, 6, 1, 24, false) (vRet sF (some (.int r)) (some .int)) sF s (G0 X 0 ls [])
  rw [← hb] at hl
  have hl : lv_has ls 6 [(0, .ref (xb X + a0))] := hl
  refine v_aload_n dX7_takeFraction_0 rfl (lv_at hl 0 rfl) ?_
  refine v_aload_n dX7_takeFraction_1 rfl (lv_at hl 0 rfl) ?_
  refine v_getI 7 9 h (by decide) (Or.inl rfl) qfX7_34 dX7_takeFraction_2 (fun v1 h => ?_)
  refine k_X7_endOfFigures h qmX7_104 (by decide) hl.1 (Nat.le_of_ble_eq_true rfl) dX7_takeFraction_5 (fun v2 s h => ?_)
  refine v_istore_n [(1, .int v2), (0, .ref (xb X + a0))] dX7_takeFraction_8 rfl hl (by decide) rfl (fun ls hl => ?_)
  refine v_aload_n dX7_takeFraction_9 rfl (lv_at hl 1 rfl) ?_
  refine v_getI 7 9 h (by decide) (Or.inl rfl) qfX7_34 dX7_takeFraction_10 (fun v3 h => ?_)
  refine v_iload_n dX7_takeFraction_13 rfl (lv_at hl 0 rfl) ?_
  refine v_iconst (3 : Int32) dX7_takeFraction_14 (by decide) ?_
  refine k_X7_badFigure h qmX7_107 (by decide) hl.1 (Nat.le_of_ble_eq_true rfl) dX7_takeFraction_15 (fun v4 s h => ?_)
  refine v_istore_n [(2, .int v4), (1, .int v2), (0, .ref (xb X + a0))] dX7_takeFraction_18 rfl hl (by decide) rfl (fun ls hl => ?_)
  refine v_iload_n dX7_takeFraction_19 rfl (lv_at hl 0 rfl) ?_
  refine v_iconst (-1 : Int32) dX7_takeFraction_20 (by decide) ?_
  refine v_icmp_eq 26 dX7_takeFraction_21 (by decide) h (fun h => ?_) (fun h => ?_)
  · refine v_aload_n dX7_takeFraction_26 rfl (lv_at hl 2 rfl) ?_
    refine v_aload_n dX7_takeFraction_27 rfl (lv_at hl 2 rfl) ?_
    refine v_getI 7 9 h (by decide) (Or.inl rfl) qfX7_34 dX7_takeFraction_28 (fun v5 h => ?_)
    refine v_iload_n dX7_takeFraction_31 rfl (lv_at hl 1 rfl) ?_
    refine k_X7_numberOf h qmX7_115 (by decide) hl.1 (Nat.le_of_ble_eq_true rfl) dX7_takeFraction_32 (fun v6 s h => ?_)
    refine v_istore_n [(3, .int v6), (2, .int v4), (1, .int v2), (0, .ref (xb X + a0))] dX7_takeFraction_35 rfl hl (by decide) rfl (fun ls hl => ?_)
    refine v_iconst (1 : Int32) dX7_takeFraction_36 (by decide) ?_
    refine v_istore [(4, .int (1 : Int32)), (3, .int v6), (2, .int v4), (1, .int v2), (0, .ref (xb X + a0))] dX7_takeFraction_37 hl (by decide) rfl (fun ls hl => ?_)
    refine v_iload_n dX7_takeFraction_39 rfl (lv_at hl 3 rfl) ?_
    refine v_aload_n dX7_takeFraction_40 rfl (lv_at hl 4 rfl) ?_
    refine v_getI 7 3 h (by decide) (Or.inl rfl) qfX7_15 dX7_takeFraction_41 (fun v7 h => ?_)
    refine v_icmp_ge 102 dX7_takeFraction_44 (by decide) h (fun h => ?_) (fun h => ?_)
    · exact L_X7_takeFraction_102 N a0 v2 v6 (1 : Int32) s ls (lv_sub hl [4, 3, 1, 0] rfl) h
    · refine v_aload_n dX7_takeFraction_47 rfl (lv_at hl 4 rfl) ?_
      refine v_getR 7 2 h (by decide) rfl qfX7_9 dX7_takeFraction_48 (fun r8 h => ?_)
      refine v_iload_n dX7_takeFraction_51 rfl (lv_at hl 3 rfl) ?_
      refine v_iald dX7_takeFraction_52 h (fun v9 h => ?_)
      refine v_bipush (47 : Int32) dX7_takeFraction_53 (by decide) ?_
      refine v_icmp_ne 102 dX7_takeFraction_55 (by decide) h (fun h => ?_) (fun h => ?_)
      · exact L_X7_takeFraction_102 N a0 v2 v6 (1 : Int32) s ls (lv_sub hl [4, 3, 1, 0] rfl) h
      · refine v_iload_n dX7_takeFraction_58 rfl (lv_at hl 3 rfl) ?_
        refine v_iconst (1 : Int32) dX7_takeFraction_59 (by decide) ?_
        refine v_iadd dX7_takeFraction_60 ?_
        refine v_nmI h (fun l5_10 h => ?_)
        refine v_istore [(5, .int l5_10), (4, .int (1 : Int32)), (3, .int v6), (2, .int v4), (1, .int v2), (0, .ref (xb X + a0))] dX7_takeFraction_61 hl (by decide) rfl (fun ls hl => ?_)
        refine v_aload_n dX7_takeFraction_63 rfl (lv_at hl 5 rfl) ?_
        refine v_iload dX7_takeFraction_64 (lv_at hl 0 rfl) ?_
        refine k_X7_endOfFigures h qmX7_104 (by decide) hl.1 (Nat.le_of_ble_eq_true rfl) dX7_takeFraction_66 (fun v11 s h => ?_)
        refine v_istore_n [(1, .int v11), (5, .int l5_10), (4, .int (1 : Int32)), (3, .int v6), (2, .int v4), (0, .ref (xb X + a0))] dX7_takeFraction_69 rfl hl (by decide) rfl (fun ls hl => ?_)
        refine v_iload dX7_takeFraction_70 (lv_at hl 1 rfl) ?_
        refine v_iload_n dX7_takeFraction_72 rfl (lv_at hl 0 rfl) ?_
        refine v_iconst (3 : Int32) dX7_takeFraction_73 (by decide) ?_
        refine k_X7_badFigure h qmX7_107 (by decide) hl.1 (Nat.le_of_ble_eq_true rfl) dX7_takeFraction_74 (fun v12 s h => ?_)
        refine v_istore_n [(2, .int v12), (1, .int v11), (5, .int l5_10), (4, .int (1 : Int32)), (3, .int v6), (0, .ref (xb X + a0))] dX7_takeFraction_77 rfl hl (by decide) rfl (fun ls hl => ?_)
        refine v_iload_n dX7_takeFraction_78 rfl (lv_at hl 0 rfl) ?_
        refine v_iconst (-1 : Int32) dX7_takeFraction_79 (by decide) ?_
        refine v_icmp_eq 85 dX7_takeFraction_80 (by decide) h (fun h => ?_) (fun h => ?_)
        · refine v_aload_n dX7_takeFraction_85 rfl (lv_at hl 5 rfl) ?_
          refine v_iload dX7_takeFraction_86 (lv_at hl 2 rfl) ?_
          refine v_iload_n dX7_takeFraction_88 rfl (lv_at hl 1 rfl) ?_
          refine k_X7_numberOf h qmX7_115 (by decide) hl.1 (Nat.le_of_ble_eq_true rfl) dX7_takeFraction_89 (fun v13 s h => ?_)
          refine v_istore [(4, .int v13), (2, .int v12), (1, .int v11), (5, .int l5_10), (3, .int v6), (0, .ref (xb X + a0))] dX7_takeFraction_92 hl (by decide) rfl (fun ls hl => ?_)
          refine v_iload dX7_takeFraction_94 (lv_at hl 0 rfl) ?_
          refine v_if_ne 102 dX7_takeFraction_96 (by decide) h (fun h => ?_) (fun h => ?_)
          · exact L_X7_takeFraction_102 N a0 v11 v6 v13 s ls (lv_sub hl [5, 2, 4, 0] rfl) h
          · refine v_iload dX7_takeFraction_99 (lv_at hl 3 rfl) ?_
            exact v_iret dX7_takeFraction_101 h
        · refine v_iload_n dX7_takeFraction_83 rfl (lv_at hl 0 rfl) ?_
          exact v_iret dX7_takeFraction_84 h
  · refine v_iload_n dX7_takeFraction_24 rfl (lv_at hl 0 rfl) ?_
    exact v_iret dX7_takeFraction_25 h
theorem k_X7_takeFraction {X : VX} {cc : ByteArray} {own : String} {nL fr lo : Nat} {ini : Bool} {E : VX → Prop} {sF s : vS} {ρ : Type} {res : ρ} {pc : Nat} {ls : Array Slot} {rest : List Value} {N index : Nat} {a0 : Nat} {f : Int32 → vS → Option ρ} (h : bnd (F_X7_takeFraction N a0 s) f = some res) (hlink : Cond.methodLink own index yX7_takeFraction ∈ TT) (hR : 1 + 1 ≤ fr ∧ 8 + (6 + 11) + 24 ≤ lo) (hls : ls.size = nL) (hr : (rest.map fun v => v.category).sum ≤ 8) (hdg : decode cc pc = .ok (.invokevirtual index, 3)) (kk : ∀ r s', f r s' = some res → V X (cc, own, nL, fr, lo, ini) E sF s' (G0 X (pc + 3) ls (.int r :: rest))) : V X (cc, own, nL, fr, lo, ini) E sF s (G0 X pc ls (.ref (xb X + a0) :: rest)) := by
  obtain ⟨r, s', e, h⟩ := bnd_some h
  exact v_callV (b := a0) (ci := 7) (As := []) (rest := rest) (c_X7_takeFraction X N a0 s s' r e).2 (c_X7_takeFraction (l := xl X) (D := xD X) (ka := xka X) X N a0 s s' r e).1 rfl vl_X7_takeFraction qi_X7_takeFraction qe_X7_takeFraction hlink hR rfl rfl hls hr hdg (kk r s' h)
set_option maxHeartbeats 4000000 in
set_option maxRecDepth 100000 in
theorem L_X7_takeOne_52 {X : VX} {sF : vS} {r : Int32} (N : Nat) (l2 : Int32) (s : vS) (ls : Array Slot) (hl : lv_has ls 3 [(2, .int l2)]) (h : J_X7_takeOne_52 N l2 s = some (r, sF)) : V X (cX7_takeOne, RX7, 3, 3, 76, false) (vRet sF (some (.int r)) (some .int)) sF s (G0 X 52 ls []) := by
  unfold J_X7_takeOne_52 at h
  refine v_iload_n dX7_takeOne_52 rfl (lv_at hl 0 rfl) ?_
  exact v_iret dX7_takeOne_53 h
set_option maxHeartbeats 4000000 in
set_option maxRecDepth 100000 in
theorem L_X7_takeOne_42 {X : VX} {sF : vS} {r : Int32} (N : Nat) (a0 : Nat) (k0 : Int32) (s : vS) (ls : Array Slot) (hl : lv_has ls 3 [(0, .ref (xb X + a0))]) (h : J_X7_takeOne_42 N a0 k0 s = some (r, sF)) : V X (cX7_takeOne, RX7, 3, 3, 76, false) (vRet sF (some (.int r)) (some .int)) sF s (G0 X 42 ls [.int k0]) := by
  unfold J_X7_takeOne_42 at h
  refine v_istore_n [(2, .int k0), (0, .ref (xb X + a0))] dX7_takeOne_42 rfl hl (by decide) rfl (fun ls hl => ?_)
  refine v_iload_n dX7_takeOne_43 rfl (lv_at hl 0 rfl) ?_
  refine v_iconst (-1 : Int32) dX7_takeOne_44 (by decide) ?_
  refine v_icmp_ne 52 dX7_takeOne_45 (by decide) h (fun h => ?_) (fun h => ?_)
  · exact L_X7_takeOne_52 N k0 s ls (lv_sub hl [0] rfl) h
  · refine v_aload_n dX7_takeOne_48 rfl (lv_at hl 1 rfl) ?_
    refine k_X7_endOne h qmX7_94 (by decide) hl.1 (Nat.le_of_ble_eq_true rfl) dX7_takeOne_49 (fun v6 s h => ?_)
    exact L_X7_takeOne_52 N k0 s ls (lv_sub hl [0] rfl) h
theorem vl_X7_takeOne : vCl yX7_takeOne cX7_takeOne 3 (some .int) 1 := ⟨qy_X7_takeOne, qjX7, by decide +kernel, by decide +kernel, by decide +kernel⟩
set_option maxHeartbeats 4000000 in
set_option maxRecDepth 100000 in
theorem c_X7_takeOne {l : Launch} {D : va_G} {ka : Nat → ClassId} (X0 : VX) (N : Nat) (a0 : Nat) (l1 : Int32) (s sF : vS) (r : Int32) (h : F_X7_takeOne N a0 l1 s = some (r, sF)) : isO s a0 7 = true ∧ vMet l D ka (xb X0) yX7_takeOne cX7_takeOne 3 (some .int) 3 76 [.ref (xb X0 + a0), .int l1] s sF (some (.int r)) := by
  unfold F_X7_takeOne at h
  unfold rcv at h
  obtain ⟨hO, h⟩ := v_chk h
  refine ⟨hO, vMet.of (ini := false) X0 (plainFor_of_name (by decide +kernel)) (Nat.le_of_ble_eq_true rfl) (fun h => by cases h) (fun X ls hb hl => ?_) rfl⟩
  show V X (cX7_takeOne, RX7, 3, 3, 76, false) (vRet sF (some (.int r)) (some .int)) sF s (G0 X 0 ls [])
  rw [← hb] at hl
  have hl : lv_has ls 3 [(0, .ref (xb X + a0)), (1, .int l1)] := hl
  refine v_iload_n dX7_takeOne_0 rfl (lv_at hl 1 rfl) ?_
  refine v_bipush (91 : Int32) dX7_takeOne_1 (by decide) ?_
  refine v_icmp_ne 19 dX7_takeOne_3 (by decide) h (fun h => ?_) (fun h => ?_)
  · refine v_iload_n dX7_takeOne_19 rfl (lv_at hl 1 rfl) ?_
    refine v_bipush (60 : Int32) dX7_takeOne_20 (by decide) ?_
    refine v_icmp_ne 38 dX7_takeOne_22 (by decide) h (fun h => ?_) (fun h => ?_)
    · refine v_aload_n dX7_takeOne_38 rfl (lv_at hl 0 rfl) ?_
      refine k_X7_takeFraction h qmX7_101 (by decide) hl.1 (Nat.le_of_ble_eq_true rfl) dX7_takeOne_39 (fun v1 s h => ?_)
      exact L_X7_takeOne_42 N a0 v1 s ls (lv_sub hl [0] rfl) h
    · refine v_aload_n dX7_takeOne_25 rfl (lv_at hl 0 rfl) ?_
      refine v_bipush (62 : Int32) dX7_takeOne_26 (by decide) ?_
      refine v_aload_n dX7_takeOne_28 rfl (lv_at hl 0 rfl) ?_
      refine v_getR 7 1 h (by decide) rfl qfX7_53 dX7_takeOne_29 (fun r2 h => ?_)
      refine k_X7_takeNet h qmX7_97 (by decide) hl.1 (Nat.le_of_ble_eq_true rfl) dX7_takeOne_32 (fun v3 s h => ?_)
      refine v_goto 42 dX7_takeOne_35 (by decide) ?_
      exact L_X7_takeOne_42 N a0 v3 s ls (lv_sub hl [0] rfl) h
  · refine v_aload_n dX7_takeOne_6 rfl (lv_at hl 0 rfl) ?_
    refine v_bipush (93 : Int32) dX7_takeOne_7 (by decide) ?_
    refine v_aload_n dX7_takeOne_9 rfl (lv_at hl 0 rfl) ?_
    refine v_getR 7 0 h (by decide) rfl qfX7_49 dX7_takeOne_10 (fun r4 h => ?_)
    refine k_X7_takeNet h qmX7_97 (by decide) hl.1 (Nat.le_of_ble_eq_true rfl) dX7_takeOne_13 (fun v5 s h => ?_)
    refine v_goto 42 dX7_takeOne_16 (by decide) ?_
    exact L_X7_takeOne_42 N a0 v5 s ls (lv_sub hl [0] rfl) h
theorem k_X7_takeOne {X : VX} {cc : ByteArray} {own : String} {nL fr lo : Nat} {ini : Bool} {E : VX → Prop} {sF s : vS} {ρ : Type} {res : ρ} {pc : Nat} {ls : Array Slot} {rest : List Value} {N index : Nat} {a0 : Nat} {l1 : Int32} {f : Int32 → vS → Option ρ} (h : bnd (F_X7_takeOne N a0 l1 s) f = some res) (hlink : Cond.methodLink own index yX7_takeOne ∈ TT) (hR : 3 + 1 ≤ fr ∧ 8 + (3 + 11) + 76 ≤ lo) (hls : ls.size = nL) (hr : (rest.map fun v => v.category).sum ≤ 8) (hdg : decode cc pc = .ok (.invokevirtual index, 3)) (kk : ∀ r s', f r s' = some res → V X (cc, own, nL, fr, lo, ini) E sF s' (G0 X (pc + 3) ls (.int r :: rest))) : V X (cc, own, nL, fr, lo, ini) E sF s (G0 X pc ls (.int l1 :: .ref (xb X + a0) :: rest)) := by
  obtain ⟨r, s', e, h⟩ := bnd_some h
  exact v_callV (b := a0) (ci := 7) (As := [.int l1]) (rest := rest) (c_X7_takeOne X N a0 l1 s s' r e).2 (c_X7_takeOne (l := xl X) (D := xD X) (ka := xka X) X N a0 l1 s s' r e).1 rfl vl_X7_takeOne qi_X7_takeOne qe_X7_takeOne hlink hR rfl rfl hls hr hdg (kk r s' h)
set_option maxHeartbeats 4000000 in
set_option maxRecDepth 100000 in
theorem L_X7_takeAll_170 {X : VX} {sF : vS} {r : Int32} (N : Nat) (k0 : Int32) (s : vS) (ls : Array Slot) (hl : lv_has ls 6 []) (h : J_X7_takeAll_170 N k0 s = some (r, sF)) : V X (cX7_takeAll, RX7, 6, 4, 98, false) (vRet sF (some (.int r)) (some .int)) sF s (G0 X 170 ls [.int k0]) := by
  unfold J_X7_takeAll_170 at h
  exact v_iret dX7_takeAll_170 h
set_option maxHeartbeats 4000000 in
set_option maxRecDepth 100000 in
theorem L_X7_takeAll_166 {X : VX} {sF : vS} {r : Int32} (N : Nat) (a0 : Nat) (s : vS) (ls : Array Slot) (hl : lv_has ls 6 [(0, .ref (xb X + a0))]) (h : J_X7_takeAll_166 N a0 s = some (r, sF)) : V X (cX7_takeAll, RX7, 6, 4, 98, false) (vRet sF (some (.int r)) (some .int)) sF s (G0 X 166 ls []) := by
  unfold J_X7_takeAll_166 at h
  refine v_aload_n dX7_takeAll_166 rfl (lv_at hl 0 rfl) ?_
  refine v_getI 7 3 h (by decide) (Or.inl rfl) qfX7_15 dX7_takeAll_167 (fun v12 h => ?_)
  exact L_X7_takeAll_170 N v12 s ls (lv_sub hl [] rfl) h
set_option maxHeartbeats 4000000 in
set_option maxRecDepth 100000 in
theorem L_X7_takeAll_147 {X : VX} {sF : vS} {r : Int32} (N : Nat) (a0 : Nat) (l1 : Int32) (s : vS) (ls : Array Slot) (hl : lv_has ls 6 [(0, .ref (xb X + a0)), (1, .int l1)]) (h : J_X7_takeAll_147 N a0 l1 s = some (r, sF)) : V X (cX7_takeAll, RX7, 6, 4, 98, false) (vRet sF (some (.int r)) (some .int)) sF s (G0 X 147 ls []) := by
  unfold J_X7_takeAll_147 at h
  refine v_aload_n dX7_takeAll_147 rfl (lv_at hl 0 rfl) ?_
  refine k_X7_endProduct h qmX7_78 (by decide) hl.1 (Nat.le_of_ble_eq_true rfl) dX7_takeAll_148 (fun v7 s h => ?_)
  refine v_iload_n dX7_takeAll_151 rfl (lv_at hl 1 rfl) ?_
  refine v_if_eq 166 dX7_takeAll_152 (by decide) h (fun h => ?_) (fun h => ?_)
  · exact L_X7_takeAll_166 N a0 s ls (lv_sub hl [0] rfl) h
  · refine v_aload_n dX7_takeAll_155 rfl (lv_at hl 0 rfl) ?_
    refine v_getI 7 10 h (by decide) (Or.inl rfl) qfX7_37 dX7_takeAll_156 (fun v8 h => ?_)
    refine v_if_ne 166 dX7_takeAll_159 (by decide) h (fun h => ?_) (fun h => ?_)
    · exact L_X7_takeAll_166 N a0 s ls (lv_sub hl [0] rfl) h
    · refine v_iconst (-1 : Int32) dX7_takeAll_162 (by decide) ?_
      refine v_goto 170 dX7_takeAll_163 (by decide) ?_
      exact L_X7_takeAll_170 N (-1 : Int32) s ls (lv_sub hl [] rfl) h
set_option maxHeartbeats 4000000 in
set_option maxRecDepth 100000 in
theorem L_X7_takeAll_140 {X : VX} {sF : vS} {r : Int32} (N : Nat) (k20 : Nat → Int32 → Int32 → vS → Option (Int32 × vS)) (hk20 : ∀ (a0 : Nat) (l1 : Int32) (l2 : Int32) (s : vS) (ls : Array Slot), lv_has ls 6 [(0, .ref (xb X + a0)), (1, .int l1), (2, .int l2)] → k20 a0 l1 l2 s = some (r, sF) → V X (cX7_takeAll, RX7, 6, 4, 98, false) (vRet sF (some (.int r)) (some .int)) sF s (G0 X 20 ls [])) (a0 : Nat) (l2 : Int32) (k0 : Int32) (s : vS) (ls : Array Slot) (hl : lv_has ls 6 [(0, .ref (xb X + a0)), (2, .int l2)]) (h : J_X7_takeAll_140 N k20 a0 l2 k0 s = some (r, sF)) : V X (cX7_takeAll, RX7, 6, 4, 98, false) (vRet sF (some (.int r)) (some .int)) sF s (G0 X 140 ls [.int k0]) := by
  unfold J_X7_takeAll_140 at h
  refine v_istore_n [(1, .int k0), (0, .ref (xb X + a0)), (2, .int l2)] dX7_takeAll_140 rfl hl (by decide) rfl (fun ls hl => ?_)
  refine v_inc (fun z => [(2, .int z), (1, .int k0), (0, .ref (xb X + a0))]) dX7_takeAll_141 h hl (k := 2) rfl (by rfl) (by decide) (fun _ => rfl) (fun l2_13 ls hl h => ?_)
  refine v_goto 20 dX7_takeAll_144 (by decide) ?_
  exact hk20 a0 k0 l2_13 s ls (lv_sub hl [2, 1, 0] rfl) h
set_option maxHeartbeats 4000000 in
set_option maxRecDepth 100000 in
theorem L_X7_takeAll_122 {X : VX} {sF : vS} {r : Int32} (N : Nat) (k20 : Nat → Int32 → Int32 → vS → Option (Int32 × vS)) (hk20 : ∀ (a0 : Nat) (l1 : Int32) (l2 : Int32) (s : vS) (ls : Array Slot), lv_has ls 6 [(0, .ref (xb X + a0)), (1, .int l1), (2, .int l2)] → k20 a0 l1 l2 s = some (r, sF) → V X (cX7_takeAll, RX7, 6, 4, 98, false) (vRet sF (some (.int r)) (some .int)) sF s (G0 X 20 ls [])) (a0 : Nat) (l2 : Int32) (s : vS) (ls : Array Slot) (hl : lv_has ls 6 [(0, .ref (xb X + a0)), (2, .int l2)]) (h : J_X7_takeAll_122 N k20 a0 l2 s = some (r, sF)) : V X (cX7_takeAll, RX7, 6, 4, 98, false) (vRet sF (some (.int r)) (some .int)) sF s (G0 X 122 ls []) := by
  unfold J_X7_takeAll_122 at h
  refine v_iconst (1 : Int32) dX7_takeAll_122 (by decide) ?_
  refine v_goto 140 dX7_takeAll_123 (by decide) ?_
  exact L_X7_takeAll_140 N k20 hk20 a0 l2 (1 : Int32) s ls (lv_sub hl [0, 1] rfl) h
set_option maxHeartbeats 4000000 in
set_option maxRecDepth 100000 in
theorem L_X7_takeAll_95 {X : VX} {sF : vS} {r : Int32} (N : Nat) (k20 : Nat → Int32 → Int32 → vS → Option (Int32 × vS)) (hk20 : ∀ (a0 : Nat) (l1 : Int32) (l2 : Int32) (s : vS) (ls : Array Slot), lv_has ls 6 [(0, .ref (xb X + a0)), (1, .int l1), (2, .int l2)] → k20 a0 l1 l2 s = some (r, sF) → V X (cX7_takeAll, RX7, 6, 4, 98, false) (vRet sF (some (.int r)) (some .int)) sF s (G0 X 20 ls [])) (a0 : Nat) (l1 : Int32) (l2 : Int32) (l3 : Int32) (l4 : Int32) (k0 : Int32) (s : vS) (ls : Array Slot) (hl : lv_has ls 6 [(0, .ref (xb X + a0)), (1, .int l1), (2, .int l2), (3, .int l3), (4, .int l4)]) (h : J_X7_takeAll_95 N k20 a0 l1 l2 l3 l4 k0 s = some (r, sF)) : V X (cX7_takeAll, RX7, 6, 4, 98, false) (vRet sF (some (.int r)) (some .int)) sF s (G0 X 95 ls [.int k0]) := by
  unfold J_X7_takeAll_95 at h
  refine v_istore [(5, .int k0), (0, .ref (xb X + a0)), (1, .int l1), (2, .int l2), (3, .int l3), (4, .int l4)] dX7_takeAll_95 hl (by decide) rfl (fun ls hl => ?_)
  refine v_iload dX7_takeAll_97 (lv_at hl 0 rfl) ?_
  refine v_iconst (-1 : Int32) dX7_takeAll_99 (by decide) ?_
  refine v_icmp_eq 106 dX7_takeAll_100 (by decide) h (fun h => ?_) (fun h => ?_)
  · refine v_iload_n dX7_takeAll_106 rfl (lv_at hl 2 rfl) ?_
    refine v_if_eq 130 dX7_takeAll_107 (by decide) h (fun h => ?_) (fun h => ?_)
    · refine v_iload dX7_takeAll_130 (lv_at hl 5 rfl) ?_
      refine v_if_ne 139 dX7_takeAll_132 (by decide) h (fun h => ?_) (fun h => ?_)
      · refine v_iconst (0 : Int32) dX7_takeAll_139 (by decide) ?_
        exact L_X7_takeAll_140 N k20 hk20 a0 l2 (0 : Int32) s ls (lv_sub hl [1, 3] rfl) h
      · refine v_iconst (1 : Int32) dX7_takeAll_135 (by decide) ?_
        refine v_goto 140 dX7_takeAll_136 (by decide) ?_
        exact L_X7_takeAll_140 N k20 hk20 a0 l2 (1 : Int32) s ls (lv_sub hl [1, 3] rfl) h
    · refine v_iload_n dX7_takeAll_110 rfl (lv_at hl 4 rfl) ?_
      refine v_bipush (41 : Int32) dX7_takeAll_111 (by decide) ?_
      refine v_icmp_eq 122 dX7_takeAll_113 (by decide) h (fun h => ?_) (fun h => ?_)
      · exact L_X7_takeAll_122 N k20 hk20 a0 l2 s ls (lv_sub hl [1, 3] rfl) h
      · refine v_iload_n dX7_takeAll_116 rfl (lv_at hl 4 rfl) ?_
        refine v_bipush (125 : Int32) dX7_takeAll_117 (by decide) ?_
        refine v_icmp_ne 126 dX7_takeAll_119 (by decide) h (fun h => ?_) (fun h => ?_)
        · refine v_iconst (0 : Int32) dX7_takeAll_126 (by decide) ?_
          refine v_goto 140 dX7_takeAll_127 (by decide) ?_
          exact L_X7_takeAll_140 N k20 hk20 a0 l2 (0 : Int32) s ls (lv_sub hl [1, 3] rfl) h
        · exact L_X7_takeAll_122 N k20 hk20 a0 l2 s ls (lv_sub hl [1, 3] rfl) h
  · refine v_iload dX7_takeAll_103 (lv_at hl 0 rfl) ?_
    exact v_iret dX7_takeAll_105 h
set_option maxHeartbeats 4000000 in
set_option maxRecDepth 100000 in
theorem L_X7_takeAll_64 {X : VX} {sF : vS} {r : Int32} (N : Nat) (k20 : Nat → Int32 → Int32 → vS → Option (Int32 × vS)) (hk20 : ∀ (a0 : Nat) (l1 : Int32) (l2 : Int32) (s : vS) (ls : Array Slot), lv_has ls 6 [(0, .ref (xb X + a0)), (1, .int l1), (2, .int l2)] → k20 a0 l1 l2 s = some (r, sF) → V X (cX7_takeAll, RX7, 6, 4, 98, false) (vRet sF (some (.int r)) (some .int)) sF s (G0 X 20 ls [])) (a0 : Nat) (l1 : Int32) (l2 : Int32) (l3 : Int32) (k0 : Int32) (s : vS) (ls : Array Slot) (hl : lv_has ls 6 [(0, .ref (xb X + a0)), (1, .int l1), (2, .int l2), (3, .int l3)]) (h : J_X7_takeAll_64 N k20 a0 l1 l2 l3 k0 s = some (r, sF)) : V X (cX7_takeAll, RX7, 6, 4, 98, false) (vRet sF (some (.int r)) (some .int)) sF s (G0 X 64 ls [.int k0]) := by
  unfold J_X7_takeAll_64 at h
  refine v_istore [(4, .int k0), (0, .ref (xb X + a0)), (1, .int l1), (2, .int l2), (3, .int l3)] dX7_takeAll_64 hl (by decide) rfl (fun ls hl => ?_)
  refine v_iload_n dX7_takeAll_66 rfl (lv_at hl 2 rfl) ?_
  refine v_if_eq 78 dX7_takeAll_67 (by decide) h (fun h => ?_) (fun h => ?_)
  · refine v_iload dX7_takeAll_78 (lv_at hl 0 rfl) ?_
    refine v_if_eq 90 dX7_takeAll_80 (by decide) h (fun h => ?_) (fun h => ?_)
    · refine v_aload_n dX7_takeAll_90 rfl (lv_at hl 1 rfl) ?_
      refine v_iload_n dX7_takeAll_91 rfl (lv_at hl 4 rfl) ?_
      refine k_X7_takeOne h qmX7_75 (by decide) hl.1 (Nat.le_of_ble_eq_true rfl) dX7_takeAll_92 (fun v9 s h => ?_)
      exact L_X7_takeAll_95 N k20 hk20 a0 l1 l2 l3 k0 v9 s ls (lv_sub hl [1, 2, 3, 4, 0] rfl) h
    · refine v_aload_n dX7_takeAll_83 rfl (lv_at hl 1 rfl) ?_
      refine k_X7_takeOpening h qmX7_72 (by decide) hl.1 (Nat.le_of_ble_eq_true rfl) dX7_takeAll_84 (fun v10 s h => ?_)
      refine v_goto 95 dX7_takeAll_87 (by decide) ?_
      exact L_X7_takeAll_95 N k20 hk20 a0 l1 l2 l3 k0 v10 s ls (lv_sub hl [1, 2, 3, 4, 0] rfl) h
  · refine v_aload_n dX7_takeAll_70 rfl (lv_at hl 1 rfl) ?_
    refine v_iload_n dX7_takeAll_71 rfl (lv_at hl 4 rfl) ?_
    refine k_X7_takeBehindOne h qmX7_68 (by decide) hl.1 (Nat.le_of_ble_eq_true rfl) dX7_takeAll_72 (fun v11 s h => ?_)
    refine v_goto 95 dX7_takeAll_75 (by decide) ?_
    exact L_X7_takeAll_95 N k20 hk20 a0 l1 l2 l3 k0 v11 s ls (lv_sub hl [1, 2, 3, 4, 0] rfl) h
set_option maxHeartbeats 4000000 in
set_option maxRecDepth 100000 in
theorem L_X7_takeAll_59 {X : VX} {sF : vS} {r : Int32} (N : Nat) (k20 : Nat → Int32 → Int32 → vS → Option (Int32 × vS)) (hk20 : ∀ (a0 : Nat) (l1 : Int32) (l2 : Int32) (s : vS) (ls : Array Slot), lv_has ls 6 [(0, .ref (xb X + a0)), (1, .int l1), (2, .int l2)] → k20 a0 l1 l2 s = some (r, sF) → V X (cX7_takeAll, RX7, 6, 4, 98, false) (vRet sF (some (.int r)) (some .int)) sF s (G0 X 20 ls [])) (a0 : Nat) (l1 : Int32) (l2 : Int32) (l3 : Int32) (s : vS) (ls : Array Slot) (hl : lv_has ls 6 [(0, .ref (xb X + a0)), (1, .int l1), (2, .int l2), (3, .int l3)]) (h : J_X7_takeAll_59 N k20 a0 l1 l2 l3 s = some (r, sF)) : V X (cX7_takeAll, RX7, 6, 4, 98, false) (vRet sF (some (.int r)) (some .int)) sF s (G0 X 59 ls []) := by
  unfold J_X7_takeAll_59 at h
  refine v_iconst (1 : Int32) dX7_takeAll_59 (by decide) ?_
  refine v_goto 64 dX7_takeAll_60 (by decide) ?_
  exact L_X7_takeAll_64 N k20 hk20 a0 l1 l2 l3 (1 : Int32) s ls (lv_sub hl [0, 1, 2, 3] rfl) h
set_option maxHeartbeats 4000000 in
set_option maxRecDepth 100000 in
theorem L_X7_takeAll_20 {X : VX} {sF : vS} {r : Int32} (N : Nat) : ∀ (n : Nat) (a0 : Nat) (l1 : Int32) (l2 : Int32) (s : vS) (ls : Array Slot), lv_has ls 6 [(0, .ref (xb X + a0)), (1, .int l1), (2, .int l2)] → H_X7_takeAll_20 N n a0 l1 l2 s = some (r, sF) → V X (cX7_takeAll, RX7, 6, 4, 98, false) (vRet sF (some (.int r)) (some .int)) sF s (G0 X 20 ls []) := by
  intro n
  induction n with
  | zero => intro a0 l1 l2 s ls hl h; cases h
  | succ n ih =>
   intro a0 l1 l2 s ls hl h
   unfold H_X7_takeAll_20 at h
   refine v_iload_n dX7_takeAll_20 rfl (lv_at hl 2 rfl) ?_
   refine v_bipush (60 : Int32) dX7_takeAll_21 (by decide) ?_
   refine v_icmp_ge 147 dX7_takeAll_23 (by decide) h (fun h => ?_) (fun h => ?_)
   · exact L_X7_takeAll_147 N a0 l1 s ls (lv_sub hl [0, 1] rfl) h
   · refine v_aload_n dX7_takeAll_26 rfl (lv_at hl 0 rfl) ?_
     refine v_getI 7 9 h (by decide) (Or.inl rfl) qfX7_34 dX7_takeAll_27 (fun v2 h => ?_)
     refine v_aload_n dX7_takeAll_30 rfl (lv_at hl 0 rfl) ?_
     refine v_getI 7 3 h (by decide) (Or.inl rfl) qfX7_15 dX7_takeAll_31 (fun v3 h => ?_)
     refine v_icmp_ge 147 dX7_takeAll_34 (by decide) h (fun h => ?_) (fun h => ?_)
     · exact L_X7_takeAll_147 N a0 l1 s ls (lv_sub hl [0, 1] rfl) h
     · refine v_aload_n dX7_takeAll_37 rfl (lv_at hl 0 rfl) ?_
       refine v_getR 7 2 h (by decide) rfl qfX7_9 dX7_takeAll_38 (fun r4 h => ?_)
       refine v_aload_n dX7_takeAll_41 rfl (lv_at hl 0 rfl) ?_
       refine v_getI 7 9 h (by decide) (Or.inl rfl) qfX7_34 dX7_takeAll_42 (fun v5 h => ?_)
       refine v_iald dX7_takeAll_45 h (fun v6 h => ?_)
       refine v_istore_n [(3, .int v6), (0, .ref (xb X + a0)), (1, .int l1), (2, .int l2)] dX7_takeAll_46 rfl hl (by decide) rfl (fun ls hl => ?_)
       refine v_iload_n dX7_takeAll_47 rfl (lv_at hl 0 rfl) ?_
       refine v_bipush (40 : Int32) dX7_takeAll_48 (by decide) ?_
       refine v_icmp_eq 59 dX7_takeAll_50 (by decide) h (fun h => ?_) (fun h => ?_)
       · exact L_X7_takeAll_59 N (H_X7_takeAll_20 N n) ih a0 l1 l2 v6 s ls (lv_sub hl [1, 2, 3, 0] rfl) h
       · refine v_iload_n dX7_takeAll_53 rfl (lv_at hl 0 rfl) ?_
         refine v_bipush (123 : Int32) dX7_takeAll_54 (by decide) ?_
         refine v_icmp_ne 63 dX7_takeAll_56 (by decide) h (fun h => ?_) (fun h => ?_)
         · refine v_iconst (0 : Int32) dX7_takeAll_63 (by decide) ?_
           exact L_X7_takeAll_64 N (H_X7_takeAll_20 N n) ih a0 l1 l2 v6 (0 : Int32) s ls (lv_sub hl [1, 2, 3, 0] rfl) h
         · exact L_X7_takeAll_59 N (H_X7_takeAll_20 N n) ih a0 l1 l2 v6 s ls (lv_sub hl [1, 2, 3, 0] rfl) h
theorem vl_X7_takeAll : vCl yX7_takeAll cX7_takeAll 6 (some .int) 0 := ⟨qy_X7_takeAll, qjX7, by decide +kernel, by decide +kernel, by decide +kernel⟩
set_option maxHeartbeats 4000000 in
set_option maxRecDepth 100000 in
theorem c_X7_takeAll {l : Launch} {D : va_G} {ka : Nat → ClassId} (X0 : VX) (N : Nat) (a0 : Nat) (s sF : vS) (r : Int32) (h : F_X7_takeAll N a0 s = some (r, sF)) : isO s a0 7 = true ∧ vMet l D ka (xb X0) yX7_takeAll cX7_takeAll 6 (some .int) 4 98 [.ref (xb X0 + a0)] s sF (some (.int r)) := by
  unfold F_X7_takeAll at h
  unfold rcv at h
  obtain ⟨hO, h⟩ := v_chk h
  refine ⟨hO, vMet.of (ini := false) X0 (plainFor_of_name (by decide +kernel)) (Nat.le_of_ble_eq_true rfl) (fun h => by cases h) (fun X ls hb hl => ?_) rfl⟩
  show V X (cX7_takeAll, RX7, 6, 4, 98, false) (vRet sF (some (.int r)) (some .int)) sF s (G0 X 0 ls [])
  rw [← hb] at hl
  have hl : lv_has ls 6 [(0, .ref (xb X + a0))] := hl
  refine v_aload_n dX7_takeAll_0 rfl (lv_at hl 0 rfl) ?_
  refine v_iconst (0 : Int32) dX7_takeAll_1 (by decide) ?_
  refine v_putI 7 9 h (by decide) rfl (Or.inl rfl) qfX7_34 dX7_takeAll_2 (fun s h => ?_)
  refine v_aload_n dX7_takeAll_5 rfl (lv_at hl 0 rfl) ?_
  refine v_iconst (0 : Int32) dX7_takeAll_6 (by decide) ?_
  refine v_putI 7 4 h (by decide) rfl (Or.inl rfl) qfX7_19 dX7_takeAll_7 (fun s h => ?_)
  refine v_aload_n dX7_takeAll_10 rfl (lv_at hl 0 rfl) ?_
  refine v_iconst (0 : Int32) dX7_takeAll_11 (by decide) ?_
  refine v_iconst (-1 : Int32) dX7_takeAll_12 (by decide) ?_
  refine k_X7_startLevel h qmX7_64 (by decide) hl.1 (Nat.le_of_ble_eq_true rfl) dX7_takeAll_13 (fun v1 s h => ?_)
  refine v_iconst (0 : Int32) dX7_takeAll_16 (by decide) ?_
  refine v_istore_n [(1, .int (0 : Int32)), (0, .ref (xb X + a0))] dX7_takeAll_17 rfl hl (by decide) rfl (fun ls hl => ?_)
  refine v_iconst (0 : Int32) dX7_takeAll_18 (by decide) ?_
  refine v_istore_n [(2, .int (0 : Int32)), (1, .int (0 : Int32)), (0, .ref (xb X + a0))] dX7_takeAll_19 rfl hl (by decide) rfl (fun ls hl => ?_)
  exact L_X7_takeAll_20 N N a0 (0 : Int32) (0 : Int32) s ls (lv_sub hl [2, 1, 0] rfl) h
theorem k_X7_takeAll {X : VX} {cc : ByteArray} {own : String} {nL fr lo : Nat} {ini : Bool} {E : VX → Prop} {sF s : vS} {ρ : Type} {res : ρ} {pc : Nat} {ls : Array Slot} {rest : List Value} {N index : Nat} {a0 : Nat} {f : Int32 → vS → Option ρ} (h : bnd (F_X7_takeAll N a0 s) f = some res) (hlink : Cond.methodLink own index yX7_takeAll ∈ TT) (hR : 4 + 1 ≤ fr ∧ 8 + (6 + 11) + 98 ≤ lo) (hls : ls.size = nL) (hr : (rest.map fun v => v.category).sum ≤ 8) (hdg : decode cc pc = .ok (.invokevirtual index, 3)) (kk : ∀ r s', f r s' = some res → V X (cc, own, nL, fr, lo, ini) E sF s' (G0 X (pc + 3) ls (.int r :: rest))) : V X (cc, own, nL, fr, lo, ini) E sF s (G0 X pc ls (.ref (xb X + a0) :: rest)) := by
  obtain ⟨r, s', e, h⟩ := bnd_some h
  exact v_callV (b := a0) (ci := 7) (As := []) (rest := rest) (c_X7_takeAll X N a0 s s' r e).2 (c_X7_takeAll (l := xl X) (D := xD X) (ka := xka X) X N a0 s s' r e).1 rfl vl_X7_takeAll qi_X7_takeAll qe_X7_takeAll hlink hR rfl rfl hls hr hdg (kk r s' h)
set_option maxHeartbeats 4000000 in
set_option maxRecDepth 100000 in
theorem L_X7_takeApart_69 {X : VX} {sF : vS} {r : Int32} (N : Nat) (k18 : Nat → Int32 → vS → Option (Int32 × vS)) (hk18 : ∀ (a0 : Nat) (l2 : Int32) (s : vS) (ls : Array Slot), lv_has ls 3 [(0, .ref (xb X + a0)), (2, .int l2)] → k18 a0 l2 s = some (r, sF) → V X (cX7_takeApart, RX7, 3, 5, 123, false) (vRet sF (some (.int r)) (some .int)) sF s (G0 X 18 ls [])) (a0 : Nat) (l2 : Int32) (s : vS) (ls : Array Slot) (hl : lv_has ls 3 [(0, .ref (xb X + a0)), (2, .int l2)]) (h : J_X7_takeApart_69 N k18 a0 l2 s = some (r, sF)) : V X (cX7_takeApart, RX7, 3, 5, 123, false) (vRet sF (some (.int r)) (some .int)) sF s (G0 X 69 ls []) := by
  unfold J_X7_takeApart_69 at h
  refine v_inc (fun z => [(2, .int z), (0, .ref (xb X + a0))]) dX7_takeApart_69 h hl (k := 1) rfl (by rfl) (by decide) (fun _ => rfl) (fun l2_13 ls hl h => ?_)
  refine v_goto 18 dX7_takeApart_72 (by decide) ?_
  exact hk18 a0 l2_13 s ls (lv_sub hl [1, 0] rfl) h
set_option maxHeartbeats 4000000 in
set_option maxRecDepth 100000 in
theorem L_X7_takeApart_48 {X : VX} {sF : vS} {r : Int32} (N : Nat) (k18 : Nat → Int32 → vS → Option (Int32 × vS)) (hk18 : ∀ (a0 : Nat) (l2 : Int32) (s : vS) (ls : Array Slot), lv_has ls 3 [(0, .ref (xb X + a0)), (2, .int l2)] → k18 a0 l2 s = some (r, sF) → V X (cX7_takeApart, RX7, 3, 5, 123, false) (vRet sF (some (.int r)) (some .int)) sF s (G0 X 18 ls [])) (a0 : Nat) (l2 : Int32) (s : vS) (ls : Array Slot) (hl : lv_has ls 3 [(0, .ref (xb X + a0)), (2, .int l2)]) (h : J_X7_takeApart_48 N k18 a0 l2 s = some (r, sF)) : V X (cX7_takeApart, RX7, 3, 5, 123, false) (vRet sF (some (.int r)) (some .int)) sF s (G0 X 48 ls []) := by
  unfold J_X7_takeApart_48 at h
  refine v_aload_n dX7_takeApart_48 rfl (lv_at hl 0 rfl) ?_
  refine v_getR 7 7 h (by decide) rfl qfX7_28 dX7_takeApart_49 (fun r8 h => ?_)
  refine v_iload_n dX7_takeApart_52 rfl (lv_at hl 1 rfl) ?_
  refine v_iald dX7_takeApart_53 h (fun v9 h => ?_)
  refine v_iconst (-1 : Int32) dX7_takeApart_54 (by decide) ?_
  refine v_icmp_ne 69 dX7_takeApart_55 (by decide) h (fun h => ?_) (fun h => ?_)
  · exact L_X7_takeApart_69 N k18 hk18 a0 l2 s ls (lv_sub hl [0, 1] rfl) h
  · refine v_iconst (2 : Int32) dX7_takeApart_58 (by decide) ?_
    refine v_aload_n dX7_takeApart_59 rfl (lv_at hl 0 rfl) ?_
    refine v_getR 7 6 h (by decide) rfl qfX7_25 dX7_takeApart_60 (fun r10 h => ?_)
    refine v_iload_n dX7_takeApart_63 rfl (lv_at hl 1 rfl) ?_
    refine v_iald dX7_takeApart_64 h (fun v11 h => ?_)
    refine k_X7_faultOf h qmX7_60 (by decide) hl.1 (Nat.le_of_ble_eq_true rfl) dX7_takeApart_65 (fun v12 s h => ?_)
    exact v_iret dX7_takeApart_68 h
set_option maxHeartbeats 4000000 in
set_option maxRecDepth 100000 in
theorem L_X7_takeApart_18 {X : VX} {sF : vS} {r : Int32} (N : Nat) : ∀ (n : Nat) (a0 : Nat) (l2 : Int32) (s : vS) (ls : Array Slot), lv_has ls 3 [(0, .ref (xb X + a0)), (2, .int l2)] → H_X7_takeApart_18 N n a0 l2 s = some (r, sF) → V X (cX7_takeApart, RX7, 3, 5, 123, false) (vRet sF (some (.int r)) (some .int)) sF s (G0 X 18 ls []) := by
  intro n
  induction n with
  | zero => intro a0 l2 s ls hl h; cases h
  | succ n ih =>
   intro a0 l2 s ls hl h
   unfold H_X7_takeApart_18 at h
   refine v_iload_n dX7_takeApart_18 rfl (lv_at hl 1 rfl) ?_
   refine v_aload_n dX7_takeApart_19 rfl (lv_at hl 0 rfl) ?_
   refine v_getI 7 4 h (by decide) (Or.inl rfl) qfX7_19 dX7_takeApart_20 (fun v3 h => ?_)
   refine v_icmp_ge 75 dX7_takeApart_23 (by decide) h (fun h => ?_) (fun h => ?_)
   · refine v_iconst (0 : Int32) dX7_takeApart_75 (by decide) ?_
     exact v_iret dX7_takeApart_76 h
   · refine v_aload_n dX7_takeApart_26 rfl (lv_at hl 0 rfl) ?_
     refine v_getR 7 5 h (by decide) rfl qfX7_22 dX7_takeApart_27 (fun r4 h => ?_)
     refine v_iload_n dX7_takeApart_30 rfl (lv_at hl 1 rfl) ?_
     refine v_iald dX7_takeApart_31 h (fun v5 h => ?_)
     refine v_bipush (91 : Int32) dX7_takeApart_32 (by decide) ?_
     refine v_icmp_eq 48 dX7_takeApart_34 (by decide) h (fun h => ?_) (fun h => ?_)
     · exact L_X7_takeApart_48 N (H_X7_takeApart_18 N n) ih a0 l2 s ls (lv_sub hl [0, 1] rfl) h
     · refine v_aload_n dX7_takeApart_37 rfl (lv_at hl 0 rfl) ?_
       refine v_getR 7 5 h (by decide) rfl qfX7_22 dX7_takeApart_38 (fun r6 h => ?_)
       refine v_iload_n dX7_takeApart_41 rfl (lv_at hl 1 rfl) ?_
       refine v_iald dX7_takeApart_42 h (fun v7 h => ?_)
       refine v_bipush (60 : Int32) dX7_takeApart_43 (by decide) ?_
       refine v_icmp_ne 69 dX7_takeApart_45 (by decide) h (fun h => ?_) (fun h => ?_)
       · exact L_X7_takeApart_69 N (H_X7_takeApart_18 N n) ih a0 l2 s ls (lv_sub hl [0, 1] rfl) h
       · exact L_X7_takeApart_48 N (H_X7_takeApart_18 N n) ih a0 l2 s ls (lv_sub hl [0, 1] rfl) h
theorem vl_X7_takeApart : vCl yX7_takeApart cX7_takeApart 3 (some .int) 0 := ⟨qy_X7_takeApart, qjX7, by decide +kernel, by decide +kernel, by decide +kernel⟩
set_option maxHeartbeats 4000000 in
set_option maxRecDepth 100000 in
theorem c_X7_takeApart {l : Launch} {D : va_G} {ka : Nat → ClassId} (X0 : VX) (N : Nat) (a0 : Nat) (s sF : vS) (r : Int32) (h : F_X7_takeApart N a0 s = some (r, sF)) : isO s a0 7 = true ∧ vMet l D ka (xb X0) yX7_takeApart cX7_takeApart 3 (some .int) 5 123 [.ref (xb X0 + a0)] s sF (some (.int r)) := by
  unfold F_X7_takeApart at h
  unfold rcv at h
  obtain ⟨hO, h⟩ := v_chk h
  refine ⟨hO, vMet.of (ini := false) X0 (plainFor_of_name (by decide +kernel)) (Nat.le_of_ble_eq_true rfl) (fun h => by cases h) (fun X ls hb hl => ?_) rfl⟩
  show V X (cX7_takeApart, RX7, 3, 5, 123, false) (vRet sF (some (.int r)) (some .int)) sF s (G0 X 0 ls [])
  rw [← hb] at hl
  have hl : lv_has ls 3 [(0, .ref (xb X + a0))] := hl
  refine v_aload_n dX7_takeApart_0 rfl (lv_at hl 0 rfl) ?_
  refine k_X7_takeAll h qmX7_56 (by decide) hl.1 (Nat.le_of_ble_eq_true rfl) dX7_takeApart_1 (fun v1 s h => ?_)
  refine v_istore_n [(1, .int v1), (0, .ref (xb X + a0))] dX7_takeApart_4 rfl hl (by decide) rfl (fun ls hl => ?_)
  refine v_iload_n dX7_takeApart_5 rfl (lv_at hl 0 rfl) ?_
  refine v_iconst (-1 : Int32) dX7_takeApart_6 (by decide) ?_
  refine v_icmp_eq 16 dX7_takeApart_7 (by decide) h (fun h => ?_) (fun h => ?_)
  · refine v_iconst (0 : Int32) dX7_takeApart_16 (by decide) ?_
    refine v_istore_n [(2, .int (0 : Int32)), (1, .int v1), (0, .ref (xb X + a0))] dX7_takeApart_17 rfl hl (by decide) rfl (fun ls hl => ?_)
    exact L_X7_takeApart_18 N N a0 (0 : Int32) s ls (lv_sub hl [2, 0] rfl) h
  · refine v_iconst (1 : Int32) dX7_takeApart_10 (by decide) ?_
    refine v_iload_n dX7_takeApart_11 rfl (lv_at hl 0 rfl) ?_
    refine k_X7_faultOf h qmX7_60 (by decide) hl.1 (Nat.le_of_ble_eq_true rfl) dX7_takeApart_12 (fun v2 s h => ?_)
    exact v_iret dX7_takeApart_15 h
theorem k_X7_takeApart {X : VX} {cc : ByteArray} {own : String} {nL fr lo : Nat} {ini : Bool} {E : VX → Prop} {sF s : vS} {ρ : Type} {res : ρ} {pc : Nat} {ls : Array Slot} {rest : List Value} {N index : Nat} {a0 : Nat} {f : Int32 → vS → Option ρ} (h : bnd (F_X7_takeApart N a0 s) f = some res) (hlink : Cond.methodLink own index yX7_takeApart ∈ TT) (hR : 5 + 1 ≤ fr ∧ 8 + (3 + 11) + 123 ≤ lo) (hls : ls.size = nL) (hr : (rest.map fun v => v.category).sum ≤ 8) (hdg : decode cc pc = .ok (.invokevirtual index, 3)) (kk : ∀ r s', f r s' = some res → V X (cc, own, nL, fr, lo, ini) E sF s' (G0 X (pc + 3) ls (.int r :: rest))) : V X (cc, own, nL, fr, lo, ini) E sF s (G0 X pc ls (.ref (xb X + a0) :: rest)) := by
  obtain ⟨r, s', e, h⟩ := bnd_some h
  exact v_callV (b := a0) (ci := 7) (As := []) (rest := rest) (c_X7_takeApart X N a0 s s' r e).2 (c_X7_takeApart (l := xl X) (D := xD X) (ka := xka X) X N a0 s s' r e).1 rfl vl_X7_takeApart qi_X7_takeApart qe_X7_takeApart hlink hR rfl rfl hls hr hdg (kk r s' h)
theorem vl_X8_init : vCl yX8_init cX8_init 1 none 0 := ⟨qy_X8_init, qjX8, by decide +kernel, by decide +kernel, by decide +kernel⟩
set_option maxHeartbeats 4000000 in
set_option maxRecDepth 100000 in
theorem c_X8_init {l : Launch} {D : va_G} {ka : Nat → ClassId} (X0 : VX) (N : Nat) (a0 : Nat) (s sF : vS) (r : Unit) (h : F_X8_init N a0 s = some (r, sF)) : isO s a0 8 = true ∧ vMet l D ka (xb X0) yX8_init cX8_init 1 none 5 124 [.ref (xb X0 + a0)] s sF none := by
  unfold F_X8_init at h
  unfold rcv at h
  obtain ⟨hO, h⟩ := v_chk h
  refine ⟨hO, vMet.of (ini := true) X0 (plainFor_of_name (by decide +kernel)) (Nat.le_of_ble_eq_true rfl) (fun _ => rfl) (fun X ls hb hl => ?_) rfl⟩
  show V X (cX8_init, RX8, 1, 5, 124, true) (vRet sF none none) sF s (G0 X 0 ls [])
  rw [← hb] at hl
  have hl : lv_has ls 1 [(0, .ref (xb X + a0))] := hl
  refine v_aload_n dX8_init_0 rfl (lv_at hl 0 rfl) ?_
  refine v_objI qmX8_5 qo_in qo_code hl.1 ⟨by decide, Nat.le_of_ble_eq_true rfl⟩ dX8_init_1 ?_
  refine v_aload_n dX8_init_4 rfl (lv_at hl 0 rfl) ?_
  refine v_new 1 h (by decide) qcX8_11 qnX1 qjX1 dX8_init_5 (fun q1 s h => ?_)
  refine v_dup dX8_init_8 rfl ?_
  refine v_iconst (0 : Int32) dX8_init_9 (by decide) ?_
  refine v_bipush (19 : Int32) dX8_init_10 (by decide) ?_
  refine k_X1_init h qmX8_13 (by decide) hl.1 (Nat.le_of_ble_eq_true rfl) dX8_init_12 (fun v2 s h => ?_)
  refine v_putR 8 0 h (by decide) rfl (Or.inr ⟨rfl, rfl, rfl⟩) qfX8_16 dX8_init_15 (fun s h => ?_)
  refine v_aload_n dX8_init_18 rfl (lv_at hl 0 rfl) ?_
  refine v_new 1 h (by decide) qcX8_11 qnX1 qjX1 dX8_init_19 (fun q3 s h => ?_)
  refine v_dup dX8_init_22 rfl ?_
  refine v_iconst (1 : Int32) dX8_init_23 (by decide) ?_
  refine v_bipush (29 : Int32) dX8_init_24 (by decide) ?_
  refine k_X1_init h qmX8_13 (by decide) hl.1 (Nat.le_of_ble_eq_true rfl) dX8_init_26 (fun v4 s h => ?_)
  refine v_putR 8 1 h (by decide) rfl (Or.inr ⟨rfl, rfl, rfl⟩) qfX8_20 dX8_init_29 (fun s h => ?_)
  refine v_aload_n dX8_init_32 rfl (lv_at hl 0 rfl) ?_
  refine v_new 0 h (by decide) qcX8_23 qnX0 qjX0 dX8_init_33 (fun q5 s h => ?_)
  refine v_dup dX8_init_36 rfl ?_
  refine v_aload_n dX8_init_37 rfl (lv_at hl 0 rfl) ?_
  refine v_getR 8 0 h (by decide) rfl qfX8_16 dX8_init_38 (fun r6 h => ?_)
  refine v_aload_n dX8_init_41 rfl (lv_at hl 0 rfl) ?_
  refine v_getR 8 1 h (by decide) rfl qfX8_20 dX8_init_42 (fun r7 h => ?_)
  refine k_X0_init h qmX8_25 (by decide) hl.1 (Nat.le_of_ble_eq_true rfl) dX8_init_45 (fun v8 s h => ?_)
  refine v_putR 8 2 h (by decide) rfl (Or.inr ⟨rfl, rfl, rfl⟩) qfX8_28 dX8_init_48 (fun s h => ?_)
  refine v_aload_n dX8_init_51 rfl (lv_at hl 0 rfl) ?_
  refine v_new 7 h (by decide) qcX8_32 qnX7 qjX7 dX8_init_52 (fun q9 s h => ?_)
  refine v_dup dX8_init_55 rfl ?_
  refine v_aload_n dX8_init_56 rfl (lv_at hl 0 rfl) ?_
  refine v_getR 8 0 h (by decide) rfl qfX8_16 dX8_init_57 (fun r10 h => ?_)
  refine v_aload_n dX8_init_60 rfl (lv_at hl 0 rfl) ?_
  refine v_getR 8 1 h (by decide) rfl qfX8_20 dX8_init_61 (fun r11 h => ?_)
  refine k_X7_init h qmX8_34 (by decide) hl.1 (Nat.le_of_ble_eq_true rfl) dX8_init_64 (fun v12 s h => ?_)
  refine v_putR 8 3 h (by decide) rfl (Or.inr ⟨rfl, rfl, rfl⟩) qfX8_35 dX8_init_67 (fun s h => ?_)
  refine v_aload_n dX8_init_70 rfl (lv_at hl 0 rfl) ?_
  refine v_new 4 h (by decide) qcX8_39 qnX4 qjX4 dX8_init_71 (fun q13 s h => ?_)
  refine v_dup dX8_init_74 rfl ?_
  refine v_aload_n dX8_init_75 rfl (lv_at hl 0 rfl) ?_
  refine v_getR 8 2 h (by decide) rfl qfX8_28 dX8_init_76 (fun r14 h => ?_)
  refine k_X4_init h qmX8_41 (by decide) hl.1 (Nat.le_of_ble_eq_true rfl) dX8_init_79 (fun v15 s h => ?_)
  refine v_putR 8 4 h (by decide) rfl (Or.inr ⟨rfl, rfl, rfl⟩) qfX8_44 dX8_init_82 (fun s h => ?_)
  refine v_aload_n dX8_init_85 rfl (lv_at hl 0 rfl) ?_
  refine v_new 2 h (by decide) qcX8_48 qnX2 qjX2 dX8_init_86 (fun q16 s h => ?_)
  refine v_dup dX8_init_89 rfl ?_
  refine kn_X2_init_X8 h nstX8_50 (by decide) hl.1 (Nat.le_of_ble_eq_true rfl) dX8_init_90 (fun v17 s h => ?_)
  refine v_putR 8 5 h (by decide) rfl (Or.inr ⟨rfl, rfl, rfl⟩) qfX8_51 dX8_init_93 (fun s h => ?_)
  refine v_aload_n dX8_init_96 rfl (lv_at hl 0 rfl) ?_
  refine v_new 6 h (by decide) qcX8_55 qnX6 qjX6 dX8_init_97 (fun q18 s h => ?_)
  refine v_dup dX8_init_100 rfl ?_
  refine k_X6_init h qmX8_57 (by decide) hl.1 (Nat.le_of_ble_eq_true rfl) dX8_init_101 (fun v19 s h => ?_)
  refine v_putR 8 6 h (by decide) rfl (Or.inr ⟨rfl, rfl, rfl⟩) qfX8_58 dX8_init_104 (fun s h => ?_)
  refine v_aload_n dX8_init_107 rfl (lv_at hl 0 rfl) ?_
  refine v_new 3 h (by decide) qcX8_62 qnX3 qjX3 dX8_init_108 (fun q20 s h => ?_)
  refine v_dup dX8_init_111 rfl ?_
  refine kn_X3_init_X8 h nstX8_64 (by decide) hl.1 (Nat.le_of_ble_eq_true rfl) dX8_init_112 (fun v21 s h => ?_)
  refine v_putR 8 7 h (by decide) rfl (Or.inr ⟨rfl, rfl, rfl⟩) qfX8_65 dX8_init_115 (fun s h => ?_)
  refine v_aload_n dX8_init_118 rfl (lv_at hl 0 rfl) ?_
  refine v_new 5 h (by decide) qcX8_69 qnX5 qjX5 dX8_init_119 (fun q22 s h => ?_)
  refine v_dup dX8_init_122 rfl ?_
  refine k_X5_init h qmX8_71 (by decide) hl.1 (Nat.le_of_ble_eq_true rfl) dX8_init_123 (fun v23 s h => ?_)
  refine v_putR 8 8 h (by decide) rfl (Or.inr ⟨rfl, rfl, rfl⟩) qfX8_72 dX8_init_126 (fun s h => ?_)
  refine v_aload_n dX8_init_129 rfl (lv_at hl 0 rfl) ?_
  refine v_new 3 h (by decide) qcX8_62 qnX3 qjX3 dX8_init_130 (fun q24 s h => ?_)
  refine v_dup dX8_init_133 rfl ?_
  refine kn_X3_init_X8 h nstX8_64 (by decide) hl.1 (Nat.le_of_ble_eq_true rfl) dX8_init_134 (fun v25 s h => ?_)
  refine v_putR 8 9 h (by decide) rfl (Or.inr ⟨rfl, rfl, rfl⟩) qfX8_76 dX8_init_137 (fun s h => ?_)
  refine v_aload_n dX8_init_140 rfl (lv_at hl 0 rfl) ?_
  refine v_new 5 h (by decide) qcX8_69 qnX5 qjX5 dX8_init_141 (fun q26 s h => ?_)
  refine v_dup dX8_init_144 rfl ?_
  refine k_X5_init h qmX8_71 (by decide) hl.1 (Nat.le_of_ble_eq_true rfl) dX8_init_145 (fun v27 s h => ?_)
  refine v_putR 8 10 h (by decide) rfl (Or.inr ⟨rfl, rfl, rfl⟩) qfX8_79 dX8_init_148 (fun s h => ?_)
  refine v_aload_n dX8_init_151 rfl (lv_at hl 0 rfl) ?_
  refine v_iconst (0 : Int32) dX8_init_152 (by decide) ?_
  refine v_putZ 8 11 h (by decide) rfl (Or.inl rfl) qfX8_82 dX8_init_153 (fun s h => ?_)
  exact v_vret dX8_init_156 h
theorem k_X8_init {X : VX} {cc : ByteArray} {own : String} {nL fr lo : Nat} {ini : Bool} {E : VX → Prop} {sF s : vS} {ρ : Type} {res : ρ} {pc : Nat} {ls : Array Slot} {rest : List Value} {N index : Nat} {a0 : Nat} {f : Unit → vS → Option ρ} (h : bnd (F_X8_init N a0 s) f = some res) (hlink : Cond.methodLink own index yX8_init ∈ TT) (hR : 5 + 1 ≤ fr ∧ 8 + (1 + 11) + 124 ≤ lo) (hls : ls.size = nL) (hr : (rest.map fun v => v.category).sum ≤ 8) (hdg : decode cc pc = .ok (.invokespecial index, 3)) (kk : ∀ r s', f r s' = some res → V X (cc, own, nL, fr, lo, ini) E sF s' (G0 X (pc + 3) ls (rest))) : V X (cc, own, nL, fr, lo, ini) E sF s (G0 X pc ls (.ref (xb X + a0) :: rest)) := by
  obtain ⟨r, s', e, h⟩ := bnd_some h
  exact v_callI (b := a0) (As := []) (rest := rest) (c_X8_init X N a0 s s' r e).2 rfl vl_X8_init qi_X8_init hlink hR rfl rfl hls hr hdg (kk r s' h)
set_option maxHeartbeats 4000000 in
set_option maxRecDepth 100000 in
theorem L_X8_flag_20 {X : VX} {sF : vS} {r : Int32} (N : Nat) (s : vS) (ls : Array Slot) (hl : lv_has ls 3 []) (h : J_X8_flag_20 N  s = some (r, sF)) : V X (cX8_flag, RX8, 3, 3, 74, false) (vRet sF (some (.int r)) (some .int)) sF s (G0 X 20 ls []) := by
  unfold J_X8_flag_20 at h
  refine v_iconst (-1 : Int32) dX8_flag_20 (by decide) ?_
  exact v_iret dX8_flag_21 h
theorem vl_X8_flag : vCl yX8_flag cX8_flag 3 (some .int) 2 := ⟨qy_X8_flag, qjX8, by decide +kernel, by decide +kernel, by decide +kernel⟩
set_option maxHeartbeats 4000000 in
set_option maxRecDepth 100000 in
theorem c_X8_flag {l : Launch} {D : va_G} {ka : Nat → ClassId} (X0 : VX) (N : Nat) (a0 : Nat) (l1 : Int32) (l2 : Int32) (s sF : vS) (r : Int32) (h : F_X8_flag N a0 l1 l2 s = some (r, sF)) : isO s a0 8 = true ∧ vMet l D ka (xb X0) yX8_flag cX8_flag 3 (some .int) 3 74 [.ref (xb X0 + a0), .int l1, .int l2] s sF (some (.int r)) := by
  unfold F_X8_flag at h
  unfold rcv at h
  obtain ⟨hO, h⟩ := v_chk h
  refine ⟨hO, vMet.of (ini := false) X0 (plainFor_of_name (by decide +kernel)) (Nat.le_of_ble_eq_true rfl) (fun h => by cases h) (fun X ls hb hl => ?_) rfl⟩
  show V X (cX8_flag, RX8, 3, 3, 74, false) (vRet sF (some (.int r)) (some .int)) sF s (G0 X 0 ls [])
  rw [← hb] at hl
  have hl : lv_has ls 3 [(0, .ref (xb X + a0)), (1, .int l1), (2, .int l2)] := hl
  refine v_aload_n dX8_flag_0 rfl (lv_at hl 0 rfl) ?_
  refine v_getR 8 0 h (by decide) rfl qfX8_16 dX8_flag_1 (fun r1 h => ?_)
  refine v_iload_n dX8_flag_4 rfl (lv_at hl 1 rfl) ?_
  refine k_X1_has h qmX8_86 (by decide) hl.1 (Nat.le_of_ble_eq_true rfl) dX8_flag_5 (fun v2 s h => ?_)
  refine v_if_eq 20 dX8_flag_8 (by decide) h (fun h => ?_) (fun h => ?_)
  · exact L_X8_flag_20 N  s ls (lv_sub hl [] rfl) h
  · refine v_iload_n dX8_flag_11 rfl (lv_at hl 2 rfl) ?_
    refine v_if_lt 20 dX8_flag_12 (by decide) h (fun h => ?_) (fun h => ?_)
    · exact L_X8_flag_20 N  s ls (lv_sub hl [] rfl) h
    · refine v_iload_n dX8_flag_15 rfl (lv_at hl 2 rfl) ?_
      refine v_iconst (4 : Int32) dX8_flag_16 (by decide) ?_
      refine v_icmp_le 22 dX8_flag_17 (by decide) h (fun h => ?_) (fun h => ?_)
      · refine v_iload_n dX8_flag_22 rfl (lv_at hl 2 rfl) ?_
        refine v_tswc (0 : Int32) 52 dX8_flag_23 (by decide) (by decide) (by rfl) (by decide) h (fun h => ?_) (fun h0 h => ?_)
        · refine v_aload_n dX8_flag_52 rfl (lv_at hl 0 rfl) ?_
          refine v_getR 8 0 h (by decide) rfl qfX8_16 dX8_flag_53 (fun r14 h => ?_)
          refine v_getR 1 3 h (by decide) rfl qfX8_90 dX8_flag_56 (fun r15 h => ?_)
          refine v_iload_n dX8_flag_59 rfl (lv_at hl 1 rfl) ?_
          refine v_iald dX8_flag_60 h (fun v16 h => ?_)
          exact v_iret dX8_flag_61 h
        · refine v_tswc (1 : Int32) 62 dX8_flag_23 (by decide) (by decide) (by rfl) (by decide) h (fun h => ?_) (fun h1 h => ?_)
          · refine v_aload_n dX8_flag_62 rfl (lv_at hl 0 rfl) ?_
            refine v_getR 8 0 h (by decide) rfl qfX8_16 dX8_flag_63 (fun r11 h => ?_)
            refine v_getR 1 4 h (by decide) rfl qfX8_94 dX8_flag_66 (fun r12 h => ?_)
            refine v_iload_n dX8_flag_69 rfl (lv_at hl 1 rfl) ?_
            refine v_iald dX8_flag_70 h (fun v13 h => ?_)
            exact v_iret dX8_flag_71 h
          · refine v_tswc (2 : Int32) 72 dX8_flag_23 (by decide) (by decide) (by rfl) (by decide) h (fun h => ?_) (fun h2 h => ?_)
            · refine v_aload_n dX8_flag_72 rfl (lv_at hl 0 rfl) ?_
              refine v_getR 8 0 h (by decide) rfl qfX8_16 dX8_flag_73 (fun r7 h => ?_)
              refine v_getR 1 4 h (by decide) rfl qfX8_94 dX8_flag_76 (fun r8 h => ?_)
              refine v_iload_n dX8_flag_79 rfl (lv_at hl 1 rfl) ?_
              refine v_iald dX8_flag_80 h (fun v9 h => ?_)
              refine k_J6_bitCount_0f7a4 h qmX8_97 (by decide) hl.1 (Nat.le_of_ble_eq_true rfl) dX8_flag_81 (fun v10 s h => ?_)
              exact v_iret dX8_flag_84 h
            · refine v_tswc (3 : Int32) 85 dX8_flag_23 (by decide) (by decide) (by rfl) (by decide) h (fun h => ?_) (fun h3 h => ?_)
              · refine v_aload_n dX8_flag_85 rfl (lv_at hl 0 rfl) ?_
                refine v_getR 8 0 h (by decide) rfl qfX8_16 dX8_flag_86 (fun r5 h => ?_)
                refine v_iload_n dX8_flag_89 rfl (lv_at hl 1 rfl) ?_
                refine k_X1_symmetriesOf h qmX8_103 (by decide) hl.1 (Nat.le_of_ble_eq_true rfl) dX8_flag_90 (fun v6 s h => ?_)
                exact v_iret dX8_flag_93 h
              · have g0 := tsw_ne (c := (0 : Int32)) (i := 0) rfl h0
                have g1 := tsw_ne (c := (1 : Int32)) (i := 1) rfl h1
                have g2 := tsw_ne (c := (2 : Int32)) (i := 2) rfl h2
                have g3 := tsw_ne (c := (3 : Int32)) (i := 3) rfl h3
                refine v_tswd 94 dX8_flag_23 (by omega) (by decide) ?_
                refine v_aload_n dX8_flag_94 rfl (lv_at hl 0 rfl) ?_
                refine v_getR 8 0 h (by decide) rfl qfX8_16 dX8_flag_95 (fun r3 h => ?_)
                refine v_iload_n dX8_flag_98 rfl (lv_at hl 1 rfl) ?_
                refine k_X1_oppositeOf h qmX8_106 (by decide) hl.1 (Nat.le_of_ble_eq_true rfl) dX8_flag_99 (fun v4 s h => ?_)
                exact v_iret dX8_flag_102 h
      · exact L_X8_flag_20 N  s ls (lv_sub hl [] rfl) h
theorem k_X8_flag {X : VX} {cc : ByteArray} {own : String} {nL fr lo : Nat} {ini : Bool} {E : VX → Prop} {sF s : vS} {ρ : Type} {res : ρ} {pc : Nat} {ls : Array Slot} {rest : List Value} {N index : Nat} {a0 : Nat} {l1 : Int32} {l2 : Int32} {f : Int32 → vS → Option ρ} (h : bnd (F_X8_flag N a0 l1 l2 s) f = some res) (hlink : Cond.methodLink own index yX8_flag ∈ TT) (hR : 3 + 1 ≤ fr ∧ 8 + (3 + 11) + 74 ≤ lo) (hls : ls.size = nL) (hr : (rest.map fun v => v.category).sum ≤ 8) (hdg : decode cc pc = .ok (.invokevirtual index, 3)) (kk : ∀ r s', f r s' = some res → V X (cc, own, nL, fr, lo, ini) E sF s' (G0 X (pc + 3) ls (.int r :: rest))) : V X (cc, own, nL, fr, lo, ini) E sF s (G0 X pc ls (.int l2 :: .int l1 :: .ref (xb X + a0) :: rest)) := by
  obtain ⟨r, s', e, h⟩ := bnd_some h
  exact v_callV (b := a0) (ci := 8) (As := [.int l1, .int l2]) (rest := rest) (c_X8_flag X N a0 l1 l2 s s' r e).2 (c_X8_flag (l := xl X) (D := xD X) (ka := xka X) X N a0 l1 l2 s s' r e).1 rfl vl_X8_flag qi_X8_flag qe_X8_flag hlink hR rfl rfl hls hr hdg (kk r s' h)
set_option maxHeartbeats 4000000 in
set_option maxRecDepth 100000 in
theorem L_X8_rooted_20 {X : VX} {sF : vS} {r : Int32} (N : Nat) (s : vS) (ls : Array Slot) (hl : lv_has ls 3 []) (h : J_X8_rooted_20 N  s = some (r, sF)) : V X (cX8_rooted, RX8, 3, 1, 21, false) (vRet sF (some (.int r)) (some .int)) sF s (G0 X 20 ls []) := by
  unfold J_X8_rooted_20 at h
  refine v_iconst (-1 : Int32) dX8_rooted_20 (by decide) ?_
  exact v_iret dX8_rooted_21 h
theorem vl_X8_rooted : vCl yX8_rooted cX8_rooted 3 (some .int) 2 := ⟨qy_X8_rooted, qjX8, by decide +kernel, by decide +kernel, by decide +kernel⟩
set_option maxHeartbeats 4000000 in
set_option maxRecDepth 100000 in
theorem c_X8_rooted {l : Launch} {D : va_G} {ka : Nat → ClassId} (X0 : VX) (N : Nat) (a0 : Nat) (l1 : Int32) (l2 : Int32) (s sF : vS) (r : Int32) (h : F_X8_rooted N a0 l1 l2 s = some (r, sF)) : isO s a0 8 = true ∧ vMet l D ka (xb X0) yX8_rooted cX8_rooted 3 (some .int) 1 21 [.ref (xb X0 + a0), .int l1, .int l2] s sF (some (.int r)) := by
  unfold F_X8_rooted at h
  unfold rcv at h
  obtain ⟨hO, h⟩ := v_chk h
  refine ⟨hO, vMet.of (ini := false) X0 (plainFor_of_name (by decide +kernel)) (Nat.le_of_ble_eq_true rfl) (fun h => by cases h) (fun X ls hb hl => ?_) rfl⟩
  show V X (cX8_rooted, RX8, 3, 1, 21, false) (vRet sF (some (.int r)) (some .int)) sF s (G0 X 0 ls [])
  rw [← hb] at hl
  have hl : lv_has ls 3 [(0, .ref (xb X + a0)), (1, .int l1), (2, .int l2)] := hl
  refine v_aload_n dX8_rooted_0 rfl (lv_at hl 0 rfl) ?_
  refine v_getR 8 1 h (by decide) rfl qfX8_20 dX8_rooted_1 (fun r1 h => ?_)
  refine v_iload_n dX8_rooted_4 rfl (lv_at hl 1 rfl) ?_
  refine k_X1_has h qmX8_86 (by decide) hl.1 (Nat.le_of_ble_eq_true rfl) dX8_rooted_5 (fun v2 s h => ?_)
  refine v_if_eq 20 dX8_rooted_8 (by decide) h (fun h => ?_) (fun h => ?_)
  · exact L_X8_rooted_20 N  s ls (lv_sub hl [] rfl) h
  · refine v_iload_n dX8_rooted_11 rfl (lv_at hl 2 rfl) ?_
    refine v_if_lt 20 dX8_rooted_12 (by decide) h (fun h => ?_) (fun h => ?_)
    · exact L_X8_rooted_20 N  s ls (lv_sub hl [] rfl) h
    · refine v_iload_n dX8_rooted_15 rfl (lv_at hl 2 rfl) ?_
      refine v_iconst (4 : Int32) dX8_rooted_16 (by decide) ?_
      refine v_icmp_le 22 dX8_rooted_17 (by decide) h (fun h => ?_) (fun h => ?_)
      · refine v_iload_n dX8_rooted_22 rfl (lv_at hl 2 rfl) ?_
        refine v_tswc (0 : Int32) 52 dX8_rooted_23 (by decide) (by decide) (by rfl) (by decide) h (fun h => ?_) (fun h0 h => ?_)
        · refine v_aload_n dX8_rooted_52 rfl (lv_at hl 0 rfl) ?_
          refine v_getR 8 1 h (by decide) rfl qfX8_20 dX8_rooted_53 (fun r18 h => ?_)
          refine v_getR 1 3 h (by decide) rfl qfX8_90 dX8_rooted_56 (fun r19 h => ?_)
          refine v_iload_n dX8_rooted_59 rfl (lv_at hl 1 rfl) ?_
          refine v_iald dX8_rooted_60 h (fun v20 h => ?_)
          exact v_iret dX8_rooted_61 h
        · refine v_tswc (1 : Int32) 62 dX8_rooted_23 (by decide) (by decide) (by rfl) (by decide) h (fun h => ?_) (fun h1 h => ?_)
          · refine v_aload_n dX8_rooted_62 rfl (lv_at hl 0 rfl) ?_
            refine v_getR 8 1 h (by decide) rfl qfX8_20 dX8_rooted_63 (fun r15 h => ?_)
            refine v_getR 1 4 h (by decide) rfl qfX8_94 dX8_rooted_66 (fun r16 h => ?_)
            refine v_iload_n dX8_rooted_69 rfl (lv_at hl 1 rfl) ?_
            refine v_iald dX8_rooted_70 h (fun v17 h => ?_)
            exact v_iret dX8_rooted_71 h
          · refine v_tswc (2 : Int32) 72 dX8_rooted_23 (by decide) (by decide) (by rfl) (by decide) h (fun h => ?_) (fun h2 h => ?_)
            · refine v_aload_n dX8_rooted_72 rfl (lv_at hl 0 rfl) ?_
              refine v_getR 8 1 h (by decide) rfl qfX8_20 dX8_rooted_73 (fun r9 h => ?_)
              refine v_getR 1 5 h (by decide) rfl qfX8_109 dX8_rooted_76 (fun r10 h => ?_)
              refine v_iload_n dX8_rooted_79 rfl (lv_at hl 1 rfl) ?_
              refine v_aald 4 dX8_rooted_80 h (fun r11 h => ?_)
              refine v_getR 3 1 h (by decide) rfl qfX8_113 dX8_rooted_81 (fun r12 h => ?_)
              refine v_iconst (0 : Int32) dX8_rooted_84 (by decide) ?_
              refine v_iald dX8_rooted_85 h (fun v13 h => ?_)
              refine k_J6_bitCount_0f7a4 h qmX8_97 (by decide) hl.1 (Nat.le_of_ble_eq_true rfl) dX8_rooted_86 (fun v14 s h => ?_)
              exact v_iret dX8_rooted_89 h
            · refine v_tswc (3 : Int32) 90 dX8_rooted_23 (by decide) (by decide) (by rfl) (by decide) h (fun h => ?_) (fun h3 h => ?_)
              · refine v_aload_n dX8_rooted_90 rfl (lv_at hl 0 rfl) ?_
                refine v_getR 8 2 h (by decide) rfl qfX8_28 dX8_rooted_91 (fun r6 h => ?_)
                refine v_getR 0 2 h (by decide) rfl qfX8_116 dX8_rooted_94 (fun r7 h => ?_)
                refine v_iload_n dX8_rooted_97 rfl (lv_at hl 1 rfl) ?_
                refine v_iald dX8_rooted_98 h (fun v8 h => ?_)
                exact v_iret dX8_rooted_99 h
              · have g0 := tsw_ne (c := (0 : Int32)) (i := 0) rfl h0
                have g1 := tsw_ne (c := (1 : Int32)) (i := 1) rfl h1
                have g2 := tsw_ne (c := (2 : Int32)) (i := 2) rfl h2
                have g3 := tsw_ne (c := (3 : Int32)) (i := 3) rfl h3
                refine v_tswd 100 dX8_rooted_23 (by omega) (by decide) ?_
                refine v_aload_n dX8_rooted_100 rfl (lv_at hl 0 rfl) ?_
                refine v_getR 8 2 h (by decide) rfl qfX8_28 dX8_rooted_101 (fun r3 h => ?_)
                refine v_getR 0 3 h (by decide) rfl qfX8_119 dX8_rooted_104 (fun r4 h => ?_)
                refine v_iload_n dX8_rooted_107 rfl (lv_at hl 1 rfl) ?_
                refine v_iald dX8_rooted_108 h (fun v5 h => ?_)
                exact v_iret dX8_rooted_109 h
      · exact L_X8_rooted_20 N  s ls (lv_sub hl [] rfl) h
theorem k_X8_rooted {X : VX} {cc : ByteArray} {own : String} {nL fr lo : Nat} {ini : Bool} {E : VX → Prop} {sF s : vS} {ρ : Type} {res : ρ} {pc : Nat} {ls : Array Slot} {rest : List Value} {N index : Nat} {a0 : Nat} {l1 : Int32} {l2 : Int32} {f : Int32 → vS → Option ρ} (h : bnd (F_X8_rooted N a0 l1 l2 s) f = some res) (hlink : Cond.methodLink own index yX8_rooted ∈ TT) (hR : 1 + 1 ≤ fr ∧ 8 + (3 + 11) + 21 ≤ lo) (hls : ls.size = nL) (hr : (rest.map fun v => v.category).sum ≤ 8) (hdg : decode cc pc = .ok (.invokevirtual index, 3)) (kk : ∀ r s', f r s' = some res → V X (cc, own, nL, fr, lo, ini) E sF s' (G0 X (pc + 3) ls (.int r :: rest))) : V X (cc, own, nL, fr, lo, ini) E sF s (G0 X pc ls (.int l2 :: .int l1 :: .ref (xb X + a0) :: rest)) := by
  obtain ⟨r, s', e, h⟩ := bnd_some h
  exact v_callV (b := a0) (ci := 8) (As := [.int l1, .int l2]) (rest := rest) (c_X8_rooted X N a0 l1 l2 s s' r e).2 (c_X8_rooted (l := xl X) (D := xD X) (ka := xka X) X N a0 l1 l2 s s' r e).1 rfl vl_X8_rooted qi_X8_rooted qe_X8_rooted hlink hR rfl rfl hls hr hdg (kk r s' h)
set_option maxHeartbeats 4000000 in
set_option maxRecDepth 100000 in
theorem L_X8_alike_52 {X : VX} {sF : vS} {r : Int32} (N : Nat) (s : vS) (ls : Array Slot) (hl : lv_has ls 5 []) (h : J_X8_alike_52 N  s = some (r, sF)) : V X (cX8_alike, RX8, 5, 1, 21, false) (vRet sF (some (.int r)) (some .int)) sF s (G0 X 52 ls []) := by
  unfold J_X8_alike_52 at h
  refine v_bipush (-2 : Int32) dX8_alike_52 (by decide) ?_
  exact v_iret dX8_alike_54 h
set_option maxHeartbeats 4000000 in
set_option maxRecDepth 100000 in
theorem L_X8_alike_27 {X : VX} {sF : vS} {r : Int32} (N : Nat) (l2 : Int32) (l3 : Int32) (k0 : Nat) (s : vS) (ls : Array Slot) (hl : lv_has ls 5 [(2, .int l2), (3, .int l3)]) (h : J_X8_alike_27 N l2 l3 k0 s = some (r, sF)) : V X (cX8_alike, RX8, 5, 1, 21, false) (vRet sF (some (.int r)) (some .int)) sF s (G0 X 27 ls [.ref (xb X + k0)]) := by
  unfold J_X8_alike_27 at h
  refine v_astore [(4, .ref (xb X + k0)), (2, .int l2), (3, .int l3)] dX8_alike_27 hl (by decide) rfl (fun ls hl => ?_)
  refine v_aload dX8_alike_29 (lv_at hl 0 rfl) ?_
  refine v_iload_n dX8_alike_31 rfl (lv_at hl 1 rfl) ?_
  refine k_X1_hasSize h qmX8_122 (by decide) hl.1 (Nat.le_of_ble_eq_true rfl) dX8_alike_32 (fun v3 s h => ?_)
  refine v_if_ne 40 dX8_alike_35 (by decide) h (fun h => ?_) (fun h => ?_)
  · refine v_iload_n dX8_alike_40 rfl (lv_at hl 2 rfl) ?_
    refine v_if_lt 52 dX8_alike_41 (by decide) h (fun h => ?_) (fun h => ?_)
    · exact L_X8_alike_52 N  s ls (lv_sub hl [] rfl) h
    · refine v_iload_n dX8_alike_44 rfl (lv_at hl 2 rfl) ?_
      refine v_iload_n dX8_alike_45 rfl (lv_at hl 1 rfl) ?_
      refine k_X1_codesOf h qmX8_125 (by decide) hl.1 (Nat.le_of_ble_eq_true rfl) dX8_alike_46 (fun v4 s h => ?_)
      refine v_icmp_lt 55 dX8_alike_49 (by decide) h (fun h => ?_) (fun h => ?_)
      · refine v_aload dX8_alike_55 (lv_at hl 0 rfl) ?_
        refine v_getR 1 7 h (by decide) rfl qfX8_128 dX8_alike_57 (fun r5 h => ?_)
        refine v_iload_n dX8_alike_60 rfl (lv_at hl 1 rfl) ?_
        refine v_aald 6 dX8_alike_61 h (fun r6 h => ?_)
        refine v_iload_n dX8_alike_62 rfl (lv_at hl 2 rfl) ?_
        refine v_iald dX8_alike_63 h (fun v7 h => ?_)
        exact v_iret dX8_alike_64 h
      · exact L_X8_alike_52 N  s ls (lv_sub hl [] rfl) h
  · refine v_iconst (-1 : Int32) dX8_alike_38 (by decide) ?_
    exact v_iret dX8_alike_39 h
set_option maxHeartbeats 4000000 in
set_option maxRecDepth 100000 in
theorem L_X8_alike_9 {X : VX} {sF : vS} {r : Int32} (N : Nat) (s : vS) (ls : Array Slot) (hl : lv_has ls 5 []) (h : J_X8_alike_9 N  s = some (r, sF)) : V X (cX8_alike, RX8, 5, 1, 21, false) (vRet sF (some (.int r)) (some .int)) sF s (G0 X 9 ls []) := by
  unfold J_X8_alike_9 at h
  refine v_iconst (-1 : Int32) dX8_alike_9 (by decide) ?_
  exact v_iret dX8_alike_10 h
theorem vl_X8_alike : vCl yX8_alike cX8_alike 5 (some .int) 3 := ⟨qy_X8_alike, qjX8, by decide +kernel, by decide +kernel, by decide +kernel⟩
set_option maxHeartbeats 4000000 in
set_option maxRecDepth 100000 in
theorem c_X8_alike {l : Launch} {D : va_G} {ka : Nat → ClassId} (X0 : VX) (N : Nat) (a0 : Nat) (l1 : Int32) (l2 : Int32) (l3 : Int32) (s sF : vS) (r : Int32) (h : F_X8_alike N a0 l1 l2 l3 s = some (r, sF)) : isO s a0 8 = true ∧ vMet l D ka (xb X0) yX8_alike cX8_alike 5 (some .int) 1 21 [.ref (xb X0 + a0), .int l1, .int l2, .int l3] s sF (some (.int r)) := by
  unfold F_X8_alike at h
  unfold rcv at h
  obtain ⟨hO, h⟩ := v_chk h
  refine ⟨hO, vMet.of (ini := false) X0 (plainFor_of_name (by decide +kernel)) (Nat.le_of_ble_eq_true rfl) (fun h => by cases h) (fun X ls hb hl => ?_) rfl⟩
  show V X (cX8_alike, RX8, 5, 1, 21, false) (vRet sF (some (.int r)) (some .int)) sF s (G0 X 0 ls [])
  rw [← hb] at hl
  have hl : lv_has ls 5 [(0, .ref (xb X + a0)), (1, .int l1), (2, .int l2), (3, .int l3)] := hl
  refine v_iload_n dX8_alike_0 rfl (lv_at hl 1 rfl) ?_
  refine v_if_lt 9 dX8_alike_1 (by decide) h (fun h => ?_) (fun h => ?_)
  · exact L_X8_alike_9 N  s ls (lv_sub hl [] rfl) h
  · refine v_iload_n dX8_alike_4 rfl (lv_at hl 1 rfl) ?_
    refine v_iconst (1 : Int32) dX8_alike_5 (by decide) ?_
    refine v_icmp_le 11 dX8_alike_6 (by decide) h (fun h => ?_) (fun h => ?_)
    · refine v_iload_n dX8_alike_11 rfl (lv_at hl 1 rfl) ?_
      refine v_iconst (1 : Int32) dX8_alike_12 (by decide) ?_
      refine v_icmp_ne 23 dX8_alike_13 (by decide) h (fun h => ?_) (fun h => ?_)
      · refine v_aload_n dX8_alike_23 rfl (lv_at hl 0 rfl) ?_
        refine v_getR 8 0 h (by decide) rfl qfX8_16 dX8_alike_24 (fun r1 h => ?_)
        exact L_X8_alike_27 N l2 l3 r1 s ls (lv_sub hl [2, 3] rfl) h
      · refine v_aload_n dX8_alike_16 rfl (lv_at hl 0 rfl) ?_
        refine v_getR 8 1 h (by decide) rfl qfX8_20 dX8_alike_17 (fun r2 h => ?_)
        refine v_goto 27 dX8_alike_20 (by decide) ?_
        exact L_X8_alike_27 N l2 l3 r2 s ls (lv_sub hl [2, 3] rfl) h
    · exact L_X8_alike_9 N  s ls (lv_sub hl [] rfl) h
theorem k_X8_alike {X : VX} {cc : ByteArray} {own : String} {nL fr lo : Nat} {ini : Bool} {E : VX → Prop} {sF s : vS} {ρ : Type} {res : ρ} {pc : Nat} {ls : Array Slot} {rest : List Value} {N index : Nat} {a0 : Nat} {l1 : Int32} {l2 : Int32} {l3 : Int32} {f : Int32 → vS → Option ρ} (h : bnd (F_X8_alike N a0 l1 l2 l3 s) f = some res) (hlink : Cond.methodLink own index yX8_alike ∈ TT) (hR : 1 + 1 ≤ fr ∧ 8 + (5 + 11) + 21 ≤ lo) (hls : ls.size = nL) (hr : (rest.map fun v => v.category).sum ≤ 8) (hdg : decode cc pc = .ok (.invokevirtual index, 3)) (kk : ∀ r s', f r s' = some res → V X (cc, own, nL, fr, lo, ini) E sF s' (G0 X (pc + 3) ls (.int r :: rest))) : V X (cc, own, nL, fr, lo, ini) E sF s (G0 X pc ls (.int l3 :: .int l2 :: .int l1 :: .ref (xb X + a0) :: rest)) := by
  obtain ⟨r, s', e, h⟩ := bnd_some h
  exact v_callV (b := a0) (ci := 8) (As := [.int l1, .int l2, .int l3]) (rest := rest) (c_X8_alike X N a0 l1 l2 l3 s s' r e).2 (c_X8_alike (l := xl X) (D := xD X) (ka := xka X) X N a0 l1 l2 l3 s s' r e).1 rfl vl_X8_alike qi_X8_alike qe_X8_alike hlink hR rfl rfl hls hr hdg (kk r s' h)
set_option maxHeartbeats 4000000 in
set_option maxRecDepth 100000 in
theorem L_X8_isPart_14 {X : VX} {sF : vS} {r : Int32} (N : Nat) (k0 : Int32) (s : vS) (ls : Array Slot) (hl : lv_has ls 1 []) (h : J_X8_isPart_14 N k0 s = some (r, sF)) : V X (cX8_isPart, RX8, 1, 0, 0, false) (vRet sF (some (.int r)) (some .boolean)) sF s (G0 X 14 ls [.int k0]) := by
  unfold J_X8_isPart_14 at h
  exact v_zret dX8_isPart_14 h
set_option maxHeartbeats 4000000 in
set_option maxRecDepth 100000 in
theorem L_X8_isPart_9 {X : VX} {sF : vS} {r : Int32} (N : Nat) (s : vS) (ls : Array Slot) (hl : lv_has ls 1 []) (h : J_X8_isPart_9 N  s = some (r, sF)) : V X (cX8_isPart, RX8, 1, 0, 0, false) (vRet sF (some (.int r)) (some .boolean)) sF s (G0 X 9 ls []) := by
  unfold J_X8_isPart_9 at h
  refine v_iconst (1 : Int32) dX8_isPart_9 (by decide) ?_
  refine v_goto 14 dX8_isPart_10 (by decide) ?_
  exact L_X8_isPart_14 N (1 : Int32) s ls (lv_sub hl [] rfl) h
theorem vl_X8_isPart : vCl yX8_isPart cX8_isPart 1 (some .boolean) 1 := ⟨qy_X8_isPart, qjX8, by decide +kernel, by decide +kernel, by decide +kernel⟩
set_option maxHeartbeats 4000000 in
set_option maxRecDepth 100000 in
theorem c_X8_isPart {l : Launch} {D : va_G} {ka : Nat → ClassId} (X0 : VX) (N : Nat) (l0 : Int32) (s sF : vS) (r : Int32) (h : F_X8_isPart N l0 s = some (r, sF)) : vMet l D ka (xb X0) yX8_isPart cX8_isPart 1 (some .boolean) 0 0 [.int l0] s sF (some (.int r)) := by
  unfold F_X8_isPart at h
  refine vMet.of (ini := false) X0 (plainFor_of_name (by decide +kernel)) (Nat.le_of_ble_eq_true rfl) (fun h => by cases h) (fun X ls hb hl => ?_) rfl
  show V X (cX8_isPart, RX8, 1, 0, 0, false) (vRet sF (some (.int r)) (some .boolean)) sF s (G0 X 0 ls [])
  have hl : lv_has ls 1 [(0, .int l0)] := hl
  refine v_iload_n dX8_isPart_0 rfl (lv_at hl 0 rfl) ?_
  refine v_if_eq 9 dX8_isPart_1 (by decide) h (fun h => ?_) (fun h => ?_)
  · exact L_X8_isPart_9 N  s ls (lv_sub hl [] rfl) h
  · refine v_iload_n dX8_isPart_4 rfl (lv_at hl 0 rfl) ?_
    refine v_iconst (1 : Int32) dX8_isPart_5 (by decide) ?_
    refine v_icmp_ne 13 dX8_isPart_6 (by decide) h (fun h => ?_) (fun h => ?_)
    · refine v_iconst (0 : Int32) dX8_isPart_13 (by decide) ?_
      exact L_X8_isPart_14 N (0 : Int32) s ls (lv_sub hl [] rfl) h
    · exact L_X8_isPart_9 N  s ls (lv_sub hl [] rfl) h
theorem k_X8_isPart {X : VX} {cc : ByteArray} {own : String} {nL fr lo : Nat} {ini : Bool} {E : VX → Prop} {sF s : vS} {ρ : Type} {res : ρ} {pc : Nat} {ls : Array Slot} {rest : List Value} {N index : Nat} {l0 : Int32} {f : Int32 → vS → Option ρ} (h : bnd (F_X8_isPart N l0 s) f = some res) (hlink : Cond.methodLink own index yX8_isPart ∈ TT) (hR : 0 + 1 ≤ fr ∧ 8 + (1 + 11) + 0 ≤ lo) (hls : ls.size = nL) (hr : (rest.map fun v => v.category).sum ≤ 8) (hdg : decode cc pc = .ok (.invokestatic index, 3)) (kk : ∀ r s', f r s' = some res → V X (cc, own, nL, fr, lo, ini) E sF s' (G0 X (pc + 3) ls (.int r :: rest))) : V X (cc, own, nL, fr, lo, ini) E sF s (G0 X pc ls (.int l0 :: rest)) := by
  obtain ⟨r, s', e, h⟩ := bnd_some h
  exact v_callS (As := [.int l0]) (rest := rest) (c_X8_isPart X N l0 s s' r e) vl_X8_isPart qs_X8_isPart hlink hR rfl rfl hls hr hdg (kk r s' h)
set_option maxHeartbeats 4000000 in
set_option maxRecDepth 100000 in
theorem L_X8_jointPart_49 {X : VX} {sF : vS} {r : Int64} (N : Nat) (s : vS) (ls : Array Slot) (hl : lv_has ls 6 []) (h : J_X8_jointPart_49 N  s = some (r, sF)) : V X (cX8_jointPart, RX8, 6, 2, 56, false) (vRet sF (some (.long r)) (some .long)) sF s (G0 X 49 ls []) := by
  unfold J_X8_jointPart_49 at h
  refine v_ldc2 qkX8_143 dX8_jointPart_49 ?_
  exact v_lret dX8_jointPart_52 h
theorem vl_X8_jointPart : vCl yX8_jointPart cX8_jointPart 6 (some .long) 5 := ⟨qy_X8_jointPart, qjX8, by decide +kernel, by decide +kernel, by decide +kernel⟩
set_option maxHeartbeats 4000000 in
set_option maxRecDepth 100000 in
theorem c_X8_jointPart {l : Launch} {D : va_G} {ka : Nat → ClassId} (X0 : VX) (N : Nat) (a0 : Nat) (a1 : Nat) (l2 : Int32) (l3 : Int32) (l4 : Int32) (l5 : Int32) (s sF : vS) (r : Int64) (h : F_X8_jointPart N a0 a1 l2 l3 l4 l5 s = some (r, sF)) : isO s a0 8 = true ∧ vMet l D ka (xb X0) yX8_jointPart cX8_jointPart 6 (some .long) 2 56 [.ref (xb X0 + a0), .ref (xb X0 + a1), .int l2, .int l3, .int l4, .int l5] s sF (some (.long r)) := by
  unfold F_X8_jointPart at h
  unfold rcv at h
  obtain ⟨hO, h⟩ := v_chk h
  refine ⟨hO, vMet.of (ini := false) X0 (plainFor_of_name (by decide +kernel)) (Nat.le_of_ble_eq_true rfl) (fun h => by cases h) (fun X ls hb hl => ?_) rfl⟩
  show V X (cX8_jointPart, RX8, 6, 2, 56, false) (vRet sF (some (.long r)) (some .long)) sF s (G0 X 0 ls [])
  rw [← hb] at hl
  have hl : lv_has ls 6 [(0, .ref (xb X + a0)), (1, .ref (xb X + a1)), (2, .int l2), (3, .int l3), (4, .int l4), (5, .int l5)] := hl
  refine v_aload_n dX8_jointPart_0 rfl (lv_at hl 1 rfl) ?_
  refine v_iload_n dX8_jointPart_1 rfl (lv_at hl 2 rfl) ?_
  refine k_X1_has h qmX8_86 (by decide) hl.1 (Nat.le_of_ble_eq_true rfl) dX8_jointPart_2 (fun v1 s h => ?_)
  refine v_if_eq 49 dX8_jointPart_5 (by decide) h (fun h => ?_) (fun h => ?_)
  · exact L_X8_jointPart_49 N  s ls (lv_sub hl [] rfl) h
  · refine v_aload_n dX8_jointPart_8 rfl (lv_at hl 1 rfl) ?_
    refine v_iload_n dX8_jointPart_9 rfl (lv_at hl 3 rfl) ?_
    refine k_X1_has h qmX8_86 (by decide) hl.1 (Nat.le_of_ble_eq_true rfl) dX8_jointPart_10 (fun v2 s h => ?_)
    refine v_if_eq 49 dX8_jointPart_13 (by decide) h (fun h => ?_) (fun h => ?_)
    · exact L_X8_jointPart_49 N  s ls (lv_sub hl [] rfl) h
    · refine v_aload_n dX8_jointPart_16 rfl (lv_at hl 1 rfl) ?_
      refine v_iload dX8_jointPart_17 (lv_at hl 4 rfl) ?_
      refine k_X1_has h qmX8_86 (by decide) hl.1 (Nat.le_of_ble_eq_true rfl) dX8_jointPart_19 (fun v3 s h => ?_)
      refine v_if_eq 49 dX8_jointPart_22 (by decide) h (fun h => ?_) (fun h => ?_)
      · exact L_X8_jointPart_49 N  s ls (lv_sub hl [] rfl) h
      · refine v_iload dX8_jointPart_25 (lv_at hl 5 rfl) ?_
        refine k_X8_isPart h qmX8_136 (by decide) hl.1 (Nat.le_of_ble_eq_true rfl) dX8_jointPart_27 (fun v4 s h => ?_)
        refine v_if_eq 49 dX8_jointPart_30 (by decide) h (fun h => ?_) (fun h => ?_)
        · exact L_X8_jointPart_49 N  s ls (lv_sub hl [] rfl) h
        · refine v_aload_n dX8_jointPart_33 rfl (lv_at hl 1 rfl) ?_
          refine v_getR 1 3 h (by decide) rfl qfX8_90 dX8_jointPart_34 (fun r5 h => ?_)
          refine v_iload dX8_jointPart_37 (lv_at hl 4 rfl) ?_
          refine v_iald dX8_jointPart_39 h (fun v6 h => ?_)
          refine v_aload_n dX8_jointPart_40 rfl (lv_at hl 1 rfl) ?_
          refine v_iload_n dX8_jointPart_41 rfl (lv_at hl 2 rfl) ?_
          refine v_iload_n dX8_jointPart_42 rfl (lv_at hl 3 rfl) ?_
          refine k_X1_sizeOfBoth h qmX8_139 (by decide) hl.1 (Nat.le_of_ble_eq_true rfl) dX8_jointPart_43 (fun v7 s h => ?_)
          refine v_icmp_ge 53 dX8_jointPart_46 (by decide) h (fun h => ?_) (fun h => ?_)
          · refine v_aload_n dX8_jointPart_53 rfl (lv_at hl 0 rfl) ?_
            refine v_getR 8 5 h (by decide) rfl qfX8_51 dX8_jointPart_54 (fun r8 h => ?_)
            refine v_aload_n dX8_jointPart_57 rfl (lv_at hl 1 rfl) ?_
            refine v_iload_n dX8_jointPart_58 rfl (lv_at hl 2 rfl) ?_
            refine v_iload_n dX8_jointPart_59 rfl (lv_at hl 3 rfl) ?_
            refine v_iload dX8_jointPart_60 (lv_at hl 4 rfl) ?_
            refine k_X1_jointsIn h qmX8_145 (by decide) hl.1 (Nat.le_of_ble_eq_true rfl) dX8_jointPart_62 (fun v9 s h => ?_)
            refine v_i2l dX8_jointPart_65 ?_
            refine v_aload_n dX8_jointPart_66 rfl (lv_at hl 1 rfl) ?_
            refine v_iload_n dX8_jointPart_67 rfl (lv_at hl 2 rfl) ?_
            refine v_iload_n dX8_jointPart_68 rfl (lv_at hl 3 rfl) ?_
            refine v_iload dX8_jointPart_69 (lv_at hl 4 rfl) ?_
            refine k_X1_pairsIn h qmX8_149 (by decide) hl.1 (Nat.le_of_ble_eq_true rfl) dX8_jointPart_71 (fun v10 s h => ?_)
            refine v_i2l dX8_jointPart_74 ?_
            refine k_X2_become h qmX8_152 (by decide) hl.1 (Nat.le_of_ble_eq_true rfl) dX8_jointPart_75 (fun v11 s h => ?_)
            refine v_aload_n dX8_jointPart_78 rfl (lv_at hl 0 rfl) ?_
            refine v_getR 8 5 h (by decide) rfl qfX8_51 dX8_jointPart_79 (fun r12 h => ?_)
            refine v_iload dX8_jointPart_82 (lv_at hl 5 rfl) ?_
            refine k_X2_part h qmX8_156 (by decide) hl.1 (Nat.le_of_ble_eq_true rfl) dX8_jointPart_84 (fun v13 s h => ?_)
            exact v_lret dX8_jointPart_87 h
          · exact L_X8_jointPart_49 N  s ls (lv_sub hl [] rfl) h
theorem k_X8_jointPart {X : VX} {cc : ByteArray} {own : String} {nL fr lo : Nat} {ini : Bool} {E : VX → Prop} {sF s : vS} {ρ : Type} {res : ρ} {pc : Nat} {ls : Array Slot} {rest : List Value} {N index : Nat} {a0 : Nat} {a1 : Nat} {l2 : Int32} {l3 : Int32} {l4 : Int32} {l5 : Int32} {f : Int64 → vS → Option ρ} (h : bnd (F_X8_jointPart N a0 a1 l2 l3 l4 l5 s) f = some res) (hlink : Cond.methodLink own index yX8_jointPart ∈ TT) (hR : 2 + 1 ≤ fr ∧ 8 + (6 + 11) + 56 ≤ lo) (hls : ls.size = nL) (hr : (rest.map fun v => v.category).sum ≤ 8) (hdg : decode cc pc = .ok (.invokevirtual index, 3)) (kk : ∀ r s', f r s' = some res → V X (cc, own, nL, fr, lo, ini) E sF s' (G0 X (pc + 3) ls (.long r :: rest))) : V X (cc, own, nL, fr, lo, ini) E sF s (G0 X pc ls (.int l5 :: .int l4 :: .int l3 :: .int l2 :: .ref (xb X + a1) :: .ref (xb X + a0) :: rest)) := by
  obtain ⟨r, s', e, h⟩ := bnd_some h
  exact v_callV (b := a0) (ci := 8) (As := [.ref (xb X + a1), .int l2, .int l3, .int l4, .int l5]) (rest := rest) (c_X8_jointPart X N a0 a1 l2 l3 l4 l5 s s' r e).2 (c_X8_jointPart (l := xl X) (D := xD X) (ka := xka X) X N a0 a1 l2 l3 l4 l5 s s' r e).1 rfl vl_X8_jointPart qi_X8_jointPart qe_X8_jointPart hlink hR rfl rfl hls hr hdg (kk r s' h)
theorem vl_X8_inside : vCl yX8_inside cX8_inside 4 (some .long) 3 := ⟨qy_X8_inside, qjX8, by decide +kernel, by decide +kernel, by decide +kernel⟩
set_option maxHeartbeats 4000000 in
set_option maxRecDepth 100000 in
theorem c_X8_inside {l : Launch} {D : va_G} {ka : Nat → ClassId} (X0 : VX) (N : Nat) (a0 : Nat) (l1 : Int32) (l2 : Int32) (l3 : Int32) (s sF : vS) (r : Int64) (h : F_X8_inside N a0 l1 l2 l3 s = some (r, sF)) : isO s a0 8 = true ∧ vMet l D ka (xb X0) yX8_inside cX8_inside 4 (some .long) 3 81 [.ref (xb X0 + a0), .int l1, .int l2, .int l3] s sF (some (.long r)) := by
  unfold F_X8_inside at h
  unfold rcv at h
  obtain ⟨hO, h⟩ := v_chk h
  refine ⟨hO, vMet.of (ini := false) X0 (plainFor_of_name (by decide +kernel)) (Nat.le_of_ble_eq_true rfl) (fun h => by cases h) (fun X ls hb hl => ?_) rfl⟩
  show V X (cX8_inside, RX8, 4, 3, 81, false) (vRet sF (some (.long r)) (some .long)) sF s (G0 X 0 ls [])
  rw [← hb] at hl
  have hl : lv_has ls 4 [(0, .ref (xb X + a0)), (1, .int l1), (2, .int l2), (3, .int l3)] := hl
  refine v_aload_n dX8_inside_0 rfl (lv_at hl 0 rfl) ?_
  refine v_aload_n dX8_inside_1 rfl (lv_at hl 0 rfl) ?_
  refine v_getR 8 0 h (by decide) rfl qfX8_16 dX8_inside_2 (fun r1 h => ?_)
  refine v_iconst (0 : Int32) dX8_inside_5 (by decide) ?_
  refine v_iload_n dX8_inside_6 rfl (lv_at hl 1 rfl) ?_
  refine v_iload_n dX8_inside_7 rfl (lv_at hl 2 rfl) ?_
  refine v_iload_n dX8_inside_8 rfl (lv_at hl 3 rfl) ?_
  refine k_X8_jointPart h qmX8_132 (by decide) hl.1 (Nat.le_of_ble_eq_true rfl) dX8_inside_9 (fun v2 s h => ?_)
  exact v_lret dX8_inside_12 h
