set_option maxHeartbeats 4000000 in
set_option maxRecDepth 100000 in
theorem L_L_law {X : VX} {sF : vS} {b L : Nat} {xss : Nat → Int32} (N : Nat) (s : vS) (ls : Array Slot) (hl : lv_has ls 4 [(0, .ref b)]) (h : F_L_law N L xss s = some ((1 : Int32), sF)) : V X (cL_law, RL, 4, 12, 532, false) (vLaw b L xss) sF s (G0 X 0 ls []) := by
  unfold F_L_law at h
  refine v_new 8 h (by decide) qcL_7 qnX8 qjX8 dL_law_0 (fun q1 s h => ?_)
  refine v_dup dL_law_3 rfl ?_
  refine k_X8_init h qmL_9 (by decide) hl.1 (Nat.le_of_ble_eq_true rfl) dL_law_4 (fun v2 s h => ?_)
  refine v_astore_n [(1, .ref (xb X + q1)), (0, .ref b)] dL_law_7 rfl hl (by decide) rfl (fun ls hl => ?_)
  refine v_new 9 h (by decide) qcL_10 qnX9 qjX9 dL_law_8 (fun q3 s h => ?_)
  refine v_dup dL_law_11 rfl ?_
  refine k_X9_init h qmL_12 (by decide) hl.1 (Nat.le_of_ble_eq_true rfl) dL_law_12 (fun v4 s h => ?_)
  refine v_astore_n [(2, .ref (xb X + q3)), (1, .ref (xb X + q1)), (0, .ref b)] dL_law_15 rfl hl (by decide) rfl (fun ls hl => ?_)
  refine v_iconst (0 : Int32) dL_law_16 (by decide) ?_
  refine v_istore_n [(3, .int (0 : Int32)), (2, .ref (xb X + q3)), (1, .ref (xb X + q1)), (0, .ref b)] dL_law_17 rfl hl (by decide) rfl (fun ls hl => ?_)
  exact L_L_law_18 N N q1 q3 (0 : Int32) s ls (lv_sub hl [3, 2, 1, 0] rfl) h
