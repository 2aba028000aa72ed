def s0 : vS := ((0, 0), fun _ => (0, 0), fun _ _ => 0, fun _ _ => 0, fun _ _ => none)
theorem tbl_at {w : Cond} (i : Nat) (h : lw_tbl[i]? = some w) : w ∈ lw_tbl := List.mem_of_getElem? h
theorem vkn_start {args : Array Value} {s : State} (hts : ∀ w ∈ lw_tbl, w.before args s = true) : ∃ (D : va_G) (ka : Nat → ClassId), vKn D ka s := by
  have htt : ∀ w ∈ TT, w.before args s = true := fun w h => hts w (tt_sub h)
  have hcls : ∀ ci, ci < 10 → ∃ (cC : ClassId) (iS : Nat → Nat), u_Kn s (vC ci) (vT ci) (vN ci) cC iS := by
    intro ci hc
    match ci, hc with
    | 0, _ => exact u_known (n := 8) htt (vin_ok 0 (by decide)) (hts _ (tbl_at 253 (by decide +kernel)))
    | 1, _ => exact u_known (n := 13) htt (vin_ok 1 (by decide)) (hts _ (tbl_at 100 (by decide +kernel)))
    | 2, _ => exact u_known (n := 2) htt (vin_ok 2 (by decide)) (hts _ (tbl_at 287 (by decide +kernel)))
    | 3, _ => exact u_known (n := 3) htt (vin_ok 3 (by decide)) (hts _ (tbl_at 143 (by decide +kernel)))
    | 4, _ => exact u_known (n := 4) htt (vin_ok 4 (by decide)) (hts _ (tbl_at 399 (by decide +kernel)))
    | 5, _ => exact u_known (n := 2) htt (vin_ok 5 (by decide)) (hts _ (tbl_at 429 (by decide +kernel)))
    | 6, _ => exact u_known (n := 3) htt (vin_ok 6 (by decide)) (hts _ (tbl_at 259 (by decide +kernel)))
    | 7, _ => exact u_known (n := 14) htt (vin_ok 7 (by decide)) (hts _ (tbl_at 343 (by decide +kernel)))
    | 8, _ => exact u_known (n := 12) htt (vin_ok 8 (by decide)) (hts _ (tbl_at 92 (by decide +kernel)))
    | 9, _ => exact u_known (n := 44) htt (vin_ok 9 (by decide)) (hts _ (tbl_at 920 (by decide +kernel)))
  have harr : ∀ kd, 1 ≤ kd → kd ≤ 6 → ∃ cA : ClassId, ArrOfT s cA (kty kd) ∧ va_RA s cA (kty kd) := by
    intro kd h1 h2
    match kd, h1, h2 with
    | 1, _, _ =>
      obtain ⟨c, k, comp, f1, f2, f3⟩ := Cond.arrayClass_spec (hts (Cond.arrayClass .int) (tbl_at 162 (by decide +kernel)))
      exact ⟨c, fun n z => ⟨(fun k h => by cases h), k, f2, comp, f3⟩, f1⟩
    | 2, _, _ =>
      obtain ⟨c, k, comp, f1, f2, f3⟩ := Cond.arrayClass_spec (hts (Cond.arrayClass .long) (tbl_at 285 (by decide +kernel)))
      exact ⟨c, fun n z => ⟨(fun k h => by cases h), k, f2, comp, f3⟩, f1⟩
    | 3, _, _ =>
      obtain ⟨c, k, comp, f1, f2, f3⟩ := Cond.arrayClass_spec (hts (Cond.arrayClass .boolean) (tbl_at 445 (by decide +kernel)))
      exact ⟨c, fun n z => ⟨(fun k h => by cases h), k, f2, comp, f3⟩, f1⟩
    | 4, _, _ =>
      obtain ⟨comp, c, k, f1, -, f2, f3, f4⟩ := Cond.arrayOver_spec (hts (Cond.arrayOver (.object RX3)) (tbl_at 114 (by decide +kernel)))
      exact ⟨c, fun n z => ⟨(fun k h => by cases h), k, f2, comp, f3⟩, k, comp, f2, f3, f1, f4⟩
    | 5, _, _ =>
      obtain ⟨comp, c, k, f1, -, f2, f3, f4⟩ := Cond.arrayOver_spec (hts (Cond.arrayOver (.object RX6)) (tbl_at 405 (by decide +kernel)))
      exact ⟨c, fun n z => ⟨(fun k h => by cases h), k, f2, comp, f3⟩, k, comp, f2, f3, f1, f4⟩
    | 6, _, _ =>
      obtain ⟨comp, c, k, f1, -, f2, f3, f4⟩ := vAOI_spec (vAOI.of (hts (Cond.arrayOver (.array .int)) (tbl_at 106 (by decide +kernel))))
      exact ⟨c, fun n z => ⟨(fun k h => by cases h), k, f2, comp, f3⟩, f4⟩
  refine ⟨(fun ci => if h : ci < 10 then (hcls ci h).choose else 0, fun ci => if h : ci < 10 then (hcls ci h).choose_spec.choose else fun _ => 0), fun kd => if h : 1 ≤ kd ∧ kd ≤ 6 then (harr kd h.1 h.2).choose else 0, fun ci hc => ?_, fun kd h1 h2 => ?_, fun w hw => ?_, va_AO.of (hts (Cond.arrayOver (.object RX3)) (tbl_at 114 (by decide +kernel))), va_AO.of (hts (Cond.arrayOver (.object RX6)) (tbl_at 405 (by decide +kernel))), vAOI.of (hts (Cond.arrayOver (.array .int)) (tbl_at 106 (by decide +kernel)))⟩
  · dsimp only
    rw [dif_pos hc, dif_pos hc]
    exact (hcls ci hc).choose_spec.choose_spec
  · dsimp only
    rw [dif_pos ⟨h1, h2⟩]
    exact (harr kd h1 h2).choose_spec
  · simp only [nestW, List.mem_cons, List.not_mem_nil, or_false] at hw
    rcases hw with rfl | rfl | rfl | rfl | rfl
    · exact va_Nw.of rfl (hts _ (tbl_at 144 (by decide +kernel)))
    · exact va_Nw.of rfl (hts _ (tbl_at 288 (by decide +kernel)))
    · exact va_Nw.of rfl (hts _ (tbl_at 407 (by decide +kernel)))
    · exact va_Nw.of rfl (hts _ (tbl_at 423 (by decide +kernel)))
    · exact va_Nw.of rfl (hts _ (tbl_at 427 (by decide +kernel)))
