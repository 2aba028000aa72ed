section UROWS
theorem u_J_X9_number_54 {N : Nat} {k0 : Int32} {s : vS} : J_X9_number_54 N k0 s = (some (k0, s)) := rfl
theorem u_J_X9_number_45 {N : Nat} {l1 : Int32} {l2 : Int32} {s : vS} : J_X9_number_45 N l1 l2 s = (if l2 = (0 : Int32) then (J_X9_number_54 N (-1 : Int32) s) else (J_X9_number_54 N l1 s)) := rfl
theorem u_H_X9_number_4 {N : Nat} {n : Nat} {a0 : Nat} {l1 : Int32} {l2 : Int32} {s : vS} : H_X9_number_4 N (n + 1) a0 l1 l2 s = (if (3 : Int32) ≤ l2 then (J_X9_number_45 N l1 l2 s) else (bnd (F_X9_isFigure N a0 s) (fun v1 s => if v1 = (0 : Int32) then (J_X9_number_45 N l1 l2 s) else (bnd (F_X9_here N a0 s) (fun v2 s => nm (((((10 : Int32) * l1) + v2) - (48 : Int32))) (fun l1_3 => ldI s a0 9 29 (fun v4 => stI s a0 9 29 (v4 + (1 : Int32)) (fun s => nm (l2 + (1 : Int32)) (fun l2_5 => H_X9_number_4 N n a0 l1_3 l2_5 s))))))))) := rfl
theorem u_F_X9_number {N : Nat} {a0 : Nat} {s : vS} : F_X9_number N a0 s = (rcv s a0 9 (H_X9_number_4 N N a0 (0 : Int32) (0 : Int32) s)) := rfl
theorem u_J_X9_isNetwork_266 {N : Nat} {a0 : Nat} {l1 : Int32} {l2 : Int32} {k0 : Int32} {s : vS} : J_X9_isNetwork_266 N a0 l1 l2 k0 s = (bnd (F_X9_add N a0 l1 l2 k0 (0 : Int32) s) (fun v17 s => rtZ (1 : Int32) s)) := rfl
theorem u_J_X9_isNetwork_220 {N : Nat} {a0 : Nat} {l1 : Int32} {l2 : Int32} {l4 : Int32} {l5 : Int32} {k0 : Int32} {s : vS} : J_X9_isNetwork_220 N a0 l1 l2 l4 l5 k0 s = (if k0 = (0 : Int32) then (J_X9_isNetwork_266 N a0 l1 l2 (-1 : Int32) s) else (if l1 = (91 : Int32) then (ldR s a0 9 2 (fun r15 => alI s r15 (((64 : Int32) * l4) + l5) (fun v16 => J_X9_isNetwork_266 N a0 l1 l2 v16 s))) else (ldR s a0 9 3 (fun r13 => alI s r13 (((64 : Int32) * l4) + l5) (fun v14 => J_X9_isNetwork_266 N a0 l1 l2 v14 s))))) := rfl
theorem u_J_X9_isNetwork_219 {N : Nat} {a0 : Nat} {l1 : Int32} {l2 : Int32} {l4 : Int32} {l5 : Int32} {s : vS} : J_X9_isNetwork_219 N a0 l1 l2 l4 l5 s = (J_X9_isNetwork_220 N a0 l1 l2 l4 l5 (0 : Int32) s) := rfl
theorem u_J_X9_isNetwork_191 {N : Nat} {s : vS} : J_X9_isNetwork_191 N s = (rtZ (0 : Int32) s) := rfl
theorem u_J_X9_isNetwork_188 {N : Nat} {a0 : Nat} {l1 : Int32} {l2 : Int32} {l3 : Int32} {l4 : Int32} {l5 : Int32} {l7 : Int32} {k0 : Int32} {k1 : Int32} {s : vS} : J_X9_isNetwork_188 N a0 l1 l2 l3 l4 l5 l7 k0 k1 s = (if k0 = k1 then (ldI s a0 9 29 (fun v11 => stI s a0 9 29 (v11 + (1 : Int32)) (fun s => if l7 = (0 : Int32) then (J_X9_isNetwork_219 N a0 l1 l2 l4 l5 s) else (nzI (2 : Int32) (if (l3 - l3 / (2 : Int32) * (2 : Int32)) = (1 : Int32) then (J_X9_isNetwork_220 N a0 l1 l2 l4 l5 (1 : Int32) s) else (J_X9_isNetwork_219 N a0 l1 l2 l4 l5 s)))))) else (J_X9_isNetwork_191 N  s)) := rfl
theorem u_J_X9_isNetwork_167 {N : Nat} {a0 : Nat} {l1 : Int32} {l2 : Int32} {l3 : Int32} {l4 : Int32} {l5 : Int32} {l7 : Int32} {s : vS} : J_X9_isNetwork_167 N a0 l1 l2 l3 l4 l5 l7 s = (if l3 = (0 : Int32) then (J_X9_isNetwork_191 N  s) else (bnd (F_X9_here N a0 s) (fun v6 s => if l1 = (91 : Int32) then (J_X9_isNetwork_188 N a0 l1 l2 l3 l4 l5 l7 v6 (93 : Int32) s) else (J_X9_isNetwork_188 N a0 l1 l2 l3 l4 l5 l7 v6 (62 : Int32) s)))) := rfl
theorem u_J_X9_isNetwork_151 {N : Nat} {k29 : Nat → Int32 → Int32 → Int32 → Int32 → Int32 → Int32 → Int32 → vS → Option (Int32 × vS)} {a0 : Nat} {l1 : Int32} {l2 : Int32} {l3 : Int32} {l4 : Int32} {l5 : Int32} {l6 : Int32} {l7 : Int32} {s : vS} : J_X9_isNetwork_151 N k29 a0 l1 l2 l3 l4 l5 l6 l7 s = (ldI s a0 9 29 (fun v8 => stI s a0 9 29 (v8 + (1 : Int32)) (fun s => nm (l3 + (1 : Int32)) (fun l3_9 => k29 a0 l1 l2 l3_9 l4 l5 l6 l7 s)))) := rfl
theorem u_J_X9_isNetwork_148 {N : Nat} {k29 : Nat → Int32 → Int32 → Int32 → Int32 → Int32 → Int32 → Int32 → vS → Option (Int32 × vS)} {a0 : Nat} {l1 : Int32} {l2 : Int32} {l3 : Int32} {l4 : Int32} {l6 : Int32} {l7 : Int32} {k0 : Int32} {k1 : Int32} {s : vS} : J_X9_isNetwork_148 N k29 a0 l1 l2 l3 l4 l6 l7 k0 k1 s = (nm ((k0 ||| k1)) (fun l5_12 => J_X9_isNetwork_151 N k29 a0 l1 l2 l3 l4 l5_12 l6 l7 s)) := rfl
theorem u_J_X9_isNetwork_126 {N : Nat} {k29 : Nat → Int32 → Int32 → Int32 → Int32 → Int32 → Int32 → Int32 → vS → Option (Int32 × vS)} {a0 : Nat} {l1 : Int32} {l2 : Int32} {l3 : Int32} {l4 : Int32} {l5 : Int32} {l6 : Int32} {l8 : Int32} {k0 : Int32} {s : vS} : J_X9_isNetwork_126 N k29 a0 l1 l2 l3 l4 l5 l6 l8 k0 s = (if k0 = (0 : Int32) then (J_X9_isNetwork_148 N k29 a0 l1 l2 l3 l4 l6 k0 l5 (0 : Int32) s) else (bnd (F_X9_bit N l6 l8 s) (fun v7 s => J_X9_isNetwork_148 N k29 a0 l1 l2 l3 l4 l6 k0 l5 ((1 : Int32) <<< (v7 &&& 31)) s))) := rfl
theorem u_J_X9_isNetwork_125 {N : Nat} {k29 : Nat → Int32 → Int32 → Int32 → Int32 → Int32 → Int32 → Int32 → vS → Option (Int32 × vS)} {a0 : Nat} {l1 : Int32} {l2 : Int32} {l3 : Int32} {l4 : Int32} {l5 : Int32} {l6 : Int32} {l8 : Int32} {s : vS} : J_X9_isNetwork_125 N k29 a0 l1 l2 l3 l4 l5 l6 l8 s = (J_X9_isNetwork_126 N k29 a0 l1 l2 l3 l4 l5 l6 l8 (0 : Int32) s) := rfl
theorem u_J_X9_isNetwork_72 {N : Nat} {k29 : Nat → Int32 → Int32 → Int32 → Int32 → Int32 → Int32 → Int32 → vS → Option (Int32 × vS)} {a0 : Nat} {l1 : Int32} {l2 : Int32} {l3 : Int32} {l4 : Int32} {l5 : Int32} {l6 : Int32} {k0 : Int32} {k1 : Int32} {s : vS} : J_X9_isNetwork_72 N k29 a0 l1 l2 l3 l4 l5 l6 k0 k1 s = (bnd (F_X9_in N k0 k1 (4 : Int32) s) (fun v10 s => J_X9_isNetwork_151 N k29 a0 l1 l2 l3 l4 l5 l6 v10 s)) := rfl
theorem u_H_X9_isNetwork_29 {N : Nat} {n : Nat} {a0 : Nat} {l1 : Int32} {l2 : Int32} {l3 : Int32} {l4 : Int32} {l5 : Int32} {l6 : Int32} {l7 : Int32} {s : vS} : H_X9_isNetwork_29 N (n + 1) a0 l1 l2 l3 l4 l5 l6 l7 s = (if (9 : Int32) ≤ l3 then (J_X9_isNetwork_167 N a0 l1 l2 l3 l4 l5 l7 s) else (bnd (F_X9_isFigure N a0 s) (fun v3 s => if v3 = (0 : Int32) then (J_X9_isNetwork_167 N a0 l1 l2 l3 l4 l5 l7 s) else (bnd (F_X9_here N a0 s) (fun v4 s => nm ((v4 - (48 : Int32))) (fun l8_5 => if l3 = (0 : Int32) then (if l1 = (91 : Int32) then (J_X9_isNetwork_72 N (H_X9_isNetwork_29 N n) a0 l1 l2 l3 l8_5 l5 l6 l8_5 (0 : Int32) s) else (J_X9_isNetwork_72 N (H_X9_isNetwork_29 N n) a0 l1 l2 l3 l8_5 l5 l6 l8_5 (1 : Int32) s)) else (nzI (2 : Int32) (if (l3 - l3 / (2 : Int32) * (2 : Int32)) = (1 : Int32) then (J_X9_isNetwork_151 N (H_X9_isNetwork_29 N n) a0 l1 l2 l3 l4 l5 l8_5 l7 s) else (if l7 = (0 : Int32) then (J_X9_isNetwork_125 N (H_X9_isNetwork_29 N n) a0 l1 l2 l3 l4 l5 l6 l8_5 s) else (if l8_5 = l6 then (J_X9_isNetwork_125 N (H_X9_isNetwork_29 N n) a0 l1 l2 l3 l4 l5 l6 l8_5 s) else (if l4 ≤ l8_5 then (J_X9_isNetwork_125 N (H_X9_isNetwork_29 N n) a0 l1 l2 l3 l4 l5 l6 l8_5 s) else (if l4 ≤ l6 then (J_X9_isNetwork_125 N (H_X9_isNetwork_29 N n) a0 l1 l2 l3 l4 l5 l6 l8_5 s) else (J_X9_isNetwork_126 N (H_X9_isNetwork_29 N n) a0 l1 l2 l3 l4 l5 l6 l8_5 (1 : Int32) s))))))))))))) := rfl
theorem u_F_X9_isNetwork {N : Nat} {a0 : Nat} {l1 : Int32} {s : vS} : F_X9_isNetwork N a0 l1 s = (rcv s a0 9 (ldI s a0 9 29 (fun v1 => ldI s a0 9 29 (fun v2 => stI s a0 9 29 (v2 + (1 : Int32)) (fun s => H_X9_isNetwork_29 N N a0 l1 v1 (0 : Int32) (0 : Int32) (0 : Int32) (0 : Int32) (1 : Int32) s))))) := rfl
theorem u_J_X9_isOne_115 {N : Nat} {k0 : Int32} {s : vS} : J_X9_isOne_115 N k0 s = (rtZ k0 s) := rfl
theorem u_J_X9_isOne_114 {N : Nat} {s : vS} : J_X9_isOne_114 N s = (J_X9_isOne_115 N (0 : Int32) s) := rfl
theorem u_J_X9_isOne_88 {N : Nat} {a0 : Nat} {l1 : Int32} {s : vS} : J_X9_isOne_88 N a0 l1 s = (bnd (F_X9_isNetwork N a0 l1 s) (fun v12 s => J_X9_isOne_115 N v12 s)) := rfl
theorem u_J_X9_isOne_17 {N : Nat} {k5 : Nat → Int32 → vS → Option (Int32 × vS)} {a0 : Nat} {l1 : Int32} {s : vS} : J_X9_isOne_17 N k5 a0 l1 s = (ldI s a0 9 35 (fun v4 => if v4 = (3 : Int32) then (rtZ (0 : Int32) s) else (ldR s a0 9 36 (fun r5 => ldI s a0 9 35 (fun v6 => asI s r5 v6 l1 (fun s => ldI s a0 9 35 (fun v7 => stI s a0 9 35 (v7 + (1 : Int32)) (fun s => ldI s a0 9 29 (fun v8 => bnd (F_X9_add N a0 l1 v8 (0 : Int32) (0 : Int32) s) (fun v9 s => ldI s a0 9 29 (fun v10 => stI s a0 9 29 (v10 + (1 : Int32)) (fun s => bnd (F_X9_here N a0 s) (fun v11 s => k5 a0 v11 s))))))))))))) := rfl
theorem u_H_X9_isOne_5 {N : Nat} {n : Nat} {a0 : Nat} {l1 : Int32} {s : vS} : H_X9_isOne_5 N (n + 1) a0 l1 s = (if l1 = (40 : Int32) then (J_X9_isOne_17 N (H_X9_isOne_5 N n) a0 l1 s) else (if l1 = (123 : Int32) then (J_X9_isOne_17 N (H_X9_isOne_5 N n) a0 l1 s) else (if l1 = (91 : Int32) then (J_X9_isOne_88 N a0 l1 s) else (if l1 = (60 : Int32) then (J_X9_isOne_88 N a0 l1 s) else (bnd (F_X9_isFigure N a0 s) (fun v2 s => if v2 = (0 : Int32) then (J_X9_isOne_114 N  s) else (bnd (F_X9_isFraction N a0 s) (fun v3 s => if v3 = (0 : Int32) then (J_X9_isOne_114 N  s) else (J_X9_isOne_115 N (1 : Int32) s))))))))) := rfl
theorem u_F_X9_isOne {N : Nat} {a0 : Nat} {s : vS} : F_X9_isOne N a0 s = (rcv s a0 9 (bnd (F_X9_here N a0 s) (fun v1 s => H_X9_isOne_5 N N a0 v1 s))) := rfl
theorem u_J_X9_isText_165 {N : Nat} {k24 : Nat → vS → Option (Int32 × vS)} {a0 : Nat} {s : vS} : J_X9_isText_165 N k24 a0 s = (k24 a0 s) := rfl
theorem u_J_X9_isText_163 {N : Nat} {s : vS} : J_X9_isText_163 N s = (rtZ (0 : Int32) s) := rfl
theorem u_J_X9_isText_126 {N : Nat} {k24 : Nat → vS → Option (Int32 × vS)} {a0 : Nat} {l1 : Int32} {k0 : Int32} {k1 : Int32} {s : vS} : J_X9_isText_126 N k24 a0 l1 k0 k1 s = (if k0 = k1 then (ldI s a0 9 35 (fun v14 => stI s a0 9 35 (v14 - (1 : Int32)) (fun s => ldI s a0 9 29 (fun v15 => bnd (F_X9_add N a0 l1 v15 (0 : Int32) (0 : Int32) s) (fun v16 s => ldI s a0 9 29 (fun v17 => stI s a0 9 29 (v17 + (1 : Int32)) (fun s => J_X9_isText_165 N k24 a0 s))))))) else (J_X9_isText_163 N  s)) := rfl
theorem u_J_X9_isText_65 {N : Nat} {k24 : Nat → vS → Option (Int32 × vS)} {a0 : Nat} {l1 : Int32} {s : vS} : J_X9_isText_65 N k24 a0 l1 s = (ldI s a0 9 29 (fun v10 => bnd (F_X9_add N a0 l1 v10 (0 : Int32) (0 : Int32) s) (fun v11 s => ldI s a0 9 29 (fun v12 => stI s a0 9 29 (v12 + (1 : Int32)) (fun s => bnd (F_X9_isOne N a0 s) (fun v13 s => if v13 = (0 : Int32) then (rtZ (0 : Int32) s) else (J_X9_isText_165 N k24 a0 s))))))) := rfl
theorem u_J_X9_isText_42 {N : Nat} {k24 : Nat → vS → Option (Int32 × vS)} {a0 : Nat} {s : vS} : J_X9_isText_42 N k24 a0 s = (bnd (F_X9_here N a0 s) (fun v5 s => if v5 = (43 : Int32) then (J_X9_isText_65 N k24 a0 v5 s) else (if v5 = (45 : Int32) then (J_X9_isText_65 N k24 a0 v5 s) else (if v5 = (42 : Int32) then (J_X9_isText_65 N k24 a0 v5 s) else (ldI s a0 9 35 (fun v6 => if v6 ≤ (0 : Int32) then (J_X9_isText_163 N  s) else (ldR s a0 9 36 (fun r7 => ldI s a0 9 35 (fun v8 => alI s r7 (v8 - (1 : Int32)) (fun v9 => if v9 = (40 : Int32) then (J_X9_isText_126 N k24 a0 v5 v5 (41 : Int32) s) else (J_X9_isText_126 N k24 a0 v5 v5 (125 : Int32) s))))))))))) := rfl
theorem u_H_X9_isText_24 {N : Nat} {n : Nat} {a0 : Nat} {s : vS} : H_X9_isText_24 N (n + 1) a0 s = (ldI s a0 9 29 (fun v2 => ldI s a0 9 13 (fun v3 => if v2 < v3 then (J_X9_isText_42 N (H_X9_isText_24 N n) a0 s) else (ldI s a0 9 35 (fun v4 => if v4 ≤ (0 : Int32) then (rtZ (1 : Int32) s) else (J_X9_isText_42 N (H_X9_isText_24 N n) a0 s)))))) := rfl
theorem u_F_X9_isText {N : Nat} {a0 : Nat} {s : vS} : F_X9_isText N a0 s = (rcv s a0 9 (stI s a0 9 29 (0 : Int32) (fun s => stI s a0 9 30 (0 : Int32) (fun s => stI s a0 9 35 (0 : Int32) (fun s => bnd (F_X9_isOne N a0 s) (fun v1 s => if v1 = (0 : Int32) then (rtZ (0 : Int32) s) else (H_X9_isText_24 N N a0 s))))))) := rfl
end UROWS
section RD6
variable {N z a : Nat} {t : Nat → Nat} {m m' : vM} {s : vS}
/-! the model reads -/
def TpM (m : vM) (z : Nat) (t : Nat → Nat) : Prop := z ≤ 60 ∧ rI m 322 13 = nI z ∧ ∀ i, i < z → t i < 128 ∧ rI m 334 i = nI (t i)
def mqP (b j : Nat) : Prop := (b = 322 ∧ (j = 29 ∨ j = 30 ∨ j = 35)) ∨ (344 ≤ b ∧ b ≤ 348)
def atP (b j : Nat) : Prop := b = 322 ∧ j = 29
theorem at_mq {b j : Nat} (h : atP b j) : mqP b j := by
  unfold atP at h
  unfold mqP
  omega
theorem TpM.fr (h : TpM m z t) (f : Fr mqP m m') : TpM m' z t := ⟨h.1, by rw [f.i (by unfold mqP; omega)]; exact h.2.1, fun i hi => by rw [f.i (by unfold mqP; omega)]; exact h.2.2 i hi⟩
def hr (t : Nat → Nat) (z a : Nat) : Int32 := if a < z then nI (t a) else -1
theorem m_here (hT : TpM m z t) (ha : a ≤ z) (h9 : rI m 322 29 = nI a) : F_X9_here N 322 (S m) = some (hr t z a, S m) := by
  have h60 := hT.1
  unfold F_X9_here hr
  refine e_rcv fmO ?_
  refine e_ldIV fmO (h9) ?_
  refine e_ldIV fmO (hT.2.1) ?_
  by_cases w : a < z
  · refine e_f (by rw [nI_leI (by omega) (by omega)]; omega) ?_
    refine e_ldR fmO fmR14 ?_
    refine e_ldIV fmO (h9) ?_
    refine e_alIV fmA14 rfl (by omega) ((hT.2.2 a w).2) ?_
    rw [if_pos w]
    rfl
  · refine e_t (by rw [nI_leI (by omega) (by omega)]; omega) ?_
    rw [if_neg w]
    rfl
theorem hr_eq (hT : TpM m z t) {k : Nat} (hk : k < 128) : hr t z a = nI k ↔ (a < z ∧ t a = k) := by
  unfold hr
  by_cases w : a < z
  · have := (hT.2.2 a w).1
    rw [if_pos w, nI_eq (by omega) (by omega)]
    exact ⟨fun e => ⟨w, e⟩, fun e => e.2⟩
  · rw [if_neg w]
    exact ⟨fun e => absurd e.symm (nI_m1 (by omega)), fun e => absurd e.1 w⟩
theorem hr_fig (hT : TpM m z t) : ((48 : Int32) ≤ hr t z a ∧ hr t z a ≤ 57) ↔ fig t z a := by
  unfold hr
  by_cases w : a < z
  · have := (hT.2.2 a w).1
    rw [if_pos w, leL (by decide) (by omega), leR (by decide) (by omega)]
    exact ⟨fun e => ⟨w, e.1, e.2⟩, fun e => e.2⟩
  · rw [if_neg w]
    exact ⟨fun e => absurd e.1 (by decide), fun e => absurd e.1 w⟩
theorem m_isFigure (hT : TpM m z t) (ha : a ≤ z) (h9 : rI m 322 29 = nI a) : F_X9_isFigure N 322 (S m) = some (b2 (fig t z a), S m) := by
  unfold F_X9_isFigure
  refine e_rcv fmO ?_
  refine e_bnd (m_here hT ha h9) ?_
  refine e_bnd (m_in _ _ _) ?_
  rw [rtZ_b2, b2_c (hr_fig hT)]
theorem m_num_l : ∀ (d k a v n : Nat) (m : vM), d < n → k + d ≤ 3 → a + d ≤ z → (∀ j, a ≤ j → j < a + d → fig t z j) → (k + d = 3 ∨ ¬ fig t z (a + d)) → TpM m z t → rI m 322 29 = nI a →
    ∃ m', H_X9_number_4 N n 322 (nI v) (nI k) (S m) = some (if k + d = 0 then -1 else nI (nmb t d a v), S m') ∧ Fr atP m m' ∧ rI m' 322 29 = nI (a + d)
  | _, _, _, _, 0, _, h, _, _, _, _, _, _ => by omega
  | 0, k, a, v, n + 1, m, _, hk, hz, hf, he, hT, h9 => by
    refine ⟨m, ?_, Fr.rf, h9⟩
    have j45 : J_X9_number_45 N (nI v) (nI k) (S m) = some (if k + 0 = 0 then -1 else nI (nmb t 0 a v), S m) := by
      unfold J_X9_number_45
      by_cases w : k = 0
      · refine e_t (by rw [w]; rfl) ?_
        rw [if_pos (show k + 0 = 0 by omega)]
        rfl
      · refine e_f (by rw [eqR (by decide) (by omega)]; exact w) ?_
        rw [if_neg (show ¬ k + 0 = 0 by omega)]
        rfl
    refine Eq.trans u_H_X9_number_4 ?_
    by_cases w : k = 3
    · refine e_t (by rw [w]; exact Int32.le_refl _) ?_
      exact j45
    · refine e_f (by rw [leL (by decide) (by omega)]; show ¬ 3 ≤ k; omega) ?_
      refine e_bnd (m_isFigure hT hz h9) ?_
      refine e_t (b2_f (he.resolve_left (by omega))) ?_
      exact j45
  | d + 1, k, a, v, n + 1, m, hd, hk, hz, hf, he, hT, h9 => by
    have h60 := hT.1
    have fa := hf a (Nat.le_refl _) (by omega)
    have f1 : Fr atP m (wI m 322 29 (nI (a + 1))) := Fr.rf.sI ⟨rfl, rfl⟩
    obtain ⟨m', g1, g2, g3⟩ := m_num_l d (k + 1) (a + 1) (v * 10 + t a - 48) n (wI m 322 29 (nI (a + 1))) (by omega) (by omega) (by omega) (fun j h1 h2 => hf j (by omega) (by omega)) (by rw [show a + 1 + d = a + (d + 1) by omega]; omega) (hT.fr (f1.mo (fun _ _ => at_mq))) (rI_s _ _ _ _)
    refine ⟨m', ?_, f1.tr g2, by rw [g3]; exact congrArg nI (by omega)⟩
    refine Eq.trans u_H_X9_number_4 ?_
    refine e_f (by rw [leL (by decide) (by omega)]; show ¬ 3 ≤ k; omega) ?_
    refine e_bnd (m_isFigure hT (by omega) h9) ?_
    refine e_f (b2_nz fa) ?_
    refine e_bnd (m_here hT (by omega) h9) ?_
    refine e_nm ?_
    refine e_ldIV fmO (h9) ?_
    refine e_stI fmO ?_
    refine e_nm ?_
    have hh : hr t z a = nI (t a) := if_pos fa.1
    rw [hh, mulL, nI_add, subR (by show 48 ≤ _; omega), addR, addR, Nat.mul_comm]
    have e1 : (if k + 1 + d = 0 then (-1 : Int32) else nI (nmb t d (a + 1) (v * 10 + t a - 48))) = if k + (d + 1) = 0 then -1 else nI (nmb t (d + 1) a v) := by
      rw [if_neg (by omega), if_neg (by omega)]
      rfl
    rw [← e1]
    exact g1
def mk3 (t : Nat → Nat) (z a : Nat) : Nat := if ef t z a - a ≤ 3 then ef t z a - a else 3
theorem m_number (hN : 100 ≤ N) (hT : TpM m z t) (ha : a ≤ z) (h9 : rI m 322 29 = nI a) : ∃ m', F_X9_number N 322 (S m) = some (if mk3 t z a = 0 then -1 else nI (nmb t (mk3 t z a) a 0), S m') ∧ Fr atP m m' ∧ rI m' 322 29 = nI (a + mk3 t z a) := by
  obtain ⟨e1, e2, e3, e4⟩ := ef_sp (t := t) ha
  have hm : mk3 t z a ≤ 3 ∧ a + mk3 t z a ≤ ef t z a ∧ (mk3 t z a = 3 ∨ a + mk3 t z a = ef t z a) := by
    unfold mk3
    split <;> omega
  obtain ⟨m', g1, g2, g3⟩ := m_num_l (N := N) (t := t) (z := z) (mk3 t z a) 0 a 0 N m (by omega) (by omega) (by omega) (fun j j1 j2 => e3 j j1 (by omega)) (by
    rcases hm.2.2 with h | h
    · exact Or.inl (by omega)
    · exact Or.inr (by rw [h]; exact e4)) hT h9
  refine ⟨m', ?_, g2, g3⟩
  unfold F_X9_number
  refine e_rcv fmO ?_
  rw [Nat.zero_add] at g1
  exact g1
def mc (c : Nat) : Nat := if c = 48 then 49 else c
def TokM (m : vM) (T : List Tok) : Prop := rI m 322 30 = nI T.length ∧ ∀ i x, T[i]? = some x → rI m 344 i = nI (mc x.1) ∧ rI m 345 i = nI x.2.1 ∧ rI m 346 i = x.2.2.1 ∧ rI m 347 i = x.2.2.2
def adP (b j : Nat) : Prop := (b = 322 ∧ j = 30) ∨ (344 ≤ b ∧ b ≤ 347)
theorem m_add {T : List Tok} (hO : TokM m T) (hl : T.length < 60) (c p : Nat) (x y : Int32) : ∃ m', F_X9_add N 322 (nI (mc c)) (nI p) x y (S m) = some ((), S m') ∧ Fr adP m m' ∧ TokM m' (T ++ [(c, p, x, y)]) := by
  refine ⟨wI (wI (wI (wI (wI m 344 T.length (nI (mc c))) 345 T.length (nI p)) 346 T.length x) 347 T.length y) 322 30 (nI (T.length + 1)), ?_, ?_, ?_, fun i w hx => ?_⟩
  · have e4 : ∀ m1 : vM, rI m1 322 30 = rI m 322 30 → rI m1 322 30 = nI T.length := fun m1 h => h.trans hO.1
    unfold F_X9_add
    refine e_rcv fmO ?_
    refine e_ldR fmO fmR31 ?_
    refine e_ldIV fmO (hO.1) ?_
    refine e_asI fmA31 rfl (by omega) ?_
    refine e_ldR fmO fmR32 ?_
    refine e_ldIV fmO (e4 _ (by rw [rI_n _ _ (by omega)])) ?_
    refine e_asI fmA32 rfl (by omega) ?_
    refine e_ldR fmO fmR33 ?_
    refine e_ldIV fmO (e4 _ (by rw [rI_n _ _ (by omega), rI_n _ _ (by omega)])) ?_
    refine e_asI fmA33 rfl (by omega) ?_
    refine e_ldR fmO fmR34 ?_
    refine e_ldIV fmO (e4 _ (by rw [rI_n _ _ (by omega), rI_n _ _ (by omega), rI_n _ _ (by omega)])) ?_
    refine e_asI fmA34 rfl (by omega) ?_
    refine e_ldIV fmO (e4 _ (by rw [rI_n _ _ (by omega), rI_n _ _ (by omega), rI_n _ _ (by omega), rI_n _ _ (by omega)])) ?_
    refine e_stI fmO ?_
    rw [addR]
  · exact ((((Fr.rf.sI (Or.inr (by omega))).sI (Or.inr (by omega))).sI (Or.inr (by omega))).sI (Or.inr (by omega))).sI (Or.inl ⟨rfl, rfl⟩)
  · rw [rI_s, List.length_append]
    rfl
  · rw [List.getElem?_append] at hx
    by_cases y : i < T.length
    · rw [if_pos y] at hx
      rw [rI_n _ _ (by omega), rI_n _ _ (by omega), rI_n _ _ (by omega), rI_n _ _ (by omega), rI_n _ _ (by omega)]
      rw [rI_n _ _ (by omega), rI_n _ _ (by omega), rI_n _ _ (by omega), rI_n _ _ (by omega), rI_n _ _ (by omega)]
      rw [rI_n _ _ (by omega), rI_n _ _ (by omega), rI_n _ _ (by omega), rI_n _ _ (by omega), rI_n _ _ (by omega)]
      rw [rI_n _ _ (by omega), rI_n _ _ (by omega), rI_n _ _ (by omega), rI_n _ _ (by omega), rI_n _ _ (by omega)]
      exact hO.2 i w hx
    · rw [if_neg y] at hx
      have hi : i = T.length := by
        by_cases y : i - T.length = 0
        · omega
        · rw [List.getElem?_eq_none (by show 1 ≤ i - T.length; omega)] at hx
          cases hx
      rw [hi, Nat.sub_self] at hx
      cases hx
      rw [hi]
      refine ⟨?_, ?_, ?_, ?_⟩
      · rw [rI_n _ _ (by omega), rI_n _ _ (by omega), rI_n _ _ (by omega), rI_n _ _ (by omega), rI_s]
      · rw [rI_n _ _ (by omega), rI_n _ _ (by omega), rI_n _ _ (by omega), rI_s]
      · rw [rI_n _ _ (by omega), rI_n _ _ (by omega), rI_s]
      · rw [rI_n _ _ (by omega), rI_s]
theorem TokM.fr {T : List Tok} (h : TokM m T) (f : Fr atP m m') : TokM m' T := ⟨by rw [f.i (by unfold atP; omega)]; exact h.1, fun i x hx => by
  rw [f.i (by unfold atP; omega), f.i (by unfold atP; omega), f.i (by unfold atP; omega), f.i (by unfold atP; omega)]
  exact h.2 i x hx⟩
theorem ad_mq {b j : Nat} (h : adP b j) : mqP b j := by
  unfold adP at h
  unfold mqP
  omega
/-- a fraction -/
theorem m_isFraction {T : List Tok} (hN : 100 ≤ N) (hT : TpM m z t) (hO : TokM m T) (hl : T.length ≤ a) (ha : fig t z a) (h9 : rI m 322 29 = nI a) :
    ∃ v m', F_X9_isFraction N 322 (S m) = some (v, S m') ∧ Fr (fun b j => atP b j ∨ adP b j) m m' ∧ ((v = 0 ∧ ∃ b, tkF t z a = .inl b ∧ b ≤ z ∧ rI m' 322 29 = nI b) ∨ (v = 1 ∧ ∃ b T', tkF t z a = .inl b ∧ fig t z b ∧ rI m' 322 29 = nI b ∧ TokM m' T' ∧ T'.length ≤ b) ∨ (v = 1 ∧ ∃ p q a', tkF t z a = .inr (p, q, a') ∧ a < a' ∧ a' ≤ z ∧ rI m' 322 29 = nI a' ∧ TokM m' (T ++ [(48, a, nI p, nI q)]))) := by
  have h60 := hT.1
  have haz := ha.1
  obtain ⟨e1, e2, e3, e4⟩ := ef_sp (t := t) (z := z) (i := a) (by omega)
  obtain ⟨e, he⟩ : ∃ e, ef t z a = e := ⟨_, rfl⟩
  rw [he] at e1 e2 e3 e4
  have hae : a < e := by
    rcases Nat.lt_or_ge a e with w | w
    · exact w
    · exact absurd ha (by rw [show a = e by omega]; exact e4)
  obtain ⟨m1, g1, g2, g3⟩ := m_number (N := N) hN hT (by omega) h9
  have hT1 := hT.fr (g2.mo (fun _ _ => at_mq))
  have hO1 := hO.fr g2
  have j67 : ∀ (m2 : vM) (p q : Nat), Fr (fun b j => atP b j ∨ adP b j) m m2 → TokM m2 T → ∃ m3, J_X9_isFraction_67 N 322 (nI a) (nI p) (nI q) (S m2) = some (1, S m3) ∧ Fr (fun b j => atP b j ∨ adP b j) m m3 ∧ rI m3 322 29 = rI m2 322 29 ∧ TokM m3 (T ++ [(48, a, nI p, nI q)]) := by
    intro m2 p q f2 hO2
    obtain ⟨m3, d1, d2, d3⟩ := m_add (N := N) hO2 (by omega) 48 a (nI p) (nI q)
    refine ⟨m3, ?_, f2.tr (d2.mo (fun _ _ => Or.inr)), d2.i (by unfold adP; omega), d3⟩
    unfold J_X9_isFraction_67
    refine e_bnd (d1) ?_
    rfl
  have start : ∀ R, bnd (F_X9_here N 322 (S m1)) (fun v3 s => if v3 = (47) then (ldI s 322 9 29 (fun v4 => stI s 322 9 29 (v4 + (1)) (fun s => ldI s 322 9 29 (fun v5 => bnd (F_X9_number N 322 s) (fun v6 s => if v6 < (0) then (J_X9_isFraction_53 N  s) else (bnd (F_X9_isFigure N 322 s) (fun v7 s => if v7 = (0) then (if v6 = (0) then (stI s 322 9 29 v5 (fun s => rtZ (0) s)) else (J_X9_isFraction_67 N 322 (nI a) (nI (nmb t (mk3 t z a) a 0)) v6 s)) else (J_X9_isFraction_53 N  s)))))))) else (J_X9_isFraction_67 N 322 (nI a) (nI (nmb t (mk3 t z a) a 0)) (1) s)) = R → F_X9_isFraction N 322 (S m) = R := by
    intro R hR
    unfold F_X9_isFraction
    refine e_rcv fmO ?_
    refine e_ldIV fmO (h9) ?_
    have hk : ¬ mk3 t z a = 0 := by unfold mk3; rw [he]; split <;> omega
    rw [if_neg hk] at g1
    refine e_bnd (g1) ?_
    exact hR
  by_cases w3 : e - a ≤ 3
  · have hk : mk3 t z a = e - a := by unfold mk3; rw [he, if_pos w3]
    have hb : bdf a e 3 = none := by unfold bdf; rw [if_neg (by omega), if_pos w3]
    have hF : tkF t z a = if e < z ∧ t e = 47 then tkB t z a e else .inr (num t a e, 1, e) := by
      unfold tkF
      rw [he, hb]
    rw [hk, show a + (e - a) = e by omega] at g3
    rw [hk] at start
    by_cases w : e < z ∧ t e = 47
    · rw [if_pos w] at hF
      obtain ⟨c1, c2, c3, c4⟩ := ef_sp (t := t) (z := z) (i := e + 1) (by omega)
      obtain ⟨e', he'⟩ : ∃ e', ef t z (e + 1) = e' := ⟨_, rfl⟩
      have f2 : Fr atP m1 (wI m1 322 29 (nI (e + 1))) := Fr.rf.sI ⟨rfl, rfl⟩
      have hT2 := hT1.fr (f2.mo (fun _ _ => at_mq))
      obtain ⟨m3, k1, k2, k3⟩ := m_number (N := N) (a := e + 1) hN hT2 (by omega) (rI_s _ _ _ _)
      have f3 : Fr atP m m3 := (g2.tr f2).tr k2
      have hT3 := hT.fr (f3.mo (fun _ _ => at_mq))
      have hO3 := hO.fr f3
      rw [he'] at c1 c2 c3 c4
      have hB : tkB t z a e = match bdf (e + 1) e' 3 with
        | some b => .inl b
        | none => if num t (e + 1) e' = 0 then .inl (e + 1) else .inr (num t a e, num t (e + 1) e', e') := by
        unfold tkB
        rw [he']
        rfl
      have start2 : ∀ v6 R, F_X9_number N 322 (S (wI m1 322 29 (nI (e + 1)))) = some (v6, S m3) → (if v6 < (0) then (J_X9_isFraction_53 N (S m3)) else (bnd (F_X9_isFigure N 322 (S m3)) (fun v7 s => if v7 = (0) then (if v6 = (0) then (stI s 322 9 29 (nI (e + 1)) (fun s => rtZ (0) s)) else (J_X9_isFraction_67 N 322 (nI a) (nI (nmb t (e - a) a 0)) v6 s)) else (J_X9_isFraction_53 N  s)))) = R → F_X9_isFraction N 322 (S m) = R := by
        intro v6 R h6 hR
        refine start R ?_
        refine e_bnd (m_here hT1 e2 g3) ?_
        refine e_t ((hr_eq hT1 (k := 47) (by omega)).mpr w) ?_
        refine e_ldIV fmO (g3) ?_
        rw [addR]
        refine e_stI fmO ?_
        refine e_ldIV fmO (rI_s _ _ _ _) ?_
        refine e_bnd (h6) ?_
        exact hR
      by_cases y0 : e' = e + 1
      · have hk' : mk3 t z (e + 1) = 0 := by unfold mk3; rw [he', y0, if_pos (by omega)]; omega
        rw [hk'] at k1 k3
        rw [if_pos rfl] at k1
        have hb2 : bdf (e + 1) e' 3 = some (e + 1) := by unfold bdf; rw [if_pos y0]
        rw [hb2] at hB
        refine ⟨0, m3, start2 _ _ k1 (e_t (by decide) rfl), f3.mo (fun _ _ => Or.inl), Or.inl ⟨rfl, e + 1, hF.trans hB, by omega, k3⟩⟩
      · by_cases y3 : e' - (e + 1) ≤ 3
        · have hk' : mk3 t z (e + 1) = e' - (e + 1) := by unfold mk3; rw [he', if_pos y3]
          rw [hk'] at k1 k3
          rw [if_neg (by omega)] at k1
          rw [show e + 1 + (e' - (e + 1)) = e' by omega] at k3
          have hb2 : bdf (e + 1) e' 3 = none := by unfold bdf; rw [if_neg y0, if_pos y3]
          rw [hb2] at hB
          have hlt : nmb t (e' - (e + 1)) (e + 1) 0 < 1 * 10 ^ (e' - (e + 1)) := nmb_lt _ _ _ _ (by omega) (fun j j1 j2 => (c3 j j1 (by omega)).2.2)
          have hp : 10 ^ (e' - (e + 1)) ≤ 10 ^ 3 := Nat.pow_le_pow_right (by decide) y3
          by_cases v0 : num t (e + 1) e' = 0
          · have hB : tkB t z a e = .inl (e + 1) := hB.trans (if_pos v0)
            refine ⟨0, wI m3 322 29 (nI (e + 1)), start2 _ _ k1 ?_, (f3.sI ⟨rfl, rfl⟩).mo (fun _ _ => Or.inl), Or.inl ⟨rfl, e + 1, hF.trans hB, by omega, rI_s _ _ _ _⟩⟩
            refine e_f (nI_pos (by omega)) ?_
            refine e_bnd (m_isFigure hT3 c2 k3) ?_
            refine e_t (b2_f c4) ?_
            refine e_t (by rw [show nmb t (e' - (e + 1)) (e + 1) 0 = 0 from v0]; rfl) ?_
            refine e_stI fmO ?_
            rfl
          · have hB : tkB t z a e = .inr (num t a e, num t (e + 1) e', e') := hB.trans (if_neg v0)
            obtain ⟨m4, d1, d2, d3, d4⟩ := j67 m3 (nmb t (e - a) a 0) (nmb t (e' - (e + 1)) (e + 1) 0) (f3.mo (fun _ _ => Or.inl)) hO3
            refine ⟨1, m4, start2 _ _ k1 ?_, d2, Or.inr (Or.inr ⟨rfl, _, _, e', hF.trans hB, by omega, c2, by rw [d3]; exact k3, d4⟩)⟩
            refine e_f (nI_pos (by omega)) ?_
            refine e_bnd (m_isFigure hT3 c2 k3) ?_
            refine e_t (b2_f c4) ?_
            refine e_f (by rw [eqR (by decide) (by omega)]; exact v0) ?_
            exact d1
        · have hk' : mk3 t z (e + 1) = 3 := by unfold mk3; rw [he', if_neg y3]
          rw [hk'] at k1 k3
          rw [if_neg (by omega)] at k1
          have hb2 : bdf (e + 1) e' 3 = some (e + 1 + 3) := by unfold bdf; rw [if_neg y0, if_neg y3]
          rw [hb2] at hB
          have hlt : nmb t 3 (e + 1) 0 < 1 * 10 ^ 3 := nmb_lt _ _ _ _ (by omega) (fun j j1 j2 => (c3 j j1 (by omega)).2.2)
          refine ⟨0, m3, start2 _ _ k1 ?_, f3.mo (fun _ _ => Or.inl), Or.inl ⟨rfl, e + 1 + 3, hF.trans hB, by omega, k3⟩⟩
          refine e_f (nI_pos (by omega)) ?_
          refine e_bnd (m_isFigure hT3 (by omega) k3) ?_
          refine e_f (b2_nz (c3 _ (by omega) (by omega))) ?_
          rfl
    · rw [if_neg w] at hF
      obtain ⟨m4, d1, d2, d3, d4⟩ := j67 m1 (nmb t (e - a) a 0) 1 (g2.mo (fun _ _ => Or.inl)) hO1
      refine ⟨1, m4, start _ ?_, d2, Or.inr (Or.inr ⟨rfl, _, _, e, hF, hae, e2, by rw [d3]; exact g3, d4⟩)⟩
      refine e_bnd (m_here hT1 e2 g3) ?_
      refine e_f (fun y => w ((hr_eq hT1 (k := 47) (by omega)).mp y)) ?_
      exact d1
  · have hk : mk3 t z a = 3 := by unfold mk3; rw [he, if_neg w3]
    have hb : bdf a e 3 = some (a + 3) := by unfold bdf; rw [if_neg (by omega), if_neg w3]
    have hF : tkF t z a = .inl (a + 3) := by
      unfold tkF
      rw [he, hb]
    rw [hk] at g3 start
    obtain ⟨m4, d1, d2, d3, d4⟩ := j67 m1 (nmb t 3 a 0) 1 (g2.mo (fun _ _ => Or.inl)) hO1
    have f3 := e3 (a + 3) (by omega) (by omega)
    refine ⟨1, m4, start _ ?_, d2, Or.inr (Or.inl ⟨rfl, a + 3, _, hF, f3, by rw [d3]; exact g3, d4, by rw [List.length_append]; show T.length + 1 ≤ _; omega⟩)⟩
    refine e_bnd (m_here hT1 (by omega) g3) ?_
    refine e_f (fun y => by have := (hr_eq hT1 (k := 47) (by omega)).mp y; omega) ?_
    exact d1
end RD6
