section UROWS
theorem u_J_X9_layTables_162 {N : Nat} {k100 : Nat → Int32 → Int32 → vS → Option (Unit × vS)} {k107 : Nat → Int32 → Int32 → Int32 → vS → Option (Unit × vS)} {a0 : Nat} {l1 : Int32} {l2 : Int32} {l3 : Int32} {l4 : Int32} {s : vS} : J_X9_layTables_162 N k100 k107 a0 l1 l2 l3 l4 s = (ldR s a0 9 3 (fun r19 => ldR s a0 9 3 (fun r20 => alI s r20 (((64 : Int32) * l2) + l4) (fun v21 => asI s r19 (((64 : Int32) * l2) + l3) v21 (fun s => nm (l3 + (1 : Int32)) (fun l3_22 => k107 a0 l1 l2 l3_22 s)))))) := rfl
theorem u_H_X9_layTables_107 {N : Nat} {k100 : Nat → Int32 → Int32 → vS → Option (Unit × vS)} {n : Nat} {a0 : Nat} {l1 : Int32} {l2 : Int32} {l3 : Int32} {s : vS} : H_X9_layTables_107 N k100 (n + 1) a0 l1 l2 l3 s = (bnd (F_X9_codes N l2 s) (fun v8 s => if v8 ≤ l3 then (nm (l2 + (1 : Int32)) (fun l2_9 => k100 a0 l1 l2_9 s)) else (bnd (F_X9_leastCode N a0 l3 l2 (1 : Int32) s) (fun v10 s => if v10 = l3 then (ldR s a0 9 0 (fun r11 => asI s r11 l1 l2 (fun s => ldR s a0 9 1 (fun r12 => asI s r12 l1 l3 (fun s => ldR s a0 9 3 (fun r13 => asI s r13 (((64 : Int32) * l2) + l3) (l1 - (19 : Int32)) (fun s => nm (l1 + (1 : Int32)) (fun l1_14 => J_X9_layTables_162 N k100 (H_X9_layTables_107 N k100 n) a0 l1_14 l2 l3 v10 s)))))))) else (J_X9_layTables_162 N k100 (H_X9_layTables_107 N k100 n) a0 l1 l2 l3 v10 s))))) := rfl
theorem u_H_X9_layTables_100 {N : Nat} {n : Nat} {a0 : Nat} {l1 : Int32} {l2 : Int32} {s : vS} : H_X9_layTables_100 N (n + 1) a0 l1 l2 s = (if (5 : Int32) ≤ l2 then (some ((), s)) else (H_X9_layTables_107 N (H_X9_layTables_100 N n) N a0 l1 l2 (0 : Int32) s)) := rfl
theorem u_J_X9_layTables_63 {N : Nat} {k4 : Nat → Int32 → Int32 → vS → Option (Unit × vS)} {k11 : Nat → Int32 → Int32 → Int32 → vS → Option (Unit × vS)} {a0 : Nat} {l1 : Int32} {l2 : Int32} {l3 : Int32} {l4 : Int32} {s : vS} : J_X9_layTables_63 N k4 k11 a0 l1 l2 l3 l4 s = (ldR s a0 9 2 (fun r15 => ldR s a0 9 2 (fun r16 => alI s r16 (((64 : Int32) * l2) + l4) (fun v17 => asI s r15 (((64 : Int32) * l2) + l3) v17 (fun s => nm (l3 + (1 : Int32)) (fun l3_18 => k11 a0 l1 l2 l3_18 s)))))) := rfl
theorem u_H_X9_layTables_11 {N : Nat} {k4 : Nat → Int32 → Int32 → vS → Option (Unit × vS)} {n : Nat} {a0 : Nat} {l1 : Int32} {l2 : Int32} {l3 : Int32} {s : vS} : H_X9_layTables_11 N k4 (n + 1) a0 l1 l2 l3 s = (bnd (F_X9_codes N l2 s) (fun v1 s => if v1 ≤ l3 then (nm (l2 + (1 : Int32)) (fun l2_2 => k4 a0 l1 l2_2 s)) else (bnd (F_X9_leastCode N a0 l3 l2 (0 : Int32) s) (fun v3 s => if v3 = l3 then (ldR s a0 9 0 (fun r4 => asI s r4 l1 l2 (fun s => ldR s a0 9 1 (fun r5 => asI s r5 l1 l3 (fun s => ldR s a0 9 2 (fun r6 => asI s r6 (((64 : Int32) * l2) + l3) l1 (fun s => nm (l1 + (1 : Int32)) (fun l1_7 => J_X9_layTables_63 N k4 (H_X9_layTables_11 N k4 n) a0 l1_7 l2 l3 v3 s)))))))) else (J_X9_layTables_63 N k4 (H_X9_layTables_11 N k4 n) a0 l1 l2 l3 v3 s))))) := rfl
theorem u_H_X9_layTables_4 {N : Nat} {n : Nat} {a0 : Nat} {l1 : Int32} {l2 : Int32} {s : vS} : H_X9_layTables_4 N (n + 1) a0 l1 l2 s = (if (5 : Int32) ≤ l2 then (H_X9_layTables_100 N N a0 l1 (1 : Int32) s) else (H_X9_layTables_11 N (H_X9_layTables_4 N n) N a0 l1 l2 (0 : Int32) s)) := rfl
theorem u_F_X9_layTables {N : Nat} {a0 : Nat} {s : vS} : F_X9_layTables N a0 s = (rcv s a0 9 (H_X9_layTables_4 N N a0 (0 : Int32) (0 : Int32) s)) := rfl
theorem u_J_X9_leastCode_61 {N : Nat} {k6 : Nat → Int32 → Int32 → Int32 → Int32 → Int32 → vS → Option (Int32 × vS)} {a0 : Nat} {l1 : Int32} {l2 : Int32} {l3 : Int32} {l4 : Int32} {l5 : Int32} {s : vS} : J_X9_leastCode_61 N k6 a0 l1 l2 l3 l4 l5 s = (nm (l5 + (1 : Int32)) (fun l5_4 => k6 a0 l1 l2 l3 l4 l5_4 s)) := rfl
theorem u_J_X9_leastCode_59 {N : Nat} {k6 : Nat → Int32 → Int32 → Int32 → Int32 → Int32 → vS → Option (Int32 × vS)} {a0 : Nat} {l1 : Int32} {l2 : Int32} {l3 : Int32} {l5 : Int32} {k0 : Int32} {s : vS} : J_X9_leastCode_59 N k6 a0 l1 l2 l3 l5 k0 s = (J_X9_leastCode_61 N k6 a0 l1 l2 l3 k0 l5 s) := rfl
theorem u_J_X9_leastCode_37 {N : Nat} {k6 : Nat → Int32 → Int32 → Int32 → Int32 → Int32 → vS → Option (Int32 × vS)} {a0 : Nat} {l1 : Int32} {l2 : Int32} {l3 : Int32} {l4 : Int32} {l5 : Int32} {s : vS} : J_X9_leastCode_37 N k6 a0 l1 l2 l3 l4 l5 s = (bnd (F_X9_renamedCode N a0 l1 l2 s) (fun v5 s => if l4 ≤ v5 then (J_X9_leastCode_59 N k6 a0 l1 l2 l3 l5 l4 s) else (J_X9_leastCode_59 N k6 a0 l1 l2 l3 l5 v5 s))) := rfl
theorem u_H_X9_leastCode_6 {N : Nat} {n : Nat} {a0 : Nat} {l1 : Int32} {l2 : Int32} {l3 : Int32} {l4 : Int32} {l5 : Int32} {s : vS} : H_X9_leastCode_6 N (n + 1) a0 l1 l2 l3 l4 l5 s = (if (256 : Int32) ≤ l5 then (some (l4, s)) else (bnd (F_X9_isRenaming N a0 l5 l2 s) (fun v1 s => if v1 = (0 : Int32) then (J_X9_leastCode_61 N (H_X9_leastCode_6 N n) a0 l1 l2 l3 l4 l5 s) else (if l3 = (0 : Int32) then (J_X9_leastCode_37 N (H_X9_leastCode_6 N n) a0 l1 l2 l3 l4 l5 s) else (ldR s a0 9 4 (fun r2 => alI s r2 (0 : Int32) (fun v3 => if v3 = (0 : Int32) then (J_X9_leastCode_37 N (H_X9_leastCode_6 N n) a0 l1 l2 l3 l4 l5 s) else (J_X9_leastCode_61 N (H_X9_leastCode_6 N n) a0 l1 l2 l3 l4 l5 s)))))))) := rfl
theorem u_F_X9_leastCode {N : Nat} {a0 : Nat} {l1 : Int32} {l2 : Int32} {l3 : Int32} {s : vS} : F_X9_leastCode N a0 l1 l2 l3 s = (rcv s a0 9 (H_X9_leastCode_6 N N a0 l1 l2 l3 l1 (0 : Int32) s)) := rfl
end UROWS
section LAY
variable {N : Nat} {m m' : vM} {s : vS}
def lkst (q : Bool) (size code x b : Nat) : Nat := if isRn size x = true ∧ (q = false ∨ dg x 0 = 0) then (if b ≤ rnC size code (dg x) then b else rnC size code (dg x)) else b
def lsM (q : Bool) (size code : Nat) : Nat := fld (lkst q size code) 256 0 code
theorem rps_lt {code : Nat} {nm : Nat → Nat} (h : ∀ i, i < 4 → nm i < 4) : ∀ (d p x : Nat), p + d ≤ 4 → x < 256 → fld (rp code nm) d p x < 256
  | 0, _, _, _, hx => hx
  | d + 1, p, x, hp, hx => rps_lt h d (p + 1) _ (by omega) (rqs_lt h (by omega) p 0 x (by omega) hx)
theorem rnC_lt {size code x : Nat} (hs : size < 5) : rnC size code (dg x) < 256 := rps_lt (fun i _ => dg_lt x i) (size - 1) 1 0 (by omega) (by omega)
theorem lkst_lt {q : Bool} {size code x b : Nat} (hs : size < 5) (hb : b < 256) : lkst q size code x b < 256 := by
  unfold lkst
  have := rnC_lt (code := code) (x := x) hs
  split
  · split
    · exact hb
    · exact this
  · exact hb
def bq (q : Bool) : Int32 := if q = true then 1 else 0
theorem m_least_l {q : Bool} {size code : Nat} (hN : 1000 ≤ N) (hs : size < 5) (hc : code < 64) (h1 : q = true → 1 ≤ size) : ∀ (d x n b : Nat) (m : vM), x + d = 256 → d < n → b < 256 → ∃ m', H_X9_leastCode_6 N n 322 (nI code) (nI size) (bq q) (nI b) (nI x) (S m) = some (nI (fld (lkst q size code) d x b), S m') ∧ Fr (fun b _ => b = 327) m m'
  | _, _, 0, _, _, _, h, _ => by omega
  | 0, x, n + 1, b, m, hx, _, _ => by
    obtain rfl : x = 256 := by omega
    refine ⟨m, ?_, Fr.rf⟩
    refine Eq.trans u_H_X9_leastCode_6 ?_
    exact e_t (by decide) rfl
  | d + 1, x, n + 1, b, m, hx, hd, hb => by
    obtain ⟨m1, g1, g2, g3⟩ := m_isRen (N := N) (m := m) (x := x) (by omega) hs (show x < 256 by omega)
    have hr := rnC_lt (code := code) (x := x) hs
    obtain ⟨m', j1, j2⟩ := m_least_l hN hs hc h1 d (x + 1) n (lkst q size code x b) m1 (by omega) (by omega) (lkst_lt hs hb)
    refine ⟨m', ?_, g2.tr j2⟩
    have e0 : fld (lkst q size code) (d + 1) x b = fld (lkst q size code) d (x + 1) (lkst q size code x b) := rfl
    rw [e0, ← j1]
    refine Eq.trans u_H_X9_leastCode_6 ?_
    refine e_f (by rw [leL (by decide) (by omega)]; show ¬ 256 ≤ x; omega) ?_
    refine e_bnd g1 ?_
    have tail : (isRn size x = true ∧ (q = false ∨ dg x 0 = 0)) → J_X9_leastCode_37 N (H_X9_leastCode_6 N n) 322 (nI code) (nI size) (bq q) (nI b) (nI x) (S m1) = H_X9_leastCode_6 N n 322 (nI code) (nI size) (bq q) (nI (lkst q size code x b)) (nI (x + 1)) (S m1) := fun w => by
      unfold J_X9_leastCode_37
      refine e_bnd (m_renamed (N := N) (by omega) hs hc g3 (fun i _ => dg_lt x i)) ?_
      by_cases v : b ≤ rnC size code (dg x)
      · refine e_t (by rw [nI_leI (by omega) (by omega)]; exact v) ?_
        rw [show lkst q size code x b = b by unfold lkst; rw [if_pos w, if_pos v], ← addR]
        rfl
      · refine e_f (by rw [nI_leI (by omega) (by omega)]; exact v) ?_
        rw [show lkst q size code x b = rnC size code (dg x) by unfold lkst; rw [if_pos w, if_neg v], ← addR]
        rfl
    have skip : ¬ (isRn size x = true ∧ (q = false ∨ dg x 0 = 0)) → J_X9_leastCode_61 N (H_X9_leastCode_6 N n) 322 (nI code) (nI size) (bq q) (nI b) (nI x) (S m1) = H_X9_leastCode_6 N n 322 (nI code) (nI size) (bq q) (nI (lkst q size code x b)) (nI (x + 1)) (S m1) := fun w => by
      rw [show lkst q size code x b = b by unfold lkst; rw [if_neg w], ← addR]
      rfl
    by_cases z : isRn size x = true
    · refine e_f (by rw [b2_t z]; decide) ?_
      cases q with
      | false =>
        refine e_t rfl ?_
        exact tail ⟨z, Or.inl rfl⟩
      | true =>
        refine e_f (by decide) ?_
        refine e_ldR fmO fmR4 ?_
        refine e_alIV fmA4 (j := 0) rfl (by omega) (g3 0 (h1 rfl)) ?_
        have d4 := dg_lt x 0
        by_cases y : dg x 0 = 0
        · refine e_t (by rw [y]; rfl) ?_
          exact tail ⟨z, Or.inr y⟩
        · refine e_f (by rw [eqR (by decide) (by omega)]; exact y) ?_
          exact skip (fun w => w.2.elim (fun v => (by cases v)) y)
    · refine e_t (by rw [b2_f z]) ?_
      exact skip (fun w => z w.1)
theorem m_least {q : Bool} {size code : Nat} (hN : 1000 ≤ N) (hs : size < 5) (hc : code < 64) (h1 : q = true → 1 ≤ size) : ∃ m', F_X9_leastCode N 322 (nI code) (nI size) (bq q) (S m) = some (nI (lsM q size code), S m') ∧ Fr (fun b _ => b = 327) m m' := by
  obtain ⟨m', g1, g2⟩ := m_least_l (N := N) (q := q) hN hs hc h1 256 0 N code m rfl (by omega) (by omega)
  refine ⟨m', ?_, g2⟩
  unfold F_X9_leastCode
  exact e_rcv fmO g1
/-- how many numbers come ahead of a code -/
def nxt (q : Bool) (size code : Nat) : Nat := cnt (fun k => sz_ q k < size ∨ (sz_ q k = size ∧ cd_ q k < code)) (mny q)
theorem nxt_le (q : Bool) (size code : Nat) : nxt q size code ≤ mny q := cnt_le _ _
theorem nxt_c : ∀ q size, size < 5 → sh_ q ≤ size → nxt q (size + 1) 0 = nxt q size (cds size) := by decide +kernel
def nxB (q : Bool) (size code x : Nat) : Bool := if x = code then decide (nu_ q size code = nxt q size code ∧ sz_ q (nxt q size code) = size ∧ cd_ q (nxt q size code) = code ∧ nxt q size code < mny q ∧ nxt q size (code + 1) = nxt q size code + 1) else decide (x < code ∧ nu_ q size code = nu_ q size x ∧ nxt q size (code + 1) = nxt q size code)
theorem nxt_b : ∀ q size, size < 5 → ∀ code, code < 64 → (sh_ q ≤ size ∧ code < cds size) → nxB q size code (lsM q size code) = true := by decide +kernel
theorem nxt_d (q : Bool) (size : Nat) (hs : size < 5) (code : Nat) (hc : code < 64) (h : sh_ q ≤ size ∧ code < cds size) : (lsM q size code = code → nu_ q size code = nxt q size code ∧ sz_ q (nxt q size code) = size ∧ cd_ q (nxt q size code) = code ∧ nxt q size code < mny q ∧ nxt q size (code + 1) = nxt q size code + 1) ∧ (¬ lsM q size code = code → lsM q size code < code ∧ nu_ q size code = nu_ q size (lsM q size code) ∧ nxt q size (code + 1) = nxt q size code) := by
  have e := nxt_b q size hs code hc h
  unfold nxB at e
  constructor
  · intro z
    rw [if_pos z] at e
    exact of_decide_eq_true e
  · intro z
    rw [if_neg z] at e
    exact of_decide_eq_true e
def laP (q : Bool) (b j : Nat) : Prop := b = 327 ∨ ((b = 323 ∨ b = 324) ∧ 19 * sh_ q ≤ j) ∨ b = aBy q
def MT (q : Bool) (size code : Nat) (m : vM) : Prop := (∀ k, k < nxt q size code → rI m 323 (19 * sh_ q + k) = nI (sz_ q k) ∧ rI m 324 (19 * sh_ q + k) = nI (cd_ q k)) ∧ ∀ size' code', size' < 5 → sh_ q ≤ size' → code' < cds size' → (size' < size ∨ (size' = size ∧ code' < code)) → rI m (aBy q) (64 * size' + code') = nI (nu_ q size' code')
theorem MT.fr {q : Bool} {size code : Nat} (h : MT q size code m) (e : ∀ b j, (b = 323 ∨ b = 324 ∨ b = 325 ∨ b = 326) → rI m' b j = rI m b j) : MT q size code m' := by
  refine ⟨fun k hk => ?_, fun size' code' a1 a2 a3 a4 => ?_⟩
  · rw [e _ _ (by omega), e _ _ (by omega)]
    exact h.1 k hk
  · rw [e _ _ (by cases q <;> (unfold aBy; simp))]
    exact h.2 size' code' a1 a2 a3 a4
theorem MT_c {q : Bool} {size : Nat} (hs : size < 5) (hs1 : sh_ q ≤ size) (h : MT q size (cds size) m) : MT q (size + 1) 0 m := by
  refine ⟨fun k hk => h.1 k (by rw [nxt_c q size hs hs1] at hk; exact hk), fun size' code' a1 a2 a3 a4 => h.2 size' code' a1 a2 a3 ?_⟩
  by_cases z : size' = size
  · exact Or.inr ⟨z, by rw [← z]; exact a3⟩
  · exact Or.inl (by omega)
section STEP
variable {q : Bool} {size code : Nat}
theorem MT_y (hs : size < 5) (hcd : code < cds size) (hs1 : sh_ q ≤ size) (z : lsM q size code = code) (dd : (lsM q size code = code → nu_ q size code = nxt q size code ∧ sz_ q (nxt q size code) = size ∧ cd_ q (nxt q size code) = code ∧ nxt q size code < mny q ∧ nxt q size (code + 1) = nxt q size code + 1) ∧ (¬ lsM q size code = code → lsM q size code < code ∧ nu_ q size code = nu_ q size (lsM q size code) ∧ nxt q size (code + 1) = nxt q size code)) (h : MT q size code m) : MT q size (code + 1) (wI (wI (wI (wI m 323 (19 * sh_ q + nxt q size code) (nI size)) 324 (19 * sh_ q + nxt q size code) (nI code)) (aBy q) (64 * size + code) (nI (nxt q size code))) (aBy q) (64 * size + code) (nI (nxt q size code))) := by
  obtain ⟨e1, e2, e3, e4, e5⟩ := dd.1 z
  have hby : aBy q = 325 ∨ aBy q = 326 := by cases q <;> simp [aBy]
  refine ⟨fun k hk => ?_, fun size' code' a1 a2 a3 a4 => ?_⟩
  · rw [e5] at hk
    by_cases w : k = nxt q size code
    · refine ⟨?_, ?_⟩
      · rw [w, rI_n _ _ (by omega), rI_n _ _ (by omega), rI_n _ _ (by omega), rI_s, e2]
      · rw [w, rI_n _ _ (by omega), rI_n _ _ (by omega), rI_s, e3]
    · have hh := h.1 k (by omega)
      refine ⟨?_, ?_⟩
      · rw [rI_n _ _ (by omega), rI_n _ _ (by omega), rI_n _ _ (by omega), rI_n _ _ (by omega)]
        exact hh.1
      · rw [rI_n _ _ (by omega), rI_n _ _ (by omega), rI_n _ _ (by omega), rI_n _ _ (by omega)]
        exact hh.2
  · by_cases w : size' = size ∧ code' = code
    · obtain ⟨rfl, rfl⟩ := w
      rw [rI_s, e1]
    · have h64 := cds_64 size' a1
      have h65 := cds_64 size hs
      have hne : ¬ 64 * size' + code' = 64 * size + code := by omega
      rw [rI_n _ _ (by omega), rI_n _ _ (by omega), rI_n _ _ (by omega), rI_n _ _ (by omega)]
      exact h.2 size' code' a1 a2 a3 (by omega)
theorem MT_n (hs : size < 5) (hcd : code < cds size) (hs1 : sh_ q ≤ size) (z : ¬ lsM q size code = code) (dd : (lsM q size code = code → nu_ q size code = nxt q size code ∧ sz_ q (nxt q size code) = size ∧ cd_ q (nxt q size code) = code ∧ nxt q size code < mny q ∧ nxt q size (code + 1) = nxt q size code + 1) ∧ (¬ lsM q size code = code → lsM q size code < code ∧ nu_ q size code = nu_ q size (lsM q size code) ∧ nxt q size (code + 1) = nxt q size code)) (h : MT q size code m) : MT q size (code + 1) (wI m (aBy q) (64 * size + code) (nI (nu_ q size code))) := by
  obtain ⟨e1, e2, e3⟩ := dd.2 z
  have hby : aBy q = 325 ∨ aBy q = 326 := by cases q <;> simp [aBy]
  refine ⟨fun k hk => ?_, fun size' code' a1 a2 a3 a4 => ?_⟩
  · rw [e3] at hk
    rw [rI_n _ _ (by omega), rI_n _ _ (by omega)]
    exact h.1 k hk
  · by_cases w : size' = size ∧ code' = code
    · obtain ⟨rfl, rfl⟩ := w
      rw [rI_s]
    · have h64 := cds_64 size' a1
      have h65 := cds_64 size hs
      have hne : ¬ 64 * size' + code' = 64 * size + code := by omega
      rw [rI_n _ _ (by omega)]
      exact h.2 size' code' a1 a2 a3 (by omega)
end STEP
theorem m_lay_c_false {k : Nat → Int32 → Int32 → vS → Option (Unit × vS)} (hN : 1000 ≤ N) {size : Nat} (hs : size < 5) (hs1 : sh_ false ≤ size) : ∀ (d code n : Nat) (m : vM), code + d = cds size → d < n → MT false size code m → ∃ m', H_X9_layTables_11 N k n 322 (nI (19 * sh_ false + nxt false size code)) (nI size) (nI code) (S m) = k 322 (nI (19 * sh_ false + nxt false (size + 1) 0)) (nI (size + 1)) (S m') ∧ Fr (laP false) m m' ∧ MT false (size + 1) 0 m'
  | _, _, 0, _, _, h, _ => by omega
  | 0, code, n + 1, m, hc, _, hM => by
    have h64 := cds_64 size hs
    obtain rfl : code = cds size := by omega
    have d3 := nxt_c false size hs hs1
    refine ⟨m, ?_, Fr.rf, MT_c hs hs1 hM⟩
    refine Eq.trans u_H_X9_layTables_11 ?_
    refine e_bnd (m_codes hs) ?_
    refine e_t (by rw [nI_leI (by omega) (by omega)]; omega) ?_
    refine e_nm ?_
    rw [addR, d3]
  | d + 1, code, n + 1, m, hc, hd, hM => by
    have h64 := cds_64 size hs
    have hcd : code < cds size := by omega
    have dd := nxt_d false size hs code (by omega) ⟨hs1, hcd⟩
    have hk : nxt false size code ≤ 19 := nxt_le false size code
    obtain ⟨m1, g1, g2⟩ := m_least (N := N) (m := m) (q := false) hN hs (show code < 64 by omega) (by exact fun w => absurd w (by decide))
    have hM1 : MT false size code m1 := hM.fr (fun b j hb => g2.i (by omega))
    have fm1 : Fr (laP false) m m1 := g2.mo (fun b j w => Or.inl w)
    by_cases z : lsM false size code = code
    · obtain ⟨e1, e2, e3, e4, e5⟩ := dd.1 z
      have e4 : nxt false size code < 19 := e4
      have f2 : Fr (laP false) m1 (wI (wI (wI (wI m1 323 (19 * sh_ false + nxt false size code) (nI size)) 324 (19 * sh_ false + nxt false size code) (nI code)) (aBy false) (64 * size + code) (nI (nxt false size code))) (aBy false) (64 * size + code) (nI (nxt false size code))) := (((Fr.rf.sI (P := laP false) (by unfold laP aBy; (show _ ∨ ((_ ∨ _) ∧ 0 ≤ _) ∨ _; omega))).sI (by unfold laP aBy; (show _ ∨ ((_ ∨ _) ∧ 0 ≤ _) ∨ _; omega))).sI (Or.inr (Or.inr rfl))).sI (Or.inr (Or.inr rfl))
      obtain ⟨m', j1, j2, j3⟩ := m_lay_c_false (k := k) hN hs hs1 d (code + 1) n _ (by omega) (by omega) (MT_y (m := m1) hs hcd hs1 z dd hM1)
      refine ⟨m', ?_, (fm1.tr f2).tr j2, j3⟩
      refine Eq.trans u_H_X9_layTables_11 ?_
      refine e_bnd (m_codes hs) ?_
      refine e_f (by rw [nI_leI (by omega) (by omega)]; omega) ?_
      refine e_bnd g1 ?_
      refine e_t (by rw [z]) ?_
      refine e_ldR fmO fmR0 ?_
      refine e_asI fmA0 (j := 19 * sh_ false + nxt false size code) rfl (by show 0 + nxt false size code < 48 ∧ 48 < 2 ^ 31; omega) ?_
      refine e_ldR fmO fmR1 ?_
      refine e_asI fmA1 (j := 19 * sh_ false + nxt false size code) rfl (by show 0 + nxt false size code < 48 ∧ 48 < 2 ^ 31; omega) ?_
      refine e_ldR fmO fmR2 ?_
      rw [show 19 * sh_ false + nxt false size code = nxt false size code from Nat.zero_add _]
      refine e_asI fmA2 (j := 64 * size + code) (by rw [mulL, nI_add]) (by omega) ?_
      refine e_nm ?_
      refine e_ldR fmO fmR2 ?_
      refine e_ldR fmO fmR2 ?_
      refine e_alIV fmA2 (j := 64 * size + code) (by rw [z, mulL, nI_add]) (by omega) (show _ = nI (nxt false size code) from rI_s _ _ _ _) ?_
      refine e_asI fmA2 (j := 64 * size + code) (by rw [mulL, nI_add]) (by omega) ?_
      refine e_nm ?_
      rw [addR, addR]
      rw [e5, ← Nat.add_assoc] at j1
      rw [show 19 * sh_ false + nxt false size code = nxt false size code from Nat.zero_add _] at j1
      exact j1
    · obtain ⟨e1, e2, e3⟩ := dd.2 z
      have f2 : Fr (laP false) m1 (wI m1 (aBy false) (64 * size + code) (nI (nu_ false size code))) := Fr.rf.sI (Or.inr (Or.inr rfl))
      obtain ⟨m', j1, j2, j3⟩ := m_lay_c_false (k := k) hN hs hs1 d (code + 1) n _ (by omega) (by omega) (MT_n (m := m1) hs hcd hs1 z dd hM1)
      have rd : rI m1 325 (64 * size + lsM false size code) = nI (nu_ false size code) := by
        rw [e2]
        exact hM1.2 size (lsM false size code) hs hs1 (by omega) (Or.inr ⟨rfl, e1⟩)
      refine ⟨m', ?_, (fm1.tr f2).tr j2, j3⟩
      refine Eq.trans u_H_X9_layTables_11 ?_
      refine e_bnd (m_codes hs) ?_
      refine e_f (by rw [nI_leI (by omega) (by omega)]; omega) ?_
      refine e_bnd g1 ?_
      refine e_f (by rw [nI_eq (by omega) (by omega)]; exact z) ?_
      refine e_ldR fmO fmR2 ?_
      refine e_ldR fmO fmR2 ?_
      refine e_alIV fmA2 (j := 64 * size + lsM false size code) (by rw [mulL, nI_add]) (by omega) rd ?_
      refine e_asI fmA2 (j := 64 * size + code) (by rw [mulL, nI_add]) (by omega) ?_
      refine e_nm ?_
      rw [addR]
      rw [e3] at j1
      exact j1
theorem m_lay_c_true {k : Nat → Int32 → Int32 → vS → Option (Unit × vS)} (hN : 1000 ≤ N) {size : Nat} (hs : size < 5) (hs1 : sh_ true ≤ size) : ∀ (d code n : Nat) (m : vM), code + d = cds size → d < n → MT true size code m → ∃ m', H_X9_layTables_107 N k n 322 (nI (19 * sh_ true + nxt true size code)) (nI size) (nI code) (S m) = k 322 (nI (19 * sh_ true + nxt true (size + 1) 0)) (nI (size + 1)) (S m') ∧ Fr (laP true) m m' ∧ MT true (size + 1) 0 m'
  | _, _, 0, _, _, h, _ => by omega
  | 0, code, n + 1, m, hc, _, hM => by
    have h64 := cds_64 size hs
    obtain rfl : code = cds size := by omega
    have d3 := nxt_c true size hs hs1
    refine ⟨m, ?_, Fr.rf, MT_c hs hs1 hM⟩
    refine Eq.trans u_H_X9_layTables_107 ?_
    refine e_bnd (m_codes hs) ?_
    refine e_t (by rw [nI_leI (by omega) (by omega)]; omega) ?_
    refine e_nm ?_
    rw [addR, d3]
  | d + 1, code, n + 1, m, hc, hd, hM => by
    have h64 := cds_64 size hs
    have hcd : code < cds size := by omega
    have dd := nxt_d true size hs code (by omega) ⟨hs1, hcd⟩
    have hk : nxt true size code ≤ 29 := nxt_le true size code
    obtain ⟨m1, g1, g2⟩ := m_least (N := N) (m := m) (q := true) hN hs (show code < 64 by omega) (by exact fun _ => hs1)
    have hM1 : MT true size code m1 := hM.fr (fun b j hb => g2.i (by omega))
    have fm1 : Fr (laP true) m m1 := g2.mo (fun b j w => Or.inl w)
    by_cases z : lsM true size code = code
    · obtain ⟨e1, e2, e3, e4, e5⟩ := dd.1 z
      have e4 : nxt true size code < 29 := e4
      have f2 : Fr (laP true) m1 (wI (wI (wI (wI m1 323 (19 * sh_ true + nxt true size code) (nI size)) 324 (19 * sh_ true + nxt true size code) (nI code)) (aBy true) (64 * size + code) (nI (nxt true size code))) (aBy true) (64 * size + code) (nI (nxt true size code))) := (((Fr.rf.sI (P := laP true) (by unfold laP aBy; (show _ ∨ ((_ ∨ _) ∧ 19 ≤ 19 + _) ∨ _; omega))).sI (by unfold laP aBy; (show _ ∨ ((_ ∨ _) ∧ 19 ≤ 19 + _) ∨ _; omega))).sI (Or.inr (Or.inr rfl))).sI (Or.inr (Or.inr rfl))
      obtain ⟨m', j1, j2, j3⟩ := m_lay_c_true (k := k) hN hs hs1 d (code + 1) n _ (by omega) (by omega) (MT_y (m := m1) hs hcd hs1 z dd hM1)
      refine ⟨m', ?_, (fm1.tr f2).tr j2, j3⟩
      refine Eq.trans u_H_X9_layTables_107 ?_
      refine e_bnd (m_codes hs) ?_
      refine e_f (by rw [nI_leI (by omega) (by omega)]; omega) ?_
      refine e_bnd g1 ?_
      refine e_t (by rw [z]) ?_
      refine e_ldR fmO fmR0 ?_
      refine e_asI fmA0 (j := 19 * sh_ true + nxt true size code) rfl (by show 19 * 1 + nxt true size code < 48 ∧ 48 < 2 ^ 31; omega) ?_
      refine e_ldR fmO fmR1 ?_
      refine e_asI fmA1 (j := 19 * sh_ true + nxt true size code) rfl (by show 19 * 1 + nxt true size code < 48 ∧ 48 < 2 ^ 31; omega) ?_
      refine e_ldR fmO fmR3 ?_
      rw [subR (by show 19 ≤ 19 + _; omega), show 19 * sh_ true + nxt true size code - (OfNat.ofNat 19 : Nat) = nxt true size code from (by show 19 + nxt true size code - 19 = _; omega)]
      refine e_asI fmA3 (j := 64 * size + code) (by rw [mulL, nI_add]) (by omega) ?_
      refine e_nm ?_
      refine e_ldR fmO fmR3 ?_
      refine e_ldR fmO fmR3 ?_
      refine e_alIV fmA3 (j := 64 * size + code) (by rw [z, mulL, nI_add]) (by omega) (show _ = nI (nxt true size code) from rI_s _ _ _ _) ?_
      refine e_asI fmA3 (j := 64 * size + code) (by rw [mulL, nI_add]) (by omega) ?_
      refine e_nm ?_
      rw [addR, addR]
      rw [e5, ← Nat.add_assoc] at j1
      exact j1
    · obtain ⟨e1, e2, e3⟩ := dd.2 z
      have f2 : Fr (laP true) m1 (wI m1 (aBy true) (64 * size + code) (nI (nu_ true size code))) := Fr.rf.sI (Or.inr (Or.inr rfl))
      obtain ⟨m', j1, j2, j3⟩ := m_lay_c_true (k := k) hN hs hs1 d (code + 1) n _ (by omega) (by omega) (MT_n (m := m1) hs hcd hs1 z dd hM1)
      have rd : rI m1 326 (64 * size + lsM true size code) = nI (nu_ true size code) := by
        rw [e2]
        exact hM1.2 size (lsM true size code) hs hs1 (by omega) (Or.inr ⟨rfl, e1⟩)
      refine ⟨m', ?_, (fm1.tr f2).tr j2, j3⟩
      refine Eq.trans u_H_X9_layTables_107 ?_
      refine e_bnd (m_codes hs) ?_
      refine e_f (by rw [nI_leI (by omega) (by omega)]; omega) ?_
      refine e_bnd g1 ?_
      refine e_f (by rw [nI_eq (by omega) (by omega)]; exact z) ?_
      refine e_ldR fmO fmR3 ?_
      refine e_ldR fmO fmR3 ?_
      refine e_alIV fmA3 (j := 64 * size + lsM true size code) (by rw [mulL, nI_add]) (by omega) rd ?_
      refine e_asI fmA3 (j := 64 * size + code) (by rw [mulL, nI_add]) (by omega) ?_
      refine e_nm ?_
      rw [addR]
      rw [e3] at j1
      exact j1
theorem m_lay_s_f (hN : 1000 ≤ N) : ∀ (d size n : Nat) (m : vM), size + d = 5 → d < n → MT false size 0 m → ∃ m', H_X9_layTables_4 N n 322 (nI (19 * sh_ false + nxt false size 0)) (nI size) (S m) = H_X9_layTables_100 N N 322 (nI (19 * sh_ false + nxt false 5 0)) 1 (S m') ∧ Fr (laP false) m m' ∧ MT false 5 0 m'
  | _, _, 0, _, _, h, _ => by omega
  | 0, size, n + 1, m, hs, _, hM => by
    obtain rfl : size = 5 := by omega
    refine ⟨m, ?_, Fr.rf, hM⟩
    refine Eq.trans u_H_X9_layTables_4 ?_
    exact e_t (by decide) rfl
  | d + 1, size, n + 1, m, hs, hd, hM => by
    have h64 := cds_64 size (by omega)
    obtain ⟨m1, g1, g2, g3⟩ := m_lay_c_false (N := N) (k := H_X9_layTables_4 N n) (size := size) hN (by omega) (Nat.zero_le _) (cds size) 0 N m (by omega) (by omega) hM
    obtain ⟨m', j1, j2, j3⟩ := m_lay_s_f hN d (size + 1) n m1 (by omega) (by omega) g3
    refine ⟨m', ?_, g2.tr j2, j3⟩
    refine Eq.trans u_H_X9_layTables_4 ?_
    refine e_f (by rw [leL (by decide) (by omega)]; show ¬ 5 ≤ size; omega) ?_
    exact g1.trans j1
theorem m_lay_s_t (hN : 1000 ≤ N) : ∀ (d size n : Nat) (m : vM), size + d = 5 → d < n → 1 ≤ size → MT true size 0 m → ∃ m', H_X9_layTables_100 N n 322 (nI (19 * sh_ true + nxt true size 0)) (nI size) (S m) = some ((), S m') ∧ Fr (laP true) m m' ∧ MT true 5 0 m'
  | _, _, 0, _, _, h, _, _ => by omega
  | 0, size, n + 1, m, hs, _, _, hM => by
    obtain rfl : size = 5 := by omega
    refine ⟨m, ?_, Fr.rf, hM⟩
    refine Eq.trans u_H_X9_layTables_100 ?_
    exact e_t (by decide) rfl
  | d + 1, size, n + 1, m, hs, hd, h1, hM => by
    have h64 := cds_64 size (by omega)
    obtain ⟨m1, g1, g2, g3⟩ := m_lay_c_true (N := N) (k := H_X9_layTables_100 N n) (size := size) hN (by omega) h1 (cds size) 0 N m (by omega) (by omega) hM
    obtain ⟨m', j1, j2, j3⟩ := m_lay_s_t hN d (size + 1) n m1 (by omega) (by omega) (by omega) g3
    refine ⟨m', ?_, g2.tr j2, j3⟩
    refine Eq.trans u_H_X9_layTables_100 ?_
    refine e_f (by rw [leL (by decide) (by omega)]; show ¬ 5 ≤ size; omega) ?_
    exact g1.trans j1
/-- the model's tables -/
def TabM (m : vM) : Prop := (∀ q k, k < mny q → rI m 323 (19 * sh_ q + k) = nI (sz_ q k) ∧ rI m 324 (19 * sh_ q + k) = nI (cd_ q k)) ∧ ∀ q size code, size < 5 → sh_ q ≤ size → code < cds size → rI m (aBy q) (64 * size + code) = nI (nu_ q size code)
theorem nxt_0 : ∀ q, nxt q (sh_ q) 0 = 0 ∧ nxt q 5 0 = mny q := by decide +kernel
theorem nxt_s0 : nxt false 0 0 = 0 ∧ nxt true 1 0 = 0 := by decide +kernel
theorem m_layTables (hN : 1000 ≤ N) : ∃ m', F_X9_layTables N 322 (S m) = some ((), S m') ∧ Fr (fun b _ => b = 327 ∨ (323 ≤ b ∧ b ≤ 326)) m m' ∧ TabM m' := by
  obtain ⟨m1, g1, g2, g3⟩ := m_lay_s_f (N := N) hN 5 0 N m rfl (by omega) ⟨fun k hk => by rw [nxt_s0.1] at hk; omega, fun size' code' a1 a2 a3 a4 => by omega⟩
  obtain ⟨m', j1, j2, j3⟩ := m_lay_s_t (N := N) hN 4 1 N m1 rfl (by omega) (by omega) ⟨fun k hk => by rw [nxt_s0.2] at hk; omega, fun size' code' a1 a2 a3 a4 => by
    have a2 : 1 ≤ size' := a2
    omega⟩
  refine ⟨m', ?_, (g2.mo (fun b j w => by
    have w : b = 327 ∨ ((b = 323 ∨ b = 324) ∧ _) ∨ b = 325 := w
    omega)).tr (j2.mo (fun b j w => by
    have w : b = 327 ∨ ((b = 323 ∨ b = 324) ∧ _) ∨ b = 326 := w
    omega)), fun q k hk => ?_, fun q size code a1 a2 a3 => ?_⟩
  · unfold F_X9_layTables
    refine e_rcv fmO ?_
    rw [nxt_s0.1] at g1
    rw [(nxt_0 false).2] at g1
    rw [nxt_s0.2] at j1
    exact g1.trans j1
  · cases q with
    | true => exact j3.1 k (by rw [(nxt_0 true).2]; exact hk)
    | false =>
      have hk : k < 19 := hk
      have h := g3.1 k (by rw [(nxt_0 false).2]; exact hk)
      have e : 19 * sh_ false + k = k := Nat.zero_add k
      rw [e] at h ⊢
      rw [j2.i (by show ¬ (323 = 327 ∨ ((323 = 323 ∨ 323 = 324) ∧ 19 ≤ k) ∨ 323 = 326); omega), j2.i (by show ¬ (324 = 327 ∨ ((324 = 323 ∨ 324 = 324) ∧ 19 ≤ k) ∨ 324 = 326); omega)]
      exact h
  · cases q with
    | true => exact j3.2 size code a1 a2 a3 (Or.inl a1)
    | false =>
      show rI m' 325 _ = _
      rw [j2.i (by show ¬ (325 = 327 ∨ ((325 = 323 ∨ 325 = 324) ∧ _) ∨ 325 = 326); omega)]
      exact g3.2 size code a1 a2 a3 (Or.inl a1)
end LAY
