section UROWS
theorem u_J_X1_numberAll_115 {N : Nat} {k4 : Nat → Int32 → Int32 → vS → Option (Unit × vS)} {k36 : Nat → Int32 → Int32 → Int32 → Int32 → vS → Option (Unit × vS)} {a0 : Nat} {l1 : Int32} {l2 : Int32} {l3 : Int32} {l4 : Int32} {s : vS} : J_X1_numberAll_115 N k4 k36 a0 l1 l2 l3 l4 s = (nm (l4 + (1 : Int32)) (fun l4_18 => k36 a0 l1 l2 l3 l4_18 s)) := rfl
theorem u_J_X1_numberAll_97 {N : Nat} {k4 : Nat → Int32 → Int32 → vS → Option (Unit × vS)} {k36 : Nat → Int32 → Int32 → Int32 → Int32 → vS → Option (Unit × vS)} {a0 : Nat} {l1 : Int32} {l2 : Int32} {l3 : Int32} {l4 : Int32} {l5 : Int32} {s : vS} : J_X1_numberAll_97 N k4 k36 a0 l1 l2 l3 l4 l5 s = (ldR s a0 1 7 (fun r13 => alR s r13 6 l2 (fun r14 => ldR s a0 1 7 (fun r15 => alR s r15 6 l2 (fun r16 => alI s r16 l5 (fun v17 => asI s r14 l4 v17 (fun s => J_X1_numberAll_115 N k4 k36 a0 l1 l2 l3 l4 s))))))) := rfl
theorem u_H_X1_numberAll_36 {N : Nat} {k4 : Nat → Int32 → Int32 → vS → Option (Unit × vS)} {n : Nat} {a0 : Nat} {l1 : Int32} {l2 : Int32} {l3 : Int32} {l4 : Int32} {s : vS} : H_X1_numberAll_36 N k4 (n + 1) a0 l1 l2 l3 l4 s = (if l3 ≤ l4 then (nm (l2 + (1 : Int32)) (fun l2_5 => k4 a0 l1 l2_5 s)) else (bnd (F_X1_leastCode N a0 l2 l4 s) (fun v6 s => if v6 = l4 then (ldI s a0 1 2 (fun v7 => if v7 ≤ l1 then (J_X1_numberAll_97 N k4 (H_X1_numberAll_36 N k4 n) a0 l1 l2 l3 l4 v6 s) else (ldR s a0 1 3 (fun r8 => asI s r8 l1 l2 (fun s => ldR s a0 1 4 (fun r9 => asI s r9 l1 l4 (fun s => ldR s a0 1 7 (fun r10 => alR s r10 6 l2 (fun r11 => asI s r11 l4 l1 (fun s => nm (l1 + (1 : Int32)) (fun l1_12 => J_X1_numberAll_115 N k4 (H_X1_numberAll_36 N k4 n) a0 l1_12 l2 l3 l4 s))))))))))) else (J_X1_numberAll_97 N k4 (H_X1_numberAll_36 N k4 n) a0 l1 l2 l3 l4 v6 s)))) := rfl
theorem u_J_X1_numberAll_32 {N : Nat} {k4 : Nat → Int32 → Int32 → vS → Option (Unit × vS)} {a0 : Nat} {l1 : Int32} {l2 : Int32} {k0 : Int32} {s : vS} : J_X1_numberAll_32 N k4 a0 l1 l2 k0 s = (H_X1_numberAll_36 N k4 N a0 l1 l2 k0 (0 : Int32) s) := rfl
theorem u_H_X1_numberAll_4 {N : Nat} {n : Nat} {a0 : Nat} {l1 : Int32} {l2 : Int32} {s : vS} : H_X1_numberAll_4 N (n + 1) a0 l1 l2 s = (if (4 : Int32) < l2 then (ldR s a0 1 6 (fun r1 => asI s r1 (5 : Int32) l1 (fun s => some ((), s)))) else (ldR s a0 1 6 (fun r2 => asI s r2 l2 l1 (fun s => bnd (F_X1_hasSize N a0 l2 s) (fun v3 s => if v3 = (0 : Int32) then (J_X1_numberAll_32 N (H_X1_numberAll_4 N n) a0 l1 l2 (0 : Int32) s) else (bnd (F_X1_codesOf N l2 s) (fun v4 s => J_X1_numberAll_32 N (H_X1_numberAll_4 N n) a0 l1 l2 v4 s))))))) := rfl
theorem u_F_X1_numberAll {N : Nat} {a0 : Nat} {s : vS} : F_X1_numberAll N a0 s = (rcv s a0 1 (H_X1_numberAll_4 N N a0 (0 : Int32) (0 : Int32) s)) := rfl
end UROWS
section NUMB
variable {N k : Nat} {m m' : vM} {s : vS} {κ κ' : (Nat × Nat) × (Nat → Nat × Nat) × (Nat → Nat → Option Nat)}
/-- a family's cells, as far as its numbers need them -/
def FA (κ : (Nat × Nat) × (Nat → Nat × Nat) × (Nat → Nat → Option Nat)) (q : Bool) : Prop := FamG κ q ∧ (κ.2.2 (fo q) 3 = some (aSz q) ∧ κ.2.2 (fo q) 4 = some (aCd q) ∧ κ.2.2 (fo q) 6 = some (aFs q) ∧ κ.2.2 (fo q) 9 = some (aRe q)) ∧ (aSz q < κ.1.1 ∧ κ.2.1 (aSz q) = (1, mny q)) ∧ (aCd q < κ.1.1 ∧ κ.2.1 (aCd q) = (1, mny q)) ∧ (aFs q < κ.1.1 ∧ κ.2.1 (aFs q) = (1, 6)) ∧ (aRe q < κ.1.1 ∧ κ.2.1 (aRe q) = (1, 24))
/-- the family's head -/
def HdG (q : Bool) (m : vM) : Prop := rI m (fo q) 0 = nI (sh_ q) ∧ rI m (fo q) 1 = nI (sh_ q) ∧ rI m (fo q) 2 = nI (mny q) ∧ ∀ j, j < 24 → rI m (aRe q) j = nI (reL.getD j 0)
def MC (q : Bool) (size code : Nat) (m : vM) : Prop := (∀ k, k < nxt q size code → rI m (aSz q) k = nI (sz_ q k) ∧ rI m (aCd q) k = nI (cd_ q k)) ∧ ∀ size' code', size' < 5 → sh_ q ≤ size' → code' < cds size' → (size' < size ∨ (size' = size ∧ code' < code)) → rI m (aNu q + size') code' = nI (nu_ q size' code')
def nuP (q : Bool) (b j : Nat) : Prop := b = aSz q ∨ b = aCd q ∨ (aNu q ≤ b ∧ b ≤ aNu q + 4)
theorem adr2 (q : Bool) : (fo q + 1 = aFs q ∧ fo q + 2 = aNn q ∧ fo q + 3 = aNu q ∧ fo q + 8 = aRe q ∧ fo q + 9 = aSz q ∧ fo q + 10 = aCd q) ∧ mny q ≤ 29 := by cases q <;> decide
theorem HdG.fr {q : Bool} (h : HdG q m) (f : Fr (nuP q) m m') : HdG q m' := by
  have ad := adr2 q
  obtain ⟨h1, h2, h3, h4⟩ := h
  exact ⟨by rw [f.i (by unfold nuP; omega)]; exact h1, by rw [f.i (by unfold nuP; omega)]; exact h2, by rw [f.i (by unfold nuP; omega)]; exact h3, fun j hj => by rw [f.i (by unfold nuP; omega)]; exact h4 j hj⟩
theorem ls_d (q : Bool) (size : Nat) (hs : size < 5) (code : Nat) (hc : code < 64) (h : sh_ q ≤ size ∧ code < cds size) : (lsC q size code = code → nu_ q size code = nxt q size code ∧ sz_ q (nxt q size code) = size ∧ cd_ q (nxt q size code) = code ∧ nxt q size code < mny q ∧ nxt q size (code + 1) = nxt q size code + 1) ∧ (¬ lsC q size code = code → lsC q size code < code ∧ nu_ q size code = nu_ q size (lsC q size code) ∧ nxt q size (code + 1) = nxt q size code) := by
  have e := ls_b q size hs code hc h
  unfold nxB at e
  constructor
  · intro z
    rw [if_pos z] at e
    exact of_decide_eq_true e
  · intro z
    rw [if_neg z] at e
    exact of_decide_eq_true e
theorem g_numb_c {q : Bool} {size : Nat} {k4 : Nat → Int32 → Int32 → vS → Option (Unit × vS)} (hN : 100 ≤ N) (hF : FA κ q) (hs : size < 5) (hs1 : sh_ q ≤ size) : ∀ (d code n : Nat) (m : vM), code + d = cds size → d < n → HdG q m → MC q size code m → ∃ m', H_X1_numberAll_36 N k4 n (fo q) (nI (nxt q size code)) (nI size) (nI (cds size)) (nI code) (G κ m) = k4 (fo q) (nI (nxt q (size + 1) 0)) (nI (size + 1)) (G κ m') ∧ Fr (nuP q) m m' ∧ HdG q m' ∧ MC q (size + 1) 0 m'
  | _, _, 0, _, _, h, _, _ => by omega
  | 0, code, n + 1, m, hc, _, hH, hM => by
    have h64 := cds_64 size hs
    obtain rfl : code = cds size := by omega
    refine ⟨m, ?_, Fr.rf, hH, fun k hk => hM.1 k (by rw [nxt_c q size hs hs1] at hk; exact hk), fun size' code' a1 a2 a3 a4 => hM.2 size' code' a1 a2 a3 ?_⟩
    · refine Eq.trans u_H_X1_numberAll_36 ?_
      refine e_t (by rw [nI_leI (by omega) (by omega)]; omega) ?_
      refine e_nm ?_
      rw [addR, nxt_c q size hs hs1]
    · by_cases z : size' = size
      · exact Or.inr ⟨z, by rw [← z]; exact a3⟩
      · exact Or.inl (by omega)
  | d + 1, code, n + 1, m, hc, hd, hH, hM => by
    have ad := adr2 q
    have h64 := cds_64 size hs
    have hcd : code < cds size := by omega
    have dd := ls_d q size hs code (by omega) ⟨hs1, hcd⟩
    have hk := nxt_le q size code
    obtain ⟨⟨f1, f2, f3, f4⟩, ⟨g3, g4, g6, g9⟩, t3, t4, t6, t9⟩ := id hF
    obtain ⟨n1, n2⟩ := f4 size hs
    obtain ⟨h0, h1, h2, hre⟩ := id hH
    have le := g_least_l (N := N) (m := m) (q := q) (size := size) (code := code) hN hs (show code < 64 by omega) f1 h0 t9 hre 24 0 N code rfl (by omega) (by omega)
    have start : ∀ R, (if nI (lsC q size code) = nI code then (ldI (G κ m) (fo q) 1 2 (fun v7 => if v7 ≤ nI (nxt q size code) then (J_X1_numberAll_97 N k4 (H_X1_numberAll_36 N k4 n) (fo q) (nI (nxt q size code)) (nI size) (nI (cds size)) (nI code) (nI (lsC q size code)) (G κ m)) else (ldR (G κ m) (fo q) 1 3 (fun r8 => asI (G κ m) r8 (nI (nxt q size code)) (nI size) (fun s => ldR s (fo q) 1 4 (fun r9 => asI s r9 (nI (nxt q size code)) (nI code) (fun s => ldR s (fo q) 1 7 (fun r10 => alR s r10 6 (nI size) (fun r11 => asI s r11 (nI code) (nI (nxt q size code)) (fun s => nm (nI (nxt q size code) + (1)) (fun l1_12 => J_X1_numberAll_115 N k4 (H_X1_numberAll_36 N k4 n) (fo q) l1_12 (nI size) (nI (cds size)) (nI code) s))))))))))) else (J_X1_numberAll_97 N k4 (H_X1_numberAll_36 N k4 n) (fo q) (nI (nxt q size code)) (nI size) (nI (cds size)) (nI code) (nI (lsC q size code)) (G κ m))) = R → H_X1_numberAll_36 N k4 (n + 1) (fo q) (nI (nxt q size code)) (nI size) (nI (cds size)) (nI code) (G κ m) = R := fun R hR => by
      refine Eq.trans u_H_X1_numberAll_36 ?_
      refine e_f (by rw [nI_leI (by omega) (by omega)]; omega) ?_
      refine e_bnd (r := nI (lsC q size code)) (s' := G κ m) ?_ hR
      unfold F_X1_leastCode
      refine k_rcv f1 ?_
      refine k_ldR f1 g9 ?_
      refine k_aln t9 (by decide) ?_
      exact le
    by_cases z : lsC q size code = code
    · obtain ⟨e1, e2, e3, e4, e5⟩ := dd.1 z
      have f : Fr (nuP q) m (wI (wI (wI m (aSz q) (nxt q size code) (nI size)) (aCd q) (nxt q size code) (nI code)) (aNu q + size) code (nI (nxt q size code))) := ((Fr.rf.sI (Or.inl rfl)).sI (Or.inr (Or.inl rfl))).sI (Or.inr (Or.inr ⟨by omega, by omega⟩))
      obtain ⟨m', j1, j2, j3, j4⟩ := g_numb_c (k4 := k4) hN hF hs hs1 d (code + 1) n _ (by omega) (by omega) (hH.fr f) ⟨fun k hk => by
        rw [e5] at hk
        by_cases w : k = nxt q size code
        · refine ⟨?_, ?_⟩
          · rw [w, rI_n _ _ (by omega), rI_n _ _ (by omega), rI_s, e2]
          · rw [w, rI_n _ _ (by omega), rI_s, e3]
        · have hh := hM.1 k (by omega)
          refine ⟨?_, ?_⟩
          · rw [rI_n _ _ (by omega), rI_n _ _ (by omega), rI_n _ _ (by omega)]
            exact hh.1
          · rw [rI_n _ _ (by omega), rI_n _ _ (by omega), rI_n _ _ (by omega)]
            exact hh.2, fun size' code' a1 a2 a3 a4 => by
        by_cases w : size' = size ∧ code' = code
        · obtain ⟨rfl, rfl⟩ := w
          rw [rI_s, e1]
        · rw [rI_n _ _ (by omega), rI_n _ _ (by omega), rI_n _ _ (by omega)]
          exact hM.2 size' code' a1 a2 a3 (by omega)⟩
      refine ⟨m', start _ ?_, f.tr j2, j3, j4⟩
      refine e_t (by rw [z]) ?_
      refine k_ldIV f1 h2 ?_
      refine e_f (by rw [nI_leI (by omega) (by omega)]; omega) ?_
      refine k_ldR f1 g3 ?_
      refine k_asI (aGat t3) rfl (by omega) ?_
      refine k_ldR f1 g4 ?_
      refine k_asI (aGat t4) rfl (by omega) ?_
      refine k_ldR f1 f2 ?_
      refine k_alR (aGat f3) (by decide) rfl (by omega) n1 ?_
      refine k_asI (aGat n2) rfl (by omega) ?_
      refine e_nm ?_
      refine e_nm ?_
      rw [addR, addR]
      rw [e5] at j1
      exact j1
    · obtain ⟨e1, e2, e3⟩ := dd.2 z
      have f : Fr (nuP q) m (wI m (aNu q + size) code (nI (nu_ q size code))) := Fr.rf.sI (Or.inr (Or.inr ⟨by omega, by omega⟩))
      have rd : rI m (aNu q + size) (lsC q size code) = nI (nu_ q size code) := by
        rw [e2]
        exact hM.2 size (lsC q size code) hs hs1 (by omega) (Or.inr ⟨rfl, e1⟩)
      obtain ⟨m', j1, j2, j3, j4⟩ := g_numb_c (k4 := k4) hN hF hs hs1 d (code + 1) n _ (by omega) (by omega) (hH.fr f) ⟨fun k hk => by
        rw [e3] at hk
        rw [rI_n _ _ (by omega), rI_n _ _ (by omega)]
        exact hM.1 k hk, fun size' code' a1 a2 a3 a4 => by
        by_cases w : size' = size ∧ code' = code
        · obtain ⟨rfl, rfl⟩ := w
          rw [rI_s]
        · rw [rI_n _ _ (by omega)]
          exact hM.2 size' code' a1 a2 a3 (by omega)⟩
      refine ⟨m', start _ ?_, f.tr j2, j3, j4⟩
      refine e_f (by rw [nI_eq (by omega) (by omega)]; exact z) ?_
      unfold J_X1_numberAll_97
      refine k_ldR f1 f2 ?_
      refine k_alR (aGat f3) (by decide) rfl (by omega) n1 ?_
      refine k_ldR f1 f2 ?_
      refine k_alR (aGat f3) (by decide) rfl (by omega) n1 ?_
      refine k_alIV (aGat n2) rfl (by omega) rd ?_
      refine k_asI (aGat n2) rfl (by omega) ?_
      refine e_nm ?_
      rw [addR]
      rw [e3] at j1
      exact j1
theorem g_hasSize {q : Bool} (ho : oG κ (fo q) 1 = true) (h1 : rI m (fo q) 1 = nI (sh_ q)) (x : Int32) : F_X1_hasSize N (fo q) x (G κ m) = some (b2 (nI (sh_ q) ≤ x ∧ x ≤ 4), G κ m) := by
  unfold F_X1_hasSize
  refine k_rcv ho ?_
  refine k_ldIV ho h1 ?_
  by_cases h1 : x < nI (sh_ q)
  · refine e_t h1 ?_
    rw [b2_f (fun h => absurd h.1 (Int32.not_le.mpr h1))]
    rfl
  · refine e_f h1 ?_
    by_cases h2 : (4 : Int32) < x
    · refine e_t h2 ?_
      rw [b2_f (fun h => absurd h.2 (Int32.not_le.mpr h2))]
      rfl
    · refine e_f h2 ?_
      rw [b2_t ⟨Int32.not_lt.mp h1, Int32.not_lt.mp h2⟩]
      rfl
theorem fs_n : ∀ q size, size < 6 → fs_ q size = nxt q size 0 := by decide +kernel
theorem nxt_sh : ∀ q size, size < 5 → ¬ sh_ q ≤ size → nxt q (size + 1) 0 = nxt q size 0 := by decide +kernel
def nfP (q : Bool) (b j : Nat) : Prop := nuP q b j ∨ b = aFs q
theorem HdG.ff {q : Bool} (h : HdG q m) (f : Fr (fun b _ => b = aFs q) m m') : HdG q m' := by
  have ad := adr2 q
  obtain ⟨h1, h2, h3, h4⟩ := h
  exact ⟨by rw [f.i (by omega)]; exact h1, by rw [f.i (by omega)]; exact h2, by rw [f.i (by omega)]; exact h3, fun j hj => by rw [f.i (by omega)]; exact h4 j hj⟩
theorem MC.ff {q : Bool} {size code : Nat} (h : MC q size code m) (f : Fr (fun b _ => b = aFs q) m m') : MC q size code m' := by
  have ad := adr2 q
  exact ⟨fun k hk => by rw [f.i (by omega), f.i (by omega)]; exact h.1 k hk, fun size' code' a1 a2 a3 a4 => by rw [f.i (by omega)]; exact h.2 size' code' a1 a2 a3 a4⟩
theorem g_numb_s {q : Bool} (hN : 100 ≤ N) (hF : FA κ q) : ∀ (d size n : Nat) (m : vM), size + d = 5 → d < n → HdG q m → MC q size 0 m → (∀ j, j < size → rI m (aFs q) j = nI (fs_ q j)) → ∃ m', H_X1_numberAll_4 N n (fo q) (nI (nxt q size 0)) (nI size) (G κ m) = some ((), G κ m') ∧ Fr (nfP q) m m' ∧ HdG q m' ∧ MC q 5 0 m' ∧ ∀ j, j < 6 → rI m' (aFs q) j = nI (fs_ q j)
  | _, _, 0, _, _, h, _, _, _ => by omega
  | 0, size, n + 1, m, hs, _, hH, hM, hf => by
    obtain rfl : size = 5 := by omega
    obtain ⟨⟨f1, f2, f3, f4⟩, ⟨g3, g4, g6, g9⟩, t3, t4, t6, t9⟩ := id hF
    have f : Fr (fun b _ => b = aFs q) m (wI m (aFs q) 5 (nI (nxt q 5 0))) := Fr.rf.sI rfl
    refine ⟨_, ?_, f.mo (fun _ _ w => Or.inr w), hH.ff f, hM.ff f, fun j hj => ?_⟩
    · refine Eq.trans u_H_X1_numberAll_4 ?_
      refine e_t (by decide) ?_
      refine k_ldR f1 g6 ?_
      exact k_asI (aGat t6) (j := 5) rfl (by omega) rfl
    · by_cases w : j = 5
      · rw [w, rI_s, fs_n q 5 (by omega)]
      · rw [rI_n _ _ (by omega)]; exact hf j (by omega)
  | d + 1, size, n + 1, m, hs, hd, hH, hM, hf => by
    obtain ⟨⟨f1, f2, f3, f4⟩, ⟨g3, g4, g6, g9⟩, t3, t4, t6, t9⟩ := id hF
    have ad := adr2 q
    have f : Fr (fun b _ => b = aFs q) m (wI m (aFs q) size (nI (nxt q size 0))) := Fr.rf.sI rfl
    have hH1 := hH.ff f
    have hM1 := hM.ff f
    have hf1 : ∀ j, j < size + 1 → rI (wI m (aFs q) size (nI (nxt q size 0))) (aFs q) j = nI (fs_ q j) := fun j hj => by
      by_cases w : j = size
      · rw [w, rI_s, fs_n q size (by omega)]
      · rw [rI_n _ _ (by omega)]; exact hf j (by omega)
    have h64 := cds_64 size (by omega)
    have start : ∀ R, (if b2 (nI (sh_ q) ≤ nI size ∧ nI size ≤ 4) = (0 : Int32) then (J_X1_numberAll_32 N (H_X1_numberAll_4 N n) (fo q) (nI (nxt q size 0)) (nI size) (0) (G κ (wI m (aFs q) size (nI (nxt q size 0))))) else (J_X1_numberAll_32 N (H_X1_numberAll_4 N n) (fo q) (nI (nxt q size 0)) (nI size) (nI (cds size)) (G κ (wI m (aFs q) size (nI (nxt q size 0)))))) = R → H_X1_numberAll_4 N (n + 1) (fo q) (nI (nxt q size 0)) (nI size) (G κ m) = R := fun R hR => by
      refine Eq.trans u_H_X1_numberAll_4 ?_
      refine e_f (by rw [ltL (by decide) (by omega)]; show ¬ 4 < size; omega) ?_
      refine k_ldR f1 g6 ?_
      refine k_asI (aGat t6) (j := size) rfl (by omega) ?_
      refine e_bnd (g_hasSize f1 hH1.2.1 _) ?_
      by_cases w : b2 (nI (sh_ q) ≤ nI size ∧ nI size ≤ 4) = (0 : Int32)
      · rw [if_pos w] at hR
        exact e_t w hR
      · rw [if_neg w] at hR
        refine e_f w ?_
        exact e_bnd (c_codesOf (by omega)) hR
    by_cases z : sh_ q ≤ size
    · obtain ⟨m1, j1, j2, j3, j4⟩ := g_numb_c (N := N) (k4 := H_X1_numberAll_4 N n) (size := size) hN hF (by omega) z (cds size) 0 N _ (by omega) (by omega) hH1 hM1
      obtain ⟨m', l1, l2, l3, l4, l5⟩ := g_numb_s hN hF d (size + 1) n m1 (by omega) (by omega) j3 j4 (fun j hj => by rw [j2.i (by unfold nuP; omega)]; exact hf1 j hj)
      refine ⟨m', start _ ?_, ((f.mo (fun _ _ w => Or.inr w)).tr (j2.mo (fun _ _ w => Or.inl w))).tr l2, l3, l4, l5⟩
      refine e_f (by rw [b2_t ⟨(nI_leI (by omega) (by omega)).mpr z, (leR (by decide) (by omega)).mpr (by show size ≤ 4; omega)⟩]; decide) ?_
      exact j1.trans l1
    · have hsh := sh_lt q
      obtain ⟨m', l1, l2, l3, l4, l5⟩ := g_numb_s hN hF d (size + 1) n _ (by omega) (by omega) hH1 ⟨fun k hk => hM1.1 k (by rw [nxt_sh q size (by omega) z] at hk; exact hk), fun size' code' a1 a2 a3 a4 => by omega⟩ hf1
      refine ⟨m', start _ ?_, (f.mo (fun _ _ w => Or.inr w)).tr l2, l3, l4, l5⟩
      refine e_t (b2_f (fun w => z ((nI_leI (by omega) (by omega)).mp w.1))) ?_
      obtain ⟨N', rfl⟩ : ∃ N', N = N' + 1 := ⟨N - 1, by omega⟩
      unfold J_X1_numberAll_32
      refine Eq.trans u_H_X1_numberAll_36 ?_
      refine e_t (by decide) ?_
      refine e_nm ?_
      rw [nxt_sh q size (by omega) z] at l1
      rw [addR]
      exact l1
theorem nxt_00 : ∀ q, nxt q 0 0 = 0 ∧ nxt q 5 0 = mny q := by decide +kernel
/-- the family's numbers -/
def NuG (q : Bool) (m : vM) : Prop := (∀ k, k < mny q → rI m (aSz q) k = nI (sz_ q k) ∧ rI m (aCd q) k = nI (cd_ q k)) ∧ (∀ size code, size < 5 → sh_ q ≤ size → code < cds size → rI m (aNu q + size) code = nI (nu_ q size code)) ∧ ∀ j, j < 6 → rI m (aFs q) j = nI (fs_ q j)
theorem g_numberAll {q : Bool} (hN : 100 ≤ N) (hF : FA κ q) (hH : HdG q m) : ∃ m', F_X1_numberAll N (fo q) (G κ m) = some ((), G κ m') ∧ Fr (nfP q) m m' ∧ HdG q m' ∧ NuG q m' := by
  obtain ⟨m', l1, l2, l3, l4, l5⟩ := g_numb_s (N := N) (m := m) hN hF 5 0 N rfl (by omega) hH ⟨fun k hk => by rw [(nxt_00 q).1] at hk; omega, fun size' code' a1 a2 a3 a4 => by omega⟩ (fun j hj => absurd hj (Nat.not_lt_zero _))
  refine ⟨m', ?_, l2, l3, fun k hk => l4.1 k (by rw [(nxt_00 q).2]; exact hk), fun size code a1 a2 a3 => l4.2 size code a1 a2 a3 (Or.inl a1), l5⟩
  unfold F_X1_numberAll
  refine k_rcv hF.1.1 ?_
  rw [(nxt_00 q).1] at l1
  exact l1
end NUMB
