section UROWS
theorem u_J_X0_spread_136 {N : Nat} {k50 : Nat → Int32 → Int32 → Nat → Int32 → Int32 → vS → Option (Int32 × vS)} {a0 : Nat} {l1 : Int32} {l2 : Int32} {a3 : Nat} {l5 : Int32} {l7 : Int32} {s : vS} : J_X0_spread_136 N k50 a0 l1 l2 a3 l5 l7 s = (nm (l7 + (1 : Int32)) (fun l7_22 => k50 a0 l1 l2 a3 l5 l7_22 s)) := rfl
theorem u_J_X0_spread_134 {N : Nat} {s : vS} : J_X0_spread_134 N s = (rtZ (0 : Int32) s) := rfl
theorem u_H_X0_spread_50 {N : Nat} {n : Nat} {a0 : Nat} {l1 : Int32} {l2 : Int32} {a3 : Nat} {l5 : Int32} {l7 : Int32} {s : vS} : H_X0_spread_50 N (n + 1) a0 l1 l2 a3 l5 l7 s = (if l5 ≤ l7 then (rtZ (1 : Int32) s) else (ldR s a0 0 6 (fun r7 => bnd (F_X1_jointsIn N a3 l1 l2 l7 s) (fun v8 s => bnd (F_X1_pairsIn N a3 l1 l2 l7 s) (fun v9 s => bnd (F_X2_become N r7 (v8).toInt64 (v9).toInt64 s) (fun v10 s => ldR s a0 0 6 (fun r11 => ldJ s r11 2 0 (fun v12 => if (lg_cmp v12 (0 : Int64)) = (0 : Int32) then (J_X0_spread_136 N (H_X0_spread_50 N n) a0 l1 l2 a3 l5 l7 s) else (ldR s a0 0 6 (fun r13 => ldR s a0 0 5 (fun r14 => ldJ s r14 2 0 (fun v15 => ldR s a0 0 5 (fun r16 => ldJ s r16 2 1 (fun v17 => bnd (F_X2_times N r13 v15 v17 s) (fun v18 s => if v18 = (0 : Int32) then (J_X0_spread_134 N  s) else (ldR s a0 0 4 (fun r19 => ldR s a0 0 6 (fun r20 => bnd (F_X6_add N r19 l7 r20 s) (fun v21 s => if v21 = (0 : Int32) then (J_X0_spread_134 N  s) else (J_X0_spread_136 N (H_X0_spread_50 N n) a0 l1 l2 a3 l5 l7 s)))))))))))))))))))) := rfl
theorem u_J_X0_spread_44 {N : Nat} {a0 : Nat} {l1 : Int32} {l2 : Int32} {a3 : Nat} {l5 : Int32} {k0 : Int32} {s : vS} : J_X0_spread_44 N a0 l1 l2 a3 l5 k0 s = (H_X0_spread_50 N N a0 l1 l2 a3 l5 k0 s) := rfl
theorem u_J_X0_spread_22 {N : Nat} {a0 : Nat} {l1 : Int32} {l2 : Int32} {a3 : Nat} {l4 : Int32} {k0 : Int32} {s : vS} : J_X0_spread_22 N a0 l1 l2 a3 l4 k0 s = (bnd (F_X1_hasSize N a3 l4 s) (fun v4 s => if v4 = (0 : Int32) then (J_X0_spread_44 N a0 l1 l2 a3 k0 (0 : Int32) s) else (ldR s a3 1 6 (fun r5 => alI s r5 l4 (fun v6 => J_X0_spread_44 N a0 l1 l2 a3 k0 v6 s))))) := rfl
theorem u_F_X0_spread {N : Nat} {a0 : Nat} {l1 : Int32} {l2 : Int32} {a3 : Nat} {l4 : Int32} {s : vS} : F_X0_spread N a0 l1 l2 a3 l4 s = (rcv s a0 0 (bnd (F_X1_hasSize N a3 l4 s) (fun v1 s => if v1 = (0 : Int32) then (J_X0_spread_22 N a0 l1 l2 a3 l4 (0 : Int32) s) else (ldR s a3 1 6 (fun r2 => alI s r2 (l4 + (1 : Int32)) (fun v3 => J_X0_spread_22 N a0 l1 l2 a3 l4 v3 s)))))) := rfl
theorem u_J_X0_multiply_147 {N : Nat} {k17 : Nat → Nat → Nat → Int32 → Nat → Int32 → vS → Option (Int32 × vS)} {k30 : Nat → Nat → Nat → Int32 → Nat → Int32 → Int32 → vS → Option (Int32 × vS)} {a0 : Nat} {a1 : Nat} {a2 : Nat} {l4 : Int32} {a5 : Nat} {l6 : Int32} {l7 : Int32} {s : vS} : J_X0_multiply_147 N k17 k30 a0 a1 a2 l4 a5 l6 l7 s = (nm (l7 + (1 : Int32)) (fun l7_24 => k30 a0 a1 a2 l4 a5 l6 l7_24 s)) := rfl
theorem u_J_X0_multiply_145 {N : Nat} {s : vS} : J_X0_multiply_145 N s = (rtZ (0 : Int32) s) := rfl
theorem u_J_X0_multiply_139 {N : Nat} {k17 : Nat → Nat → Nat → Int32 → Nat → Int32 → vS → Option (Int32 × vS)} {k30 : Nat → Nat → Nat → Int32 → Nat → Int32 → Int32 → vS → Option (Int32 × vS)} {a0 : Nat} {a1 : Nat} {a2 : Nat} {l4 : Int32} {a5 : Nat} {l6 : Int32} {l7 : Int32} {k0 : Nat} {k1 : Int32} {k2 : Int32} {k3 : Nat} {k4 : Int32} {s : vS} : J_X0_multiply_139 N k17 k30 a0 a1 a2 l4 a5 l6 l7 k0 k1 k2 k3 k4 s = (bnd (F_X0_spread N k0 k1 k2 k3 k4 s) (fun v25 s => if v25 = (0 : Int32) then (J_X0_multiply_145 N  s) else (J_X0_multiply_147 N k17 k30 a0 a1 a2 l4 a5 l6 l7 s))) := rfl
theorem u_H_X0_multiply_30 {N : Nat} {k17 : Nat → Nat → Nat → Int32 → Nat → Int32 → vS → Option (Int32 × vS)} {n : Nat} {a0 : Nat} {a1 : Nat} {a2 : Nat} {l4 : Int32} {a5 : Nat} {l6 : Int32} {l7 : Int32} {s : vS} : H_X0_multiply_30 N k17 (n + 1) a0 a1 a2 l4 a5 l6 l7 s = (ldI s a5 1 2 (fun v5 => if v5 ≤ l7 then (nm (l6 + (1 : Int32)) (fun l6_6 => k17 a0 a1 a2 l4 a5 l6_6 s)) else (ldR s a1 6 1 (fun r7 => alJ s r7 l6 (fun v8 => if (lg_cmp v8 (0 : Int64)) = (0 : Int32) then (J_X0_multiply_147 N k17 (H_X0_multiply_30 N k17 n) a0 a1 a2 l4 a5 l6 l7 s) else (ldR s a2 6 1 (fun r9 => alJ s r9 l7 (fun v10 => if (lg_cmp v10 (0 : Int64)) = (0 : Int32) then (J_X0_multiply_147 N k17 (H_X0_multiply_30 N k17 n) a0 a1 a2 l4 a5 l6 l7 s) else (ldR s a0 0 5 (fun r11 => ldR s a1 6 1 (fun r12 => alJ s r12 l6 (fun v13 => ldR s a1 6 2 (fun r14 => alJ s r14 l6 (fun v15 => bnd (F_X2_become N r11 v13 v15 s) (fun v16 s => ldR s a0 0 5 (fun r17 => ldR s a2 6 1 (fun r18 => alJ s r18 l7 (fun v19 => ldR s a2 6 2 (fun r20 => alJ s r20 l7 (fun v21 => bnd (F_X2_times N r17 v19 v21 s) (fun v22 s => if v22 = (0 : Int32) then (J_X0_multiply_145 N  s) else (if l4 = (-1 : Int32) then (bnd (F_X1_sizeOfBoth N a5 l6 l7 s) (fun v23 s => J_X0_multiply_139 N k17 (H_X0_multiply_30 N k17 n) a0 a1 a2 l4 a5 l6 l7 a0 l6 l7 a5 v23 s)) else (J_X0_multiply_139 N k17 (H_X0_multiply_30 N k17 n) a0 a1 a2 l4 a5 l6 l7 a0 l6 l7 a5 l4 s))))))))))))))))))))))) := rfl
theorem u_H_X0_multiply_17 {N : Nat} {n : Nat} {a0 : Nat} {a1 : Nat} {a2 : Nat} {l4 : Int32} {a5 : Nat} {l6 : Int32} {s : vS} : H_X0_multiply_17 N (n + 1) a0 a1 a2 l4 a5 l6 s = (ldI s a5 1 2 (fun v4 => if v4 ≤ l6 then (rtZ (1 : Int32) s) else (H_X0_multiply_30 N (H_X0_multiply_17 N n) N a0 a1 a2 l4 a5 l6 (0 : Int32) s))) := rfl
theorem u_F_X0_multiply {N : Nat} {a0 : Nat} {a1 : Nat} {a2 : Nat} {l3 : Int32} {l4 : Int32} {s : vS} : F_X0_multiply N a0 a1 a2 l3 l4 s = (rcv s a0 0 (bnd (F_X0_familyOf N a0 l3 s) (fun r1 s => ldR s a0 0 4 (fun r2 => bnd (F_X6_empty N r2 s) (fun v3 s => H_X0_multiply_17 N N a0 a1 a2 l4 r1 (0 : Int32) s))))) := rfl
end UROWS
/-! products of sums, lifted sums: the class -/
section ROWSP
theorem fld_split {α : Type} {g : Nat → α → α} : ∀ (a b i : Nat) (x : α), fld g (a + b) i x = fld g b (i + a) (fld g a i x)
  | 0, b, i, x => by rw [Nat.zero_add]; rfl
  | a + 1, b, i, x => by
    rw [show a + 1 + b = (a + b) + 1 by omega, fld, fld_split a b (i + 1), show i + 1 + a = i + (a + 1) by omega]
    rfl
theorem fld_id {α : Type} {g : Nat → α → α} : ∀ (d i : Nat) (x : α), (∀ j x, i ≤ j → j < i + d → g j x = x) → fld g d i x = x
  | 0, _, _, _ => rfl
  | d + 1, i, x, h => by
    rw [fld, h i x (Nat.le_refl _) (by omega)]
    exact fld_id d (i + 1) x (fun j x h1 h2 => h j x (by omega) (by omega))
theorem fld_none {α : Type} {g : Nat → Option α → Option α} (h : ∀ j, g j none = none) : ∀ d i, fld g d i none = none
  | 0, _ => rfl
  | d + 1, i => by rw [fld, h]; exact fld_none h d (i + 1)
/-- only a stretch counts -/
theorem fld_mid {α : Type} {g : Nat → α → α} {M s e : Nat} (h1 : s ≤ e) (h2 : e ≤ M) (h : ∀ j x, j < M → ¬ (s ≤ j ∧ j < e) → g j x = x) (x : α) : fld g M 0 x = fld g (e - s) s x := by
  rw [show M = s + ((e - s) + (M - e)) by omega, fld_split, fld_split, fld_id s 0 x (fun j x a b => h j x (by omega) (by omega)), Nat.zero_add]
  exact fld_id _ _ _ (fun j x a b => h j x (by omega) (by omega))
abbrev Fc : Type := Int64 × Int64
def stA (h : Nat) (qo : Option Fc) (X : Option Row) : Option Row := match X with
  | none => none
  | some row => match qo with
    | none => none
    | some q => acc row h q
theorem stA_none (h : Nat) (qo : Option Fc) : stA h qo none = none := rfl
theorem stA_none2 (h : Nat) (X : Option Row) : stA h none X = none := by cases X <;> rfl
def row0 : Row := fun _ => (0, 1)
abbrev mstep (q : Bool) (f g size : Nat) (b : Fc) : Nat → Option Row → Option Row := fun h X => if sz_ q h = size then (if (jt q f g h).1 = 0 then X else stA h (fmul b.1 b.2 (jt q f g h).1 (jt q f g h).2) X) else X
def stM (q : Bool) (f g size : Nat) (b : Fc) (X : Option Row) : Option Row := fld (mstep q f g size b) (mny q) 0 X
theorem mstep_none {q : Bool} {f g size : Nat} {b : Fc} (h : Nat) : mstep q f g size b h none = none := by
  unfold mstep
  split
  · split <;> rfl
  · rfl
theorem stM_none {q : Bool} {f g size : Nat} {b : Fc} : stM q f g size b none = none := fld_none mstep_none _ _
theorem stM_mid {q : Bool} {f g size : Nat} {b : Fc} (hs : size < 5) (X : Option Row) : stM q f g size b X = fld (mstep q f g size b) (fs_ q (size + 1) - fs_ q size) (fs_ q size) X := by
  have h := fsc q size hs
  refine fld_mid h.1 h.2.1 (fun j x hj hn => ?_) X
  unfold mstep
  rw [if_neg (fun e => hn ((h.2.2 j hj).mpr e))]
def stB (q : Bool) (f g size : Nat) (o p : Row) (X : Option Row) : Option Row := match fmul (o f).1 (o f).2 (p g).1 (p g).2 with
  | none => none
  | some b => stM q f g size b X
theorem stB_none {q : Bool} {f g size : Nat} {o p : Row} : stB q f g size o p none = none := by
  unfold stB
  split
  · rfl
  · exact stM_none
abbrev gstep (q : Bool) (sf : Nat → Nat → Nat) (o p : Row) (f : Nat) : Nat → Option Row → Option Row := fun g X => if (o f).1 = 0 ∨ (p g).1 = 0 then X else stB q f g (sf f g) o p X
abbrev fstep (q : Bool) (sf : Nat → Nat → Nat) (o p : Row) (M : Nat) : Nat → Option Row → Option Row := fun f X => fld (gstep q sf o p f) M 0 X
def mulG (q : Bool) (sf : Nat → Nat → Nat) (o p : Row) (M : Nat) : Option Row := fld (fstep q sf o p M) M 0 (some row0)
theorem gstep_none {q : Bool} {sf : Nat → Nat → Nat} {o p : Row} {f : Nat} (g : Nat) : gstep q sf o p f g none = none := by
  unfold gstep
  split
  · rfl
  · exact stB_none
theorem fstep_none {q : Bool} {sf : Nat → Nat → Nat} {o p : Row} {M : Nat} (f : Nat) : fstep q sf o p M f none = none := fld_none gstep_none _ _
theorem jt_pos {q : Bool} {f g h : Nat} (hf : f < mny q) (hg : g < mny q) (hh : h < mny q) (hs : sz_ q f + sz_ q g - sh_ q ≤ sz_ q h) : 0 < (jt q f g h).2.toInt ∧ jm q f g h < 1000 ∧ 0 < prs q (sz_ q h) (sz_ q f) (sz_ q g) ∧ prs q (sz_ q h) (sz_ q f) (sz_ q g) < 10000 := by
  have z1 := szc q h hh
  have z2 := szc q f hf
  have z3 := szc q g hg
  have hp := ja_prs q (sz_ q h) (by omega) (sz_ q f) (by omega) (sz_ q g) (by omega) ⟨z2.2.1, z3.2.1, hs⟩
  have hj := jm_le (q := q) (f := f) (g := g) (h := h) z1.1
  refine ⟨red_pos (lN_pos (by omega) (by omega)), by omega, by omega, by omega⟩
end ROWSP
section CMUL
variable {N : Nat} {m : vM} {s : vS}
def CR (m : vM) (row : Row) : Prop := ∀ k, k < 29 → rowC m 226 k = row k
def crP (b _j : Nat) : Prop := b = 227 ∨ b = 228 ∨ b = 230
theorem crP_tab {b j : Nat} (h : tabP b j) : ¬ crP b j := by
  unfold tabP at h
  unfold crP
  omega
theorem frac229 : isOc 229 2 = true := by decide +kernel
theorem Fr_wF230 {p : Fc} : Fr crP m (wF m 230 p) := (Fr.rf.sJ (Or.inr (Or.inr rfl))).sJ (Or.inr (Or.inr rfl))
theorem Fr_wF {f : Nat} {p : Fc} : Fr (fun b _ => b = f) m (wF m f p) := by
  have h : Fr (fun b _ => b = f) m (wJ m f 0 p.1) := Fr.sJ Fr.rf rfl
  exact Fr.sJ h rfl
theorem wF0 {f : Nat} {p : Fc} : rJ (wF m f p) f 0 = p.1 := by unfold wF; rw [rJ_n _ _ (by omega), rJ_s]
theorem wF1 {f : Nat} {p : Fc} : rJ (wF m f p) f 1 = p.2 := by unfold wF; rw [rJ_s]
theorem CR.fr {row : Row} {m m' : vM} (h : CR m row) (g : Fr (fun b _ => b = 229 ∨ b = 230) m m') : CR m' row := fun k hk => by
  rw [← h k hk]
  show (rJ m' 227 k, rJ m' 228 k) = (rJ m 227 k, rJ m 228 k)
  rw [g.j (by omega), g.j (by omega)]
/-- what is added to the result: as times has it, then as add has it -/
theorem c_addR {h : Nat} {row : Row} {q : Fc} (hN : 100 ≤ N) (hh : h < 29) (hc : CR m row) (hl : Lows row) (h0 : rJ m 230 0 = q.1) (h1 : rJ m 230 1 = q.2) (hq : 0 < q.2.toInt) :
    ∃ (v : Int32) (m' : vM), F_X6_add N 226 (nI h) 230 (S m) = some (v, S m') ∧ Fr crP m m' ∧ match acc row h q with
      | some row' => v = 1 ∧ CR m' row' ∧ Lows row'
      | none => v = 0 := by
  have e := hc h hh
  have e1 : rJ m (226 + 1) h = (row h).1 := congrArg Prod.fst e
  have e2 : rJ m (226 + 2) h = (row h).2 := congrArg Prod.snd e
  have hadd := c_add (N := N) (m := m) sum226 frac230 hh hN (by rw [e2]; exact (hl h hh).1) (by rw [h1]; exact hq)
  rw [e1, e2, h0, h1] at hadd
  cases hf : fadd (row h).1 (row h).2 q.1 q.2 with
  | none =>
    rw [hf] at hadd
    refine ⟨0, m, hadd, Fr.rf, ?_⟩
    rw [show acc row h q = none by unfold acc; rw [hf]]
  | some p =>
    rw [hf] at hadd
    have ea : acc row h q = some (fun j => if j = h then p else row j) := by unfold acc; rw [hf]
    refine ⟨1, wQ m 226 h p, hadd, (Fr.rf.sJ (Or.inl rfl)).sJ (Or.inr (Or.inl rfl)), ?_⟩
    have hl' := acc_low hh hl hq ea
    rw [ea]
    refine ⟨rfl, fun k hk => ?_, hl'⟩
    show (rJ (wQ m 226 h p) 227 k, rJ (wQ m 226 h p) 228 k) = if k = h then p else row k
    unfold wQ
    by_cases z : k = h
    · rw [if_pos z, rJ_n _ _ (by omega), rJ_wJ, if_pos ⟨rfl, z⟩, rJ_wJ, if_pos ⟨rfl, z⟩]
    · rw [if_neg z, rJ_n _ _ (by omega), rJ_n _ _ (by omega), rJ_n _ _ (by omega), rJ_n _ _ (by omega)]
      exact hc k hk
/-- 230 times a fraction -/
theorem c_timesR {q b : Fc} (hN : 100 ≤ N) (h0 : rJ m 230 0 = q.1) (h1 : rJ m 230 1 = q.2) (hq : 0 < q.2.toInt) (hb : 0 < b.2.toInt) :
    ∃ (v : Int32) (m' : vM), F_X2_times N 230 b.1 b.2 (S m) = some (v, S m') ∧ Fr (fun b _ => b = 230) m m' ∧ match fmul b.1 b.2 q.1 q.2 with
      | some p => v = 1 ∧ rJ m' 230 0 = p.1 ∧ rJ m' 230 1 = p.2 ∧ 0 < p.2.toInt
      | none => v = 0 := by
  have ht := c_times (N := N) (m := m) (f := 230) (c := b.1) (d := b.2) frac230 hN (by rw [h1]; exact hq) hb
  rw [h0, h1, fmul_comm] at ht
  cases hf : fmul b.1 b.2 q.1 q.2 with
  | none =>
    rw [hf] at ht
    exact ⟨0, m, ht, Fr.rf, rfl⟩
  | some p =>
    rw [hf] at ht
    exact ⟨1, wF m 230 p, ht, Fr_wF, rfl, wF0, wF1, fmul_pos hb hq hf⟩
theorem c_spread_l {q : Bool} {f g size : Nat} {b : Fc} (hN : 100 ≤ N) (hf : f < mny q) (hg : g < mny q) (hs : size < 5) (hsz : sz_ q f + sz_ q g - sh_ q ≤ size) (hb : 0 < b.2.toInt) : ∀ (d h n : Nat) (m : vM) (row : Row), h + d = fs_ q (size + 1) → fs_ q size ≤ h → d < n → Tab m → CR m row → Lows row → rJ m 229 0 = b.1 → rJ m 229 1 = b.2 →
    ∃ (m' : vM) (r : Int32), H_X0_spread_50 N n 223 (nI f) (nI g) (fo q) (nI (fs_ q (size + 1))) (nI h) (S m) = some (r, S m') ∧ Fr crP m m' ∧ match fld (mstep q f g size b) d h (some row) with
      | some row' => r = 1 ∧ CR m' row' ∧ Lows row'
      | none => r = 0
  | _, _, 0, _, _, _, _, h, _, _, _, _, _ => by omega
  | 0, h, n + 1, m, row, hd, _, _, _, hc, hl, _, _ => by
    have hfs := fsc q size hs
    have ha := adr q
    refine ⟨m, 1, ?_, Fr.rf, rfl, hc, hl⟩
    unfold H_X0_spread_50
    exact e_t (by rw [nI_leI (by omega) (by omega)]; omega) rfl
  | d + 1, h, n + 1, m, row, hd, hge, hn, hT, hc, hl, h0, h1 => by
    have hfs := fsc q size hs
    have ha := adr q
    have hh : h < mny q := by omega
    have hzh : sz_ q h = size := (hfs.2.2 h hh).mp ⟨hge, by omega⟩
    have hj := jt_pos hf hg hh (by omega)
    have nx : ∀ m1 row1, Fr crP m m1 → CR m1 row1 → Lows row1 → mstep q f g size b h (some row) = some row1 → ∃ (m' : vM) (r : Int32), J_X0_spread_136 N (H_X0_spread_50 N n) 223 (nI f) (nI g) (fo q) (nI (fs_ q (size + 1))) (nI h) (S m1) = some (r, S m') ∧ Fr crP m m' ∧ match fld (mstep q f g size b) (d + 1) h (some row) with
      | some row' => r = 1 ∧ CR m' row' ∧ Lows row'
      | none => r = 0 := by
      intro m1 row1 f1 c1 l1 e1
      obtain ⟨m', r, g1, g2, g3⟩ := c_spread_l hN hf hg hs hsz hb d (h + 1) n m1 row1 (by omega) (by omega) (by omega) (hT.fr (fun b j hb => f1 b j (crP_tab hb))) c1 l1 (by rw [f1.j (by unfold crP; omega)]; exact h0) (by rw [f1.j (by unfold crP; omega)]; exact h1)
      refine ⟨m', r, ?_, f1.tr g2, ?_⟩
      · unfold J_X0_spread_136
        refine e_nm ?_
        rw [addR]
        exact g1
      · rw [fld, e1]
        exact g3
    have hbec := c_become (N := N) (m := m) (f := 230) (a := lN (jm q f g h)) (b := lN (prs q (sz_ q h) (sz_ q f) (sz_ q g))) frac230 hN (lN_pos hj.2.2.1 (by omega))
    rw [show red (lN (jm q f g h)) (lN (prs q (sz_ q h) (sz_ q f) (sz_ q g))) = jt q f g h from rfl] at hbec
    have w0 := wF0 (m := m) (f := 230) (p := jt q f g h)
    have w1 := wF1 (m := m) (f := 230) (p := jt q f g h)
    have fw := Fr_wF230 (m := m) (p := jt q f g h)
    have fw' : Fr (fun b _ => b = 229 ∨ b = 230) m (wF m 230 (jt q f g h)) := (Fr.rf.sJ (Or.inr rfl)).sJ (Or.inr rfl)
    have b229 : ∀ j, rJ (wF m 230 (jt q f g h)) 229 j = rJ m 229 j := fun j => fw.j (by unfold crP; omega)
    have start : ∀ m' r, (if lg_cmp (jt q f g h).1 (0 : Int64) = 0 then J_X0_spread_136 N (H_X0_spread_50 N n) 223 (nI f) (nI g) (fo q) (nI (fs_ q (size + 1))) (nI h) (S (wF m 230 (jt q f g h))) else bnd (F_X2_times N 230 b.1 b.2 (S (wF m 230 (jt q f g h)))) (fun v18 s => if v18 = 0 then J_X0_spread_134 N s else ldR s 223 0 4 (fun r19 => ldR s 223 0 6 (fun r20 => bnd (F_X6_add N r19 (nI h) r20 s) (fun v21 s => if v21 = 0 then J_X0_spread_134 N s else J_X0_spread_136 N (H_X0_spread_50 N n) 223 (nI f) (nI g) (fo q) (nI (fs_ q (size + 1))) (nI h) s))))) = some (r, S m') → H_X0_spread_50 N (n + 1) 223 (nI f) (nI g) (fo q) (nI (fs_ q (size + 1))) (nI h) (S m) = some (r, S m') := by
      intro m' r hR
      refine Eq.trans u_H_X0_spread_50 ?_
      refine e_f (by rw [nI_leI (by omega) (by omega)]; omega) ?_
      refine e_ldR faO faR6 ?_
      refine e_bnd (c_jointsIn hN hT hh) ?_
      refine e_bnd (c_pairsIn hN hT hf hg hh (by omega)) ?_
      rw [nI_l (by omega), nI_l (by omega)]
      refine e_bnd hbec ?_
      refine e_ldR faO faR6 ?_
      refine e_ldJV frac230 w0 ?_
      refine e_i (fun z => ?_) (fun z => ?_)
      · rw [if_pos z] at hR
        exact hR
      · rw [if_neg z] at hR
        refine e_ldR faO faR6 ?_
        refine e_ldR faO faR5 ?_
        refine e_ldJV frac229 (show rJ (wF m 230 (jt q f g h)) 229 0 = b.1 by rw [b229]; exact h0) ?_
        refine e_ldR faO faR5 ?_
        refine e_ldJV frac229 (show rJ (wF m 230 (jt q f g h)) 229 1 = b.2 by rw [b229]; exact h1) ?_
        exact hR
    by_cases z : (jt q f g h).1 = 0
    · obtain ⟨m', r, g1, g2, g3⟩ := nx (wF m 230 (jt q f g h)) row fw (hc.fr fw') hl (by unfold mstep; rw [if_pos hzh, if_pos z])
      refine ⟨m', r, start m' r ?_, g2, g3⟩
      rw [if_pos ((lg_cmp_eq _ _).mpr z)]
      exact g1
    · have hst : mstep q f g size b h (some row) = stA h (fmul b.1 b.2 (jt q f g h).1 (jt q f g h).2) (some row) := by unfold mstep; rw [if_pos hzh, if_neg z]
      have hno : mstep q f g size b h (some row) = none → fld (mstep q f g size b) (d + 1) h (some row) = none := by
        intro e
        rw [fld, e]
        exact fld_none mstep_none _ _
      obtain ⟨v, m1, t1, t2, t3⟩ := c_timesR (N := N) (m := wF m 230 (jt q f g h)) (b := b) hN w0 w1 hj.1 hb
      have f1 : Fr crP m m1 := fw.tr (t2.mo (fun b j h => Or.inr (Or.inr h)))
      cases hfm : fmul b.1 b.2 (jt q f g h).1 (jt q f g h).2 with
      | none =>
        rw [hfm] at t3 hst
        subst t3
        refine ⟨m1, 0, start m1 0 ?_, f1, ?_⟩
        · rw [if_neg (fun w => z ((lg_cmp_eq _ _).mp w))]
          refine e_bnd t1 ?_
          exact e_t rfl rfl
        · rw [hno hst]
      | some p =>
        rw [hfm] at t3 hst
        obtain ⟨rfl, p0, p1, pp⟩ := t3
        obtain ⟨v2, m2, a1, a2, a3⟩ := c_addR (N := N) (m := m1) (row := row) (q := p) hN (show h < 29 by omega) ((hc.fr fw').fr (t2.mo (fun b j h => Or.inr h))) hl p0 p1 pp
        have go : ∀ m' r, (if v2 = 0 then J_X0_spread_134 N (S m2) else J_X0_spread_136 N (H_X0_spread_50 N n) 223 (nI f) (nI g) (fo q) (nI (fs_ q (size + 1))) (nI h) (S m2)) = some (r, S m') → H_X0_spread_50 N (n + 1) 223 (nI f) (nI g) (fo q) (nI (fs_ q (size + 1))) (nI h) (S m) = some (r, S m') := by
          intro m' r hR
          refine start m' r ?_
          rw [if_neg (fun w => z ((lg_cmp_eq _ _).mp w))]
          refine e_bnd t1 ?_
          refine e_f (by decide) ?_
          refine e_ldR faO faR4 ?_
          refine e_ldR faO faR6 ?_
          refine e_bnd a1 ?_
          exact hR
        cases hac : acc row h p with
        | none =>
          rw [hac] at a3
          subst a3
          refine ⟨m2, 0, go m2 0 (e_t rfl rfl), f1.tr a2, ?_⟩
          rw [hno (hst.trans hac)]
        | some row' =>
          rw [hac] at a3
          obtain ⟨rfl, c2, l2⟩ := a3
          obtain ⟨m', r, g1, g2, g3⟩ := nx m2 row' (f1.tr a2) c2 l2 (hst.trans hac)
          exact ⟨m', r, go m' r (e_f (by decide) g1), g2, g3⟩
theorem c_spread {q : Bool} {f g size : Nat} {b : Fc} {row : Row} (hN : 100 ≤ N) (hf : f < mny q) (hg : g < mny q) (hs : size < 5) (hs0 : sh_ q ≤ size) (hsz : sz_ q f + sz_ q g - sh_ q ≤ size) (hb : 0 < b.2.toInt) (hT : Tab m) (hc : CR m row) (hl : Lows row) (h0 : rJ m 229 0 = b.1) (h1 : rJ m 229 1 = b.2) :
    ∃ (m' : vM) (r : Int32), F_X0_spread N 223 (nI f) (nI g) (fo q) (nI size) (S m) = some (r, S m') ∧ Fr crP m m' ∧ match stM q f g size b (some row) with
      | some row' => r = 1 ∧ CR m' row' ∧ Lows row'
      | none => r = 0 := by
  have hfs := fsc q size hs
  have ha := adr q
  obtain ⟨m', r, g1, g2, g3⟩ := c_spread_l (N := N) hN hf hg hs hsz hb (fs_ q (size + 1) - fs_ q size) (fs_ q size) N m row (by omega) (Nat.le_refl _) (by omega) hT hc hl h0 h1
  have hz : b2 (nI (sh_ q) ≤ nI size ∧ nI size ≤ 4) = 1 := b2_t ⟨(nI_leI (by omega) (by omega)).mpr hs0, (leR (by decide) (by omega)).mpr (by omega)⟩
  refine ⟨m', r, ?_, g2, ?_⟩
  · unfold F_X0_spread
    refine e_rcv faO ?_
    refine e_bnd (c_hasSize hT _) ?_
    refine e_f (by rw [hz]; decide) ?_
    refine e_ldR gO gR6 ?_
    rw [addR]
    refine e_alIV gA6 rfl (by omega) (hT.2.2.2.1 q (size + 1) (by omega)) ?_
    unfold J_X0_spread_22
    refine e_bnd (c_hasSize hT _) ?_
    refine e_f (by rw [hz]; decide) ?_
    refine e_ldR gO gR6 ?_
    refine e_alIV gA6 rfl (by omega) (hT.2.2.2.1 q size (by omega)) ?_
    unfold J_X0_spread_44
    exact g1
  · rw [stM_mid hs]
    exact g3
end CMUL
