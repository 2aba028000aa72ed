section UROWS
theorem u_J_X1_tally_130 {N : Nat} {k34 : Nat → Nat → Int32 → Int32 → Int32 → vS → Option (Unit × vS)} {a0 : Nat} {a1 : Nat} {l2 : Int32} {l3 : Int32} {l4 : Int32} {s : vS} : J_X1_tally_130 N k34 a0 a1 l2 l3 l4 s = (nm (l4 + (1 : Int32)) (fun l4_16 => k34 a0 a1 l2 l3 l4_16 s)) := rfl
theorem u_J_X1_tally_119 {N : Nat} {k34 : Nat → Nat → Int32 → Int32 → Int32 → vS → Option (Unit × vS)} {a0 : Nat} {a1 : Nat} {l2 : Int32} {l3 : Int32} {l4 : Int32} {l5 : Int32} {s : vS} : J_X1_tally_119 N k34 a0 a1 l2 l3 l4 l5 s = (ldR s a0 1 10 (fun r14 => alI s r14 l5 (fun v15 => asI s r14 l5 (v15 + (1 : Int32)) (fun s => J_X1_tally_130 N k34 a0 a1 l2 l3 l4 s)))) := rfl
theorem u_J_X1_tally_66 {N : Nat} {k34 : Nat → Nat → Int32 → Int32 → Int32 → vS → Option (Unit × vS)} {a0 : Nat} {a1 : Nat} {l2 : Int32} {l3 : Int32} {l4 : Int32} {k0 : Int32} {s : vS} : J_X1_tally_66 N k34 a0 a1 l2 l3 l4 k0 s = (if k0 = (-1 : Int32) then (J_X1_tally_130 N k34 a0 a1 l2 l3 l4 s) else (ldR s a0 1 10 (fun r7 => alI s r7 k0 (fun v8 => if v8 = (0 : Int32) then (ldI s a0 1 12 (fun v9 => ldI s a0 1 2 (fun v10 => if v10 ≤ v9 then (J_X1_tally_119 N k34 a0 a1 l2 l3 l4 k0 s) else (ldR s a0 1 11 (fun r11 => ldI s a0 1 12 (fun v12 => asI s r11 v12 k0 (fun s => ldI s a0 1 12 (fun v13 => stI s a0 1 12 (v13 + (1 : Int32)) (fun s => J_X1_tally_119 N k34 a0 a1 l2 l3 l4 k0 s))))))))) else (J_X1_tally_119 N k34 a0 a1 l2 l3 l4 k0 s))))) := rfl
theorem u_H_X1_tally_34 {N : Nat} {n : Nat} {a0 : Nat} {a1 : Nat} {l2 : Int32} {l3 : Int32} {l4 : Int32} {s : vS} : H_X1_tally_34 N (n + 1) a0 a1 l2 l3 l4 s = (ldI s a1 3 0 (fun v4 => if ((1 : Int32) <<< (v4 &&& 31)) ≤ l4 then (some ((), s)) else (bnd (F_J6_bitCount_0f7a4 N l4 s) (fun v5 s => if v5 = l3 then (bnd (F_X1_numberOn N a0 a1 l4 l2 s) (fun v6 s => J_X1_tally_66 N (H_X1_tally_34 N n) a0 a1 l2 l3 l4 v6 s)) else (J_X1_tally_66 N (H_X1_tally_34 N n) a0 a1 l2 l3 l4 (-1 : Int32) s))))) := rfl
theorem u_H_X1_tally_8 {N : Nat} {n : Nat} {a0 : Nat} {a1 : Nat} {l2 : Int32} {l3 : Int32} {l4 : Int32} {s : vS} : H_X1_tally_8 N (n + 1) a0 a1 l2 l3 l4 s = (ldI s a0 1 2 (fun v1 => if v1 ≤ l4 then (H_X1_tally_34 N N a0 a1 l2 l3 (0 : Int32) s) else (ldR s a0 1 10 (fun r2 => asI s r2 l4 (0 : Int32) (fun s => nm (l4 + (1 : Int32)) (fun l4_3 => H_X1_tally_8 N n a0 a1 l2 l3 l4_3 s)))))) := rfl
theorem u_F_X1_tally {N : Nat} {a0 : Nat} {a1 : Nat} {l2 : Int32} {l3 : Int32} {s : vS} : F_X1_tally N a0 a1 l2 l3 s = (rcv s a0 1 (stI s a0 1 12 (0 : Int32) (fun s => H_X1_tally_8 N N a0 a1 l2 l3 (0 : Int32) s))) := rfl
end UROWS
/-! counting what lies on sets: the class's tally, the model's insideOf -/
section CNTS
theorem cnt_upd {p p' : Nat → Prop} [DecidablePred p] [DecidablePred p'] {k0 : Nat} : ∀ n, k0 < n → (∀ k, k < n → (p' k ↔ (p k ∨ k = k0))) → ¬ p k0 → cnt p' n = cnt p n + 1
  | 0, h, _, _ => absurd h (Nat.not_lt_zero _)
  | n + 1, h, he, hn => by
    rw [cnt, cnt]
    by_cases z : k0 = n
    · subst z
      have e : cnt p' k0 = cnt p k0 := cnt_c k0 (fun k hk => (he k (by omega)).trans ⟨fun h => h.elim id (fun e => by omega), Or.inl⟩)
      rw [if_pos ((he _ (Nat.lt_succ_self _)).mpr (Or.inr rfl)), if_neg hn, e]
    · rw [cnt_upd n (by omega) (fun k hk => he k (by omega)) hn]
      have e : p' n ↔ p n := by
        rw [he n (Nat.lt_succ_self _)]
        exact ⟨fun h => h.elim id (fun e => by omega), Or.inl⟩
      by_cases g : p n
      · rw [if_pos g, if_pos (e.mpr g)]
      · rw [if_neg g, if_neg (fun y => g (e.mp y))]
theorem cnt_mo {p q : Nat → Prop} [DecidablePred p] [DecidablePred q] : ∀ n, (∀ k, k < n → p k → q k) → cnt p n ≤ cnt q n
  | 0, _ => Nat.le_refl _
  | n + 1, h => by
    have := cnt_mo n (fun k hk => h k (by omega))
    rw [cnt, cnt]
    by_cases g : p n
    · rw [if_pos g, if_pos (h n (Nat.lt_succ_self _) g)]; omega
    · rw [if_neg g]; split <;> omega
theorem cnt_ltm {p q : Nat → Prop} [DecidablePred p] [DecidablePred q] {k0 : Nat} : ∀ n, (∀ k, k < n → p k → q k) → k0 < n → q k0 → ¬ p k0 → cnt p n < cnt q n
  | 0, _, h, _, _ => absurd h (Nat.not_lt_zero _)
  | n + 1, h, hk, hq, hp => by
    rw [cnt, cnt]
    by_cases z : k0 = n
    · subst z
      have := cnt_mo k0 (fun k hk => h k (by omega))
      rw [if_neg hp, if_pos hq]; omega
    · have := cnt_ltm n (fun k hk => h k (by omega)) (show k0 < n by omega) hq hp
      by_cases g : p n
      · rw [if_pos g, if_pos (h n (Nat.lt_succ_self _) g)]; omega
      · rw [if_neg g]; split <;> omega
theorem cnt_0 {p : Nat → Prop} [DecidablePred p] : ∀ n, (∀ k, k < n → ¬ p k) → cnt p n = 0
  | 0, _ => rfl
  | n + 1, h => by rw [cnt, if_neg (h n (Nat.lt_succ_self _)), cnt_0 n (fun k hk => h k (by omega))]
def fN (q : Bool) (nn : Nat) (r : Nat → Nat) (root : Option Nat) (size set : Nat) : Option Nat := if pop set = size ∧ rootIn set root = true then some (nOn q nn r set root) else none
def tl (f : Nat → Option Nat) (k e : Nat) : Nat := cnt (fun set => f set = some k) e
/-- the numbers as they come first -/
def fcm (f : Nat → Option Nat) : Nat → Nat × (Nat → Nat)
  | 0 => (0, fun _ => 0)
  | e + 1 => match f e with
    | none => fcm f e
    | some k => if tl f k e = 0 then ((fcm f e).1 + 1, fun j => if j = (fcm f e).1 then k else (fcm f e).2 j) else fcm f e
def wyc (p c : Nat) : Nat := if c ≤ p then fld (fun i x => x * (p - i) / (i + 1)) c 0 1 else 0
def alls (nn : Nat) (root : Option Nat) (size : Nat) : Nat := cnt (fun set => pop set = size ∧ rootIn set root = true) (2 ^ nn)
theorem fN_lt {q : Bool} {nn : Nat} {r : Nat → Nat} {root : Option Nat} {size set k : Nat} (h1 : sh_ q ≤ size) (h2 : size ≤ 4) (h : fN q nn r root size set = some k) : k < mny q ∧ sz_ q k = size := by
  unfold fN at h
  by_cases z : pop set = size ∧ rootIn set root = true
  · rw [if_pos z] at h
    cases h
    have hlt := cdo_lt (r := r) (ch := (chs set root nn).2) (pop set) (by omega)
    have := nuc q (pop set) _ (by omega) (by omega) hlt
    unfold nOn
    rw [this.2]
    exact ⟨this.1, z.1⟩
  · rw [if_neg z] at h; cases h
theorem tl_n {f : Nat → Option Nat} {k e : Nat} (h : f e ≠ some k) : tl f k (e + 1) = tl f k e := by
  unfold tl
  rw [cnt, if_neg h]
  rfl
theorem tl_s {f : Nat → Option Nat} {k e : Nat} (h : f e = some k) : tl f k (e + 1) = tl f k e + 1 := by
  unfold tl
  rw [cnt, if_pos h]
theorem tl_le (f : Nat → Option Nat) (k e : Nat) : tl f k e ≤ e := cnt_le _ e
/-- as many have come as are met -/
theorem fcm_cnt {f : Nat → Option Nat} {M : Nat} (hf : ∀ e k, f e = some k → k < M) : ∀ e, (fcm f e).1 = cnt (fun k => tl f k e ≠ 0) M
  | 0 => by
    rw [cnt_0 M (fun k _ h => h rfl)]
    rfl
  | e + 1 => by
    have ih := fcm_cnt hf e
    rw [fcm]
    cases hz : f e with
    | none =>
      rw [ih]
      refine cnt_c M (fun k _ => ?_)
      rw [tl_n (f := f) (k := k) (e := e) (by rw [hz]; simp)]
    | some k =>
      show (if tl f k e = 0 then _ else _ : Nat × (Nat → Nat)).1 = _
      by_cases h0 : tl f k e = 0
      · rw [if_pos h0]
        show (fcm f e).1 + 1 = _
        rw [ih]
        refine (cnt_upd M (hf e k hz) (fun j _ => ?_) (fun h => h h0)).symm
        by_cases hj : j = k
        · subst hj
          rw [tl_s hz]
          exact ⟨fun _ => Or.inr rfl, fun _ => by omega⟩
        · rw [tl_n (by rw [hz]; intro h; cases h; exact hj rfl)]
          exact ⟨Or.inl, fun h => h.elim id (fun e => absurd e hj)⟩
      · rw [if_neg h0, ih]
        refine cnt_c M (fun j _ => ?_)
        by_cases hj : j = k
        · subst hj
          rw [tl_s hz]
          exact ⟨fun _ => by omega, fun _ => h0⟩
        · rw [tl_n (by rw [hz]; intro h; cases h; exact hj rfl)]
theorem szcnt : ∀ q, ∀ size, size < 5 → cnt (fun k => sz_ q k = size) (mny q) ≤ (if q = true then 20 else 11) := by decide +kernel
/-- room for one more, as long as one is new -/
theorem fcm_lt {q : Bool} {f : Nat → Option Nat} {size e k : Nat} (h2 : size ≤ 4) (hf : ∀ e k, f e = some k → k < mny q ∧ sz_ q k = size) (hk : f e = some k) (h0 : tl f k e = 0) : (fcm f e).1 < (if q = true then 20 else 11) := by
  rw [fcm_cnt (fun e k h => (hf e k h).1)]
  refine Nat.lt_of_lt_of_le (cnt_ltm (q := fun k => sz_ q k = size) (mny q) (fun j hj h => ?_) (hf e k hk).1 (hf e k hk).2 (fun h => h h0)) (szcnt q size (by omega))
  -- met: it has the size
  have : ∀ e, tl f j e ≠ 0 → sz_ q j = size := by
    intro e
    induction e with
    | zero => exact fun h => absurd rfl h
    | succ e ih =>
      intro h
      by_cases z : f e = some j
      · exact (hf e j z).2
      · rw [tl_n z] at h; exact ih h
  exact this e h
theorem alls_wyc {q : Bool} {nn size : Nat} {root : Option Nat} (hn : nn ≤ 8) (h1 : sh_ q ≤ size) (h2 : size ≤ 4) (h3 : size ≤ nn) (hq : q = root.isSome) (hr : ∀ x, root = some x → x < nn) : alls nn root size = wyc (nn - sh_ q) (size - sh_ q) ∧ 0 < alls nn root size := by
  cases root with
  | none =>
    have : ∀ nn, nn < 9 → ∀ size, size < 5 → size ≤ nn → alls nn none size = wyc (nn - 0) (size - 0) ∧ 0 < alls nn none size := by decide +kernel
    rw [hq]
    exact this nn (by omega) size (by omega) h3
  | some x =>
    have : ∀ nn, nn < 9 → ∀ x, x < nn → ∀ size, size < 5 → (1 ≤ size ∧ size ≤ nn) → (alls nn (some x) size = wyc (nn - 1) (size - 1) ∧ 0 < alls nn (some x) size) := by decide +kernel
    rw [hq] at h1 ⊢
    exact this nn (by omega) x (hr x rfl) size (by omega) ⟨h1, h3⟩
end CNTS
section TALLY
variable {N : Nat} {m : vM} {s : vS}
theorem adr (q : Bool) : (fo q = 1 ∧ aFs q = 2 ∧ aTa q = 33 ∧ aCo q = 34 ∧ sh_ q = 0 ∧ mny q = 19) ∨ (fo q = 92 ∧ aFs q = 93 ∧ aTa q = 134 ∧ aCo q = 135 ∧ sh_ q = 1 ∧ mny q = 29) := by cases q <;> decide
theorem c_ways_l {p c : Nat} (hp : p ≤ 8) (hc : c ≤ p) : ∀ (d i n x : Nat), i + d = c → d < n → x ≤ 8 ^ i → H_X1_ways_15 N n (nI p) (nI c) (nI x) (nI i) s = some (nI (fld (fun i x => x * (p - i) / (i + 1)) d i x), s)
  | _, _, 0, _, _, h, _ => by omega
  | 0, i, n + 1, x, hi, _, _ => by
    unfold H_X1_ways_15
    exact e_t (by simp (disch := omega) only [leL, leR, ltL, ltR, eqR, mulL, addR, clL, inL, nI_add, pk_mul, inb_nI, nI_clamp, nI_leI, nI_ltI, nI_eq, nI_1]; omega) rfl
  | d + 1, i, n + 1, x, hi, hd, hx => by
    have h8 : (8 : Nat) ^ i ≤ 8 ^ 7 := Nat.pow_le_pow_right (by decide) (by omega)
    have hm : x * (p - i) ≤ 8 ^ i * 8 := Nat.mul_le_mul hx (by omega)
    have hdv := Nat.div_le_self (x * (p - i)) (i + 1)
    have h9 : (8 : Nat) ^ (i + 1) = 8 ^ i * 8 := Nat.pow_succ 8 i
    have ih := c_ways_l hp hc d (i + 1) n (x * (p - i) / (i + 1)) (by omega) (by omega) (by omega)
    unfold H_X1_ways_15
    refine e_f (by simp (disch := omega) only [leL, leR, ltL, ltR, eqR, mulL, addR, clL, inL, nI_add, pk_mul, inb_nI, nI_clamp, nI_leI, nI_ltI, nI_eq, nI_1]; omega) ?_
    rw [addR]
    refine e_nzI (nI_ne0 (by omega) (by omega)) ?_
    refine e_nm ?_
    refine e_nm ?_
    rw [pk_sub (by omega), pk_mul, pk_div (by omega) (by omega) (by omega)]
    exact ih
theorem c_ways {p c : Nat} (hp : p ≤ 8) (hc : c ≤ p) (hN : 100 ≤ N) : F_X1_ways N (nI p) (nI c) s = some (nI (wyc p c), s) := by
  unfold F_X1_ways
  refine e_f (nI_pos (by omega)) ?_
  refine e_t (by simp (disch := omega) only [leL, leR, ltL, ltR, eqR, mulL, addR, clL, inL, nI_add, pk_mul, inb_nI, nI_clamp, nI_leI, nI_ltI, nI_eq, nI_1]; omega) ?_
  unfold wyc
  rw [if_pos hc]
  exact c_ways_l hp hc c 0 N 1 (by omega) (by omega) (by decide)
def taP (q : Bool) (b j : Nat) : Prop := b = 288 ∨ b = aTa q ∨ b = aCo q ∨ (b = fo q ∧ j = 12)
theorem taP_tab {q : Bool} {b j : Nat} (h : tabP b j) : ¬ taP q b j := by
  have := adr q
  unfold tabP at h
  unfold taP
  omega
/-- the state of a tally, sets below e being counted -/
def TaS (q : Bool) (f : Nat → Option Nat) (e : Nat) (m : vM) : Prop := (∀ k, k < mny q → rI m (aTa q) k = nI (tl f k e)) ∧ rI m (fo q) 12 = nI (fcm f e).1 ∧ ∀ j, j < (fcm f e).1 → rI m (aCo q) j = nI ((fcm f e).2 j)
theorem c_tally_0 {q : Bool} {root : Option Nat} {x : Int32} (hT : rI m (fo q) 2 = nI (mny q)) : ∀ (d i n : Nat) (m : vM), i + d = mny q → d < n → rI m (fo q) 2 = nI (mny q) → (∀ k, k < i → rI m (aTa q) k = 0) →
    ∃ m', H_X1_tally_8 N n (fo q) 286 (rt root) x (nI i) (S m) = H_X1_tally_34 N N (fo q) 286 (rt root) x 0 (S m') ∧ Fr (fun b _ => b = aTa q) m m' ∧ ∀ k, k < mny q → rI m' (aTa q) k = 0
  | _, _, 0, _, _, h, _, _ => by omega
  | 0, i, n + 1, m, hi, _, h2, h0 => by
    have ha := adr q
    refine ⟨m, ?_, Fr.rf, fun k hk => h0 k (by omega)⟩
    repeat (first | ((with_reducible refine e_nmV (e2 := ?_) ?hV ?_); (case hV => (first | (simp (disch := omega) only [leL, leR, ltL, ltR, eqR, eqL, mulL, addR, subR, clL, inL, nI_add, pk_mul, pk_sub, inb_nI, nI_clamp, nI_leI, nI_ltI, nI_eq, nI_1, divR, remR, shl1, h2, rI_s, rJ_s, rI_n, rJ_n, rI_wJ, rJ_wI]; with_reducible rfl) | with_reducible rfl))) | ((with_reducible refine e_rcv ?hO ?_); (case hO => (with_reducible first | assumption | exact gO))) | (with_reducible refine Eq.trans u_J_X1_tally_130 ?_) | (with_reducible refine Eq.trans u_J_X1_tally_119 ?_) | (with_reducible refine Eq.trans u_J_X1_tally_66 ?_) | (with_reducible refine Eq.trans u_H_X1_tally_34 ?_) | (with_reducible refine Eq.trans u_H_X1_tally_8 ?_) | (with_reducible refine Eq.trans u_F_X1_tally ?_) | ((with_reducible refine e_ldIV (v := ?_) ?hO ?hV ?_); (case hO => (with_reducible first | assumption | exact gO)); (case hV => (first | (simp (disch := omega) only [leL, leR, ltL, ltR, eqR, eqL, mulL, addR, subR, clL, inL, nI_add, pk_mul, pk_sub, inb_nI, nI_clamp, nI_leI, nI_ltI, nI_eq, nI_1, divR, remR, shl1, h2, rI_s, rJ_s, rI_n, rJ_n, rI_wJ, rJ_wI]; with_reducible rfl) | with_reducible rfl))) | ((with_reducible refine e_ldJV (v := ?_) ?hO ?hV ?_); (case hO => (with_reducible first | assumption | exact gO)); (case hV => (first | (simp (disch := omega) only [leL, leR, ltL, ltR, eqR, eqL, mulL, addR, subR, clL, inL, nI_add, pk_mul, pk_sub, inb_nI, nI_clamp, nI_leI, nI_ltI, nI_eq, nI_1, divR, remR, shl1, h2, rI_s, rJ_s, rI_n, rJ_n, rI_wJ, rJ_wI]; with_reducible rfl) | with_reducible rfl))) | ((with_reducible refine e_ldR (r := ?_) ?hO ?hR ?_); (case hO => (with_reducible first | assumption | exact gO)); (case hR => (with_reducible first | assumption | exact gR3 | exact gR4 | exact gR5 | exact gR6 | exact gR7 | exact gR8 | exact gR9 | exact gR10 | exact gR11))) | ((with_reducible refine e_stIV (v2 := ?_) ?hO ?hV ?_); (case hO => (with_reducible first | assumption | exact gO)); (case hV => (first | (simp (disch := omega) only [leL, leR, ltL, ltR, eqR, eqL, mulL, addR, subR, clL, inL, nI_add, pk_mul, pk_sub, inb_nI, nI_clamp, nI_leI, nI_ltI, nI_eq, nI_1, divR, remR, shl1, h2, rI_s, rJ_s, rI_n, rJ_n, rI_wJ, rJ_wI]; with_reducible rfl) | with_reducible rfl))) | ((with_reducible refine e_stJV (v2 := ?_) ?hO ?hV ?_); (case hO => (with_reducible first | assumption | exact gO)); (case hV => (first | (simp (disch := omega) only [leL, leR, ltL, ltR, eqR, eqL, mulL, addR, subR, clL, inL, nI_add, pk_mul, pk_sub, inb_nI, nI_clamp, nI_leI, nI_ltI, nI_eq, nI_1, divR, remR, shl1, h2, rI_s, rJ_s, rI_n, rJ_n, rI_wJ, rJ_wI]; with_reducible rfl) | with_reducible rfl))) | ((with_reducible refine e_stZ ?hO ?hZ ?_); (case hO => (with_reducible first | assumption | exact gO)); (case hZ => (first | exact Or.inl rfl | exact Or.inr rfl | exact b2_01 _ | assumption))) | ((with_reducible refine e_alIV (j := ?_) (n := ?_) (v := ?_) ?hA ?hI ?hB ?hV ?_); (case hA => (with_reducible first | assumption | exact gA3 | exact gA4 | exact gA6 | exact gA9 | exact gA10 | exact gA11)); (case hI => (first | with_reducible rfl | with_reducible exact litn _ | (simp (disch := omega) only [leL, leR, ltL, ltR, eqR, eqL, mulL, addR, subR, clL, inL, nI_add, pk_mul, pk_sub, inb_nI, nI_clamp, nI_leI, nI_ltI, nI_eq, nI_1, divR, remR, shl1, h2, rI_s, rJ_s, rI_n, rJ_n, rI_wJ, rJ_wI]; with_reducible rfl))); (case hB => (omega)); (case hV => (first | (simp (disch := omega) only [leL, leR, ltL, ltR, eqR, eqL, mulL, addR, subR, clL, inL, nI_add, pk_mul, pk_sub, inb_nI, nI_clamp, nI_leI, nI_ltI, nI_eq, nI_1, divR, remR, shl1, h2, rI_s, rJ_s, rI_n, rJ_n, rI_wJ, rJ_wI]; with_reducible rfl) | with_reducible rfl))) | ((with_reducible refine e_alJV (j := ?_) (n := ?_) (v := ?_) ?hA ?hI ?hB ?hV ?_); (case hA => (with_reducible first | assumption | exact gA3 | exact gA4 | exact gA6 | exact gA9 | exact gA10 | exact gA11)); (case hI => (first | with_reducible rfl | with_reducible exact litn _ | (simp (disch := omega) only [leL, leR, ltL, ltR, eqR, eqL, mulL, addR, subR, clL, inL, nI_add, pk_mul, pk_sub, inb_nI, nI_clamp, nI_leI, nI_ltI, nI_eq, nI_1, divR, remR, shl1, h2, rI_s, rJ_s, rI_n, rJ_n, rI_wJ, rJ_wI]; with_reducible rfl))); (case hB => (omega)); (case hV => (first | (simp (disch := omega) only [leL, leR, ltL, ltR, eqR, eqL, mulL, addR, subR, clL, inL, nI_add, pk_mul, pk_sub, inb_nI, nI_clamp, nI_leI, nI_ltI, nI_eq, nI_1, divR, remR, shl1, h2, rI_s, rJ_s, rI_n, rJ_n, rI_wJ, rJ_wI]; with_reducible rfl) | with_reducible rfl))) | ((with_reducible refine e_alZV (j := ?_) (n := ?_) (v := ?_) ?hA ?hI ?hB ?hV ?_); (case hA => (with_reducible first | assumption | exact gA3 | exact gA4 | exact gA6 | exact gA9 | exact gA10 | exact gA11)); (case hI => (first | with_reducible rfl | with_reducible exact litn _ | (simp (disch := omega) only [leL, leR, ltL, ltR, eqR, eqL, mulL, addR, subR, clL, inL, nI_add, pk_mul, pk_sub, inb_nI, nI_clamp, nI_leI, nI_ltI, nI_eq, nI_1, divR, remR, shl1, h2, rI_s, rJ_s, rI_n, rJ_n, rI_wJ, rJ_wI]; with_reducible rfl))); (case hB => (omega)); (case hV => (first | (simp (disch := omega) only [leL, leR, ltL, ltR, eqR, eqL, mulL, addR, subR, clL, inL, nI_add, pk_mul, pk_sub, inb_nI, nI_clamp, nI_leI, nI_ltI, nI_eq, nI_1, divR, remR, shl1, h2, rI_s, rJ_s, rI_n, rJ_n, rI_wJ, rJ_wI]; with_reducible rfl) | with_reducible rfl))) | ((with_reducible refine e_asIV (j := ?_) (n := ?_) (v2 := ?_) ?hA ?hI ?hB ?hV ?_); (case hA => (with_reducible first | assumption | exact gA3 | exact gA4 | exact gA6 | exact gA9 | exact gA10 | exact gA11)); (case hI => (first | with_reducible rfl | with_reducible exact litn _ | (simp (disch := omega) only [leL, leR, ltL, ltR, eqR, eqL, mulL, addR, subR, clL, inL, nI_add, pk_mul, pk_sub, inb_nI, nI_clamp, nI_leI, nI_ltI, nI_eq, nI_1, divR, remR, shl1, h2, rI_s, rJ_s, rI_n, rJ_n, rI_wJ, rJ_wI]; with_reducible rfl))); (case hB => (omega)); (case hV => (first | (simp (disch := omega) only [leL, leR, ltL, ltR, eqR, eqL, mulL, addR, subR, clL, inL, nI_add, pk_mul, pk_sub, inb_nI, nI_clamp, nI_leI, nI_ltI, nI_eq, nI_1, divR, remR, shl1, h2, rI_s, rJ_s, rI_n, rJ_n, rI_wJ, rJ_wI]; with_reducible rfl) | with_reducible rfl))) | ((with_reducible refine e_asJV (j := ?_) (n := ?_) (v2 := ?_) ?hA ?hI ?hB ?hV ?_); (case hA => (with_reducible first | assumption | exact gA3 | exact gA4 | exact gA6 | exact gA9 | exact gA10 | exact gA11)); (case hI => (first | with_reducible rfl | with_reducible exact litn _ | (simp (disch := omega) only [leL, leR, ltL, ltR, eqR, eqL, mulL, addR, subR, clL, inL, nI_add, pk_mul, pk_sub, inb_nI, nI_clamp, nI_leI, nI_ltI, nI_eq, nI_1, divR, remR, shl1, h2, rI_s, rJ_s, rI_n, rJ_n, rI_wJ, rJ_wI]; with_reducible rfl))); (case hB => (omega)); (case hV => (first | (simp (disch := omega) only [leL, leR, ltL, ltR, eqR, eqL, mulL, addR, subR, clL, inL, nI_add, pk_mul, pk_sub, inb_nI, nI_clamp, nI_leI, nI_ltI, nI_eq, nI_1, divR, remR, shl1, h2, rI_s, rJ_s, rI_n, rJ_n, rI_wJ, rJ_wI]; with_reducible rfl) | with_reducible rfl))) | ((with_reducible refine e_asZ (j := ?_) (n := ?_) ?hA ?hI ?hB ?hZ ?_); (case hA => (with_reducible first | assumption | exact gA3 | exact gA4 | exact gA6 | exact gA9 | exact gA10 | exact gA11)); (case hI => (first | with_reducible rfl | with_reducible exact litn _ | (simp (disch := omega) only [leL, leR, ltL, ltR, eqR, eqL, mulL, addR, subR, clL, inL, nI_add, pk_mul, pk_sub, inb_nI, nI_clamp, nI_leI, nI_ltI, nI_eq, nI_1, divR, remR, shl1, h2, rI_s, rJ_s, rI_n, rJ_n, rI_wJ, rJ_wI]; with_reducible rfl))); (case hB => (omega)); (case hZ => (first | exact Or.inl rfl | exact Or.inr rfl | exact b2_01 _ | assumption))) | ((with_reducible refine e_nzI ?hZ ?_); (case hZ => (first | decide | assumption))) | ((with_reducible refine e_nzJ ?hZ ?_); (case hZ => (first | decide | assumption))) | ((with_reducible refine e_t ?hC ?_); (case hC => (first | assumption | decide | (simp (disch := omega) only [leL, leR, ltL, ltR, eqR, eqL, mulL, addR, subR, clL, inL, nI_add, pk_mul, pk_sub, inb_nI, nI_clamp, nI_leI, nI_ltI, nI_eq, nI_1, divR, remR, shl1, h2, rI_s, rJ_s, rI_n, rJ_n, rI_wJ, rJ_wI, b2_0, b2_1, lg_cmp_ge, lg_cmp_le, lg_cmp_gt, lg_cmp_lt, lg_cmp_eq]; first | done | omega) | omega))) | ((with_reducible refine e_f ?hC ?_); (case hC => (first | assumption | decide | (simp (disch := omega) only [leL, leR, ltL, ltR, eqR, eqL, mulL, addR, subR, clL, inL, nI_add, pk_mul, pk_sub, inb_nI, nI_clamp, nI_leI, nI_ltI, nI_eq, nI_1, divR, remR, shl1, h2, rI_s, rJ_s, rI_n, rJ_n, rI_wJ, rJ_wI, b2_0, b2_1, lg_cmp_ge, lg_cmp_le, lg_cmp_gt, lg_cmp_lt, lg_cmp_eq]; first | done | omega) | omega))))
    rfl
  | d + 1, i, n + 1, m, hi, hd, h2, h0 => by
    have ha := adr q
    obtain ⟨m', g1, g2, g3⟩ := c_tally_0 (root := root) (x := x) hT d (i + 1) n (wI m (aTa q) i 0) (by omega) (by omega) (by rw [rI_n _ _ (by omega)]; exact h2) (fun k hk => by
      by_cases e : k = i
      · rw [e, rI_s]
      · rw [rI_n _ _ (by omega)]; exact h0 k (by omega))
    refine ⟨m', ?_, g2.pI rfl, g3⟩
    repeat (first | ((with_reducible refine e_nmV (e2 := ?_) ?hV ?_); (case hV => (first | (simp (disch := omega) only [leL, leR, ltL, ltR, eqR, eqL, mulL, addR, subR, clL, inL, nI_add, pk_mul, pk_sub, inb_nI, nI_clamp, nI_leI, nI_ltI, nI_eq, nI_1, divR, remR, shl1, h2, rI_s, rJ_s, rI_n, rJ_n, rI_wJ, rJ_wI]; with_reducible rfl) | with_reducible rfl))) | ((with_reducible refine e_rcv ?hO ?_); (case hO => (with_reducible first | assumption | exact gO))) | (with_reducible refine Eq.trans u_J_X1_tally_130 ?_) | (with_reducible refine Eq.trans u_J_X1_tally_119 ?_) | (with_reducible refine Eq.trans u_J_X1_tally_66 ?_) | (with_reducible refine Eq.trans u_H_X1_tally_34 ?_) | (with_reducible refine Eq.trans u_H_X1_tally_8 ?_) | (with_reducible refine Eq.trans u_F_X1_tally ?_) | ((with_reducible refine e_ldIV (v := ?_) ?hO ?hV ?_); (case hO => (with_reducible first | assumption | exact gO)); (case hV => (first | (simp (disch := omega) only [leL, leR, ltL, ltR, eqR, eqL, mulL, addR, subR, clL, inL, nI_add, pk_mul, pk_sub, inb_nI, nI_clamp, nI_leI, nI_ltI, nI_eq, nI_1, divR, remR, shl1, h2, rI_s, rJ_s, rI_n, rJ_n, rI_wJ, rJ_wI]; with_reducible rfl) | with_reducible rfl))) | ((with_reducible refine e_ldJV (v := ?_) ?hO ?hV ?_); (case hO => (with_reducible first | assumption | exact gO)); (case hV => (first | (simp (disch := omega) only [leL, leR, ltL, ltR, eqR, eqL, mulL, addR, subR, clL, inL, nI_add, pk_mul, pk_sub, inb_nI, nI_clamp, nI_leI, nI_ltI, nI_eq, nI_1, divR, remR, shl1, h2, rI_s, rJ_s, rI_n, rJ_n, rI_wJ, rJ_wI]; with_reducible rfl) | with_reducible rfl))) | ((with_reducible refine e_ldR (r := ?_) ?hO ?hR ?_); (case hO => (with_reducible first | assumption | exact gO)); (case hR => (with_reducible first | assumption | exact gR3 | exact gR4 | exact gR5 | exact gR6 | exact gR7 | exact gR8 | exact gR9 | exact gR10 | exact gR11))) | ((with_reducible refine e_stIV (v2 := ?_) ?hO ?hV ?_); (case hO => (with_reducible first | assumption | exact gO)); (case hV => (first | (simp (disch := omega) only [leL, leR, ltL, ltR, eqR, eqL, mulL, addR, subR, clL, inL, nI_add, pk_mul, pk_sub, inb_nI, nI_clamp, nI_leI, nI_ltI, nI_eq, nI_1, divR, remR, shl1, h2, rI_s, rJ_s, rI_n, rJ_n, rI_wJ, rJ_wI]; with_reducible rfl) | with_reducible rfl))) | ((with_reducible refine e_stJV (v2 := ?_) ?hO ?hV ?_); (case hO => (with_reducible first | assumption | exact gO)); (case hV => (first | (simp (disch := omega) only [leL, leR, ltL, ltR, eqR, eqL, mulL, addR, subR, clL, inL, nI_add, pk_mul, pk_sub, inb_nI, nI_clamp, nI_leI, nI_ltI, nI_eq, nI_1, divR, remR, shl1, h2, rI_s, rJ_s, rI_n, rJ_n, rI_wJ, rJ_wI]; with_reducible rfl) | with_reducible rfl))) | ((with_reducible refine e_stZ ?hO ?hZ ?_); (case hO => (with_reducible first | assumption | exact gO)); (case hZ => (first | exact Or.inl rfl | exact Or.inr rfl | exact b2_01 _ | assumption))) | ((with_reducible refine e_alIV (j := ?_) (n := ?_) (v := ?_) ?hA ?hI ?hB ?hV ?_); (case hA => (with_reducible first | assumption | exact gA3 | exact gA4 | exact gA6 | exact gA9 | exact gA10 | exact gA11)); (case hI => (first | with_reducible rfl | with_reducible exact litn _ | (simp (disch := omega) only [leL, leR, ltL, ltR, eqR, eqL, mulL, addR, subR, clL, inL, nI_add, pk_mul, pk_sub, inb_nI, nI_clamp, nI_leI, nI_ltI, nI_eq, nI_1, divR, remR, shl1, h2, rI_s, rJ_s, rI_n, rJ_n, rI_wJ, rJ_wI]; with_reducible rfl))); (case hB => (omega)); (case hV => (first | (simp (disch := omega) only [leL, leR, ltL, ltR, eqR, eqL, mulL, addR, subR, clL, inL, nI_add, pk_mul, pk_sub, inb_nI, nI_clamp, nI_leI, nI_ltI, nI_eq, nI_1, divR, remR, shl1, h2, rI_s, rJ_s, rI_n, rJ_n, rI_wJ, rJ_wI]; with_reducible rfl) | with_reducible rfl))) | ((with_reducible refine e_alJV (j := ?_) (n := ?_) (v := ?_) ?hA ?hI ?hB ?hV ?_); (case hA => (with_reducible first | assumption | exact gA3 | exact gA4 | exact gA6 | exact gA9 | exact gA10 | exact gA11)); (case hI => (first | with_reducible rfl | with_reducible exact litn _ | (simp (disch := omega) only [leL, leR, ltL, ltR, eqR, eqL, mulL, addR, subR, clL, inL, nI_add, pk_mul, pk_sub, inb_nI, nI_clamp, nI_leI, nI_ltI, nI_eq, nI_1, divR, remR, shl1, h2, rI_s, rJ_s, rI_n, rJ_n, rI_wJ, rJ_wI]; with_reducible rfl))); (case hB => (omega)); (case hV => (first | (simp (disch := omega) only [leL, leR, ltL, ltR, eqR, eqL, mulL, addR, subR, clL, inL, nI_add, pk_mul, pk_sub, inb_nI, nI_clamp, nI_leI, nI_ltI, nI_eq, nI_1, divR, remR, shl1, h2, rI_s, rJ_s, rI_n, rJ_n, rI_wJ, rJ_wI]; with_reducible rfl) | with_reducible rfl))) | ((with_reducible refine e_alZV (j := ?_) (n := ?_) (v := ?_) ?hA ?hI ?hB ?hV ?_); (case hA => (with_reducible first | assumption | exact gA3 | exact gA4 | exact gA6 | exact gA9 | exact gA10 | exact gA11)); (case hI => (first | with_reducible rfl | with_reducible exact litn _ | (simp (disch := omega) only [leL, leR, ltL, ltR, eqR, eqL, mulL, addR, subR, clL, inL, nI_add, pk_mul, pk_sub, inb_nI, nI_clamp, nI_leI, nI_ltI, nI_eq, nI_1, divR, remR, shl1, h2, rI_s, rJ_s, rI_n, rJ_n, rI_wJ, rJ_wI]; with_reducible rfl))); (case hB => (omega)); (case hV => (first | (simp (disch := omega) only [leL, leR, ltL, ltR, eqR, eqL, mulL, addR, subR, clL, inL, nI_add, pk_mul, pk_sub, inb_nI, nI_clamp, nI_leI, nI_ltI, nI_eq, nI_1, divR, remR, shl1, h2, rI_s, rJ_s, rI_n, rJ_n, rI_wJ, rJ_wI]; with_reducible rfl) | with_reducible rfl))) | ((with_reducible refine e_asIV (j := ?_) (n := ?_) (v2 := ?_) ?hA ?hI ?hB ?hV ?_); (case hA => (with_reducible first | assumption | exact gA3 | exact gA4 | exact gA6 | exact gA9 | exact gA10 | exact gA11)); (case hI => (first | with_reducible rfl | with_reducible exact litn _ | (simp (disch := omega) only [leL, leR, ltL, ltR, eqR, eqL, mulL, addR, subR, clL, inL, nI_add, pk_mul, pk_sub, inb_nI, nI_clamp, nI_leI, nI_ltI, nI_eq, nI_1, divR, remR, shl1, h2, rI_s, rJ_s, rI_n, rJ_n, rI_wJ, rJ_wI]; with_reducible rfl))); (case hB => (omega)); (case hV => (first | (simp (disch := omega) only [leL, leR, ltL, ltR, eqR, eqL, mulL, addR, subR, clL, inL, nI_add, pk_mul, pk_sub, inb_nI, nI_clamp, nI_leI, nI_ltI, nI_eq, nI_1, divR, remR, shl1, h2, rI_s, rJ_s, rI_n, rJ_n, rI_wJ, rJ_wI]; with_reducible rfl) | with_reducible rfl))) | ((with_reducible refine e_asJV (j := ?_) (n := ?_) (v2 := ?_) ?hA ?hI ?hB ?hV ?_); (case hA => (with_reducible first | assumption | exact gA3 | exact gA4 | exact gA6 | exact gA9 | exact gA10 | exact gA11)); (case hI => (first | with_reducible rfl | with_reducible exact litn _ | (simp (disch := omega) only [leL, leR, ltL, ltR, eqR, eqL, mulL, addR, subR, clL, inL, nI_add, pk_mul, pk_sub, inb_nI, nI_clamp, nI_leI, nI_ltI, nI_eq, nI_1, divR, remR, shl1, h2, rI_s, rJ_s, rI_n, rJ_n, rI_wJ, rJ_wI]; with_reducible rfl))); (case hB => (omega)); (case hV => (first | (simp (disch := omega) only [leL, leR, ltL, ltR, eqR, eqL, mulL, addR, subR, clL, inL, nI_add, pk_mul, pk_sub, inb_nI, nI_clamp, nI_leI, nI_ltI, nI_eq, nI_1, divR, remR, shl1, h2, rI_s, rJ_s, rI_n, rJ_n, rI_wJ, rJ_wI]; with_reducible rfl) | with_reducible rfl))) | ((with_reducible refine e_asZ (j := ?_) (n := ?_) ?hA ?hI ?hB ?hZ ?_); (case hA => (with_reducible first | assumption | exact gA3 | exact gA4 | exact gA6 | exact gA9 | exact gA10 | exact gA11)); (case hI => (first | with_reducible rfl | with_reducible exact litn _ | (simp (disch := omega) only [leL, leR, ltL, ltR, eqR, eqL, mulL, addR, subR, clL, inL, nI_add, pk_mul, pk_sub, inb_nI, nI_clamp, nI_leI, nI_ltI, nI_eq, nI_1, divR, remR, shl1, h2, rI_s, rJ_s, rI_n, rJ_n, rI_wJ, rJ_wI]; with_reducible rfl))); (case hB => (omega)); (case hZ => (first | exact Or.inl rfl | exact Or.inr rfl | exact b2_01 _ | assumption))) | ((with_reducible refine e_nzI ?hZ ?_); (case hZ => (first | decide | assumption))) | ((with_reducible refine e_nzJ ?hZ ?_); (case hZ => (first | decide | assumption))) | ((with_reducible refine e_t ?hC ?_); (case hC => (first | assumption | decide | (simp (disch := omega) only [leL, leR, ltL, ltR, eqR, eqL, mulL, addR, subR, clL, inL, nI_add, pk_mul, pk_sub, inb_nI, nI_clamp, nI_leI, nI_ltI, nI_eq, nI_1, divR, remR, shl1, h2, rI_s, rJ_s, rI_n, rJ_n, rI_wJ, rJ_wI, b2_0, b2_1, lg_cmp_ge, lg_cmp_le, lg_cmp_gt, lg_cmp_lt, lg_cmp_eq]; first | done | omega) | omega))) | ((with_reducible refine e_f ?hC ?_); (case hC => (first | assumption | decide | (simp (disch := omega) only [leL, leR, ltL, ltR, eqR, eqL, mulL, addR, subR, clL, inL, nI_add, pk_mul, pk_sub, inb_nI, nI_clamp, nI_leI, nI_ltI, nI_eq, nI_1, divR, remR, shl1, h2, rI_s, rJ_s, rI_n, rJ_n, rI_wJ, rJ_wI, b2_0, b2_1, lg_cmp_ge, lg_cmp_le, lg_cmp_gt, lg_cmp_lt, lg_cmp_eq]; first | done | omega) | omega))))
    exact g1
end TALLY
