section UROWS
theorem u_J_X7_endOfFigures_38 {N : Nat} {l2 : Int32} {s : vS} : J_X7_endOfFigures_38 N l2 s = (some (l2, s)) := rfl
theorem u_H_X7_endOfFigures_2 {N : Nat} {n : Nat} {a0 : Nat} {l2 : Int32} {s : vS} : H_X7_endOfFigures_2 N (n + 1) a0 l2 s = (ldI s a0 7 3 (fun v1 => if v1 ≤ l2 then (J_X7_endOfFigures_38 N l2 s) else (ldR s a0 7 2 (fun r2 => alI s r2 l2 (fun v3 => if v3 < (48 : Int32) then (J_X7_endOfFigures_38 N l2 s) else (ldR s a0 7 2 (fun r4 => alI s r4 l2 (fun v5 => if (57 : Int32) < v5 then (J_X7_endOfFigures_38 N l2 s) else (nm (l2 + (1 : Int32)) (fun l2_6 => H_X7_endOfFigures_2 N n a0 l2_6 s)))))))))) := rfl
theorem u_F_X7_endOfFigures {N : Nat} {a0 : Nat} {l1 : Int32} {s : vS} : F_X7_endOfFigures N a0 l1 s = (rcv s a0 7 (H_X7_endOfFigures_2 N N a0 l1 s)) := rfl
theorem u_H_X7_numberOf_5 {N : Nat} {n : Nat} {a0 : Nat} {l2 : Int32} {l3 : Int32} {l4 : Int32} {s : vS} : H_X7_numberOf_5 N (n + 1) a0 l2 l3 l4 s = (if l2 ≤ l4 then (some (l3, s)) else (ldR s a0 7 2 (fun r1 => alI s r1 l4 (fun v2 => nm ((((l3 * (10 : Int32)) + v2) - (48 : Int32))) (fun l3_3 => nm (l4 + (1 : Int32)) (fun l4_4 => H_X7_numberOf_5 N n a0 l2 l3_3 l4_4 s)))))) := rfl
theorem u_F_X7_numberOf {N : Nat} {a0 : Nat} {l1 : Int32} {l2 : Int32} {s : vS} : F_X7_numberOf N a0 l1 l2 s = (rcv s a0 7 (H_X7_numberOf_5 N N a0 l2 (0 : Int32) l1 s)) := rfl
theorem u_J_X7_netOf_93 {N : Nat} {s : vS} : J_X7_netOf_93 N s = (some ((-1 : Int32), s)) := rfl
theorem u_H_X7_netOf_38 {N : Nat} {n : Nat} {a0 : Nat} {l2 : Int32} {a3 : Nat} {l4 : Int32} {l5 : Int32} {l6 : Int32} {s : vS} : H_X7_netOf_38 N (n + 1) a0 l2 a3 l4 l5 l6 s = (if l2 ≤ (l6 + (1 : Int32)) then (ldR s a3 1 7 (fun r6 => alR s r6 6 l4 (fun r7 => alI s r7 l5 (fun v8 => some (v8, s))))) else (ldR s a0 7 2 (fun r9 => alI s r9 l6 (fun v10 => nm ((v10 - (48 : Int32))) (fun l7_11 => ldR s a0 7 2 (fun r12 => alI s r12 (l6 + (1 : Int32)) (fun v13 => nm ((v13 - (48 : Int32))) (fun l8_14 => if l7_11 = l8_14 then (J_X7_netOf_93 N  s) else (if l4 ≤ l7_11 then (J_X7_netOf_93 N  s) else (if l8_14 < l4 then (bnd (F_X1_bitOf N l7_11 l8_14 s) (fun v15 s => nm ((l5 ||| v15)) (fun l5_16 => nm (l6 + (2 : Int32)) (fun l6_17 => H_X7_netOf_38 N n a0 l2 a3 l4 l5_16 l6_17 s)))) else (J_X7_netOf_93 N  s))))))))))) := rfl
theorem u_J_X7_netOf_28 {N : Nat} {s : vS} : J_X7_netOf_28 N s = (some ((-1 : Int32), s)) := rfl
theorem u_F_X7_netOf {N : Nat} {a0 : Nat} {l1 : Int32} {l2 : Int32} {a3 : Nat} {s : vS} : F_X7_netOf N a0 l1 l2 a3 s = (rcv s a0 7 (ldR s a0 7 2 (fun r1 => alI s r1 l1 (fun v2 => nm ((v2 - (48 : Int32))) (fun l4_3 => bnd (F_X1_hasSize N a3 l4_3 s) (fun v4 s => if v4 = (0 : Int32) then (J_X7_netOf_28 N  s) else (nzI (2 : Int32) (if ((l2 - l1) - (l2 - l1) / (2 : Int32) * (2 : Int32)) = (0 : Int32) then (J_X7_netOf_28 N  s) else (nm ((l1 + (1 : Int32))) (fun l6_5 => H_X7_netOf_38 N N a0 l2 a3 l4_3 (0 : Int32) l6_5 s)))))))))) := rfl
end UROWS
section RD1
variable {N z : Nat} {t : Nat → Nat} {m m' : vM} {s : vS}
/-! reading: figures, numbers, networks in a text -/
def TpC (m : vM) (z : Nat) (t : Nat → Nat) : Prop := z ≤ 60 ∧ rI m 234 3 = nI z ∧ ∀ i, i < z → t i < 128 ∧ rI m 235 i = nI (t i)
abbrev fig (t : Nat → Nat) (z i : Nat) : Prop := i < z ∧ 48 ≤ t i ∧ t i ≤ 57
def eof (t : Nat → Nat) (z : Nat) : Nat → Nat → Nat
  | 0, i => i
  | d + 1, i => if fig t z i then eof t z d (i + 1) else i
def ef (t : Nat → Nat) (z i : Nat) : Nat := eof t z (z - i) i
theorem eof_sp : ∀ d i, i + d = z → i ≤ eof t z d i ∧ eof t z d i ≤ z ∧ (∀ j, i ≤ j → j < eof t z d i → fig t z j) ∧ ¬ fig t z (eof t z d i)
  | 0, i, h => ⟨Nat.le_refl i, by show i ≤ z; omega, fun j h1 h2 => by have h2 : j < i := h2; omega, fun w => by have w : fig t z i := w; omega⟩
  | d + 1, i, h => by
    rw [eof]
    by_cases w : fig t z i
    · rw [if_pos w]
      obtain ⟨h1, h2, h3, h4⟩ := eof_sp d (i + 1) (by omega)
      refine ⟨by omega, h2, fun j g1 g2 => ?_, h4⟩
      by_cases e : j = i
      · rw [e]; exact w
      · exact h3 j (by omega) g2
    · rw [if_neg w]
      exact ⟨Nat.le_refl i, by omega, fun j h1 h2 => by omega, w⟩
theorem ef_sp {i : Nat} (h : i ≤ z) : i ≤ ef t z i ∧ ef t z i ≤ z ∧ (∀ j, i ≤ j → j < ef t z i → fig t z j) ∧ ¬ fig t z (ef t z i) := eof_sp (z - i) i (by omega)
theorem c_eof_l (hT : TpC m z t) : ∀ (d i n : Nat), i + d = z → d < n → H_X7_endOfFigures_2 N n 234 (nI i) (S m) = some (nI (eof t z d i), S m)
  | _, _, 0, _, h => by omega
  | 0, i, n + 1, hi, _ => by
    refine Eq.trans u_H_X7_endOfFigures_2 ?_
    refine e_ldIV ftO (hT.2.1) ?_
    refine e_t (by rw [show i = z by omega]; exact Int32.le_refl _) ?_
    rfl
  | d + 1, i, n + 1, hi, hd => by
    have h60 := hT.1
    obtain ⟨h1, h2⟩ := hT.2.2 i (by omega)
    rw [eof]
    refine Eq.trans u_H_X7_endOfFigures_2 ?_
    refine e_ldIV ftO (hT.2.1) ?_
    refine e_f (by rw [nI_leI (by omega) (by omega)]; omega) ?_
    refine e_ldR ftO ftR2 ?_
    refine e_alIV ftA2 rfl (by omega) (h2) ?_
    by_cases w1 : t i < 48
    · rw [if_neg (fun w : fig t z i => by have := w.2; omega)]
      refine e_t (by rw [ltR (by decide) (by omega)]; exact w1) ?_
      rfl
    refine e_f (by rw [ltR (by decide) (by omega)]; exact w1) ?_
    refine e_ldR ftO ftR2 ?_
    refine e_alIV ftA2 rfl (by omega) (h2) ?_
    by_cases w2 : 57 < t i
    · rw [if_neg (fun w : fig t z i => by have := w.2; omega)]
      refine e_t (by rw [ltL (by decide) (by omega)]; exact w2) ?_
      rfl
    refine e_f (by rw [ltL (by decide) (by omega)]; exact w2) ?_
    refine e_nm ?_
    rw [addR, if_pos (show fig t z i from ⟨by omega, by omega, by omega⟩)]
    exact c_eof_l hT d (i + 1) n (by omega) (by omega)
theorem c_ef (hN : 100 ≤ N) (hT : TpC m z t) {i : Nat} (h : i ≤ z) : F_X7_endOfFigures N 234 (nI i) (S m) = some (nI (ef t z i), S m) := by
  have h60 := hT.1
  unfold F_X7_endOfFigures
  refine e_rcv ftO ?_
  exact c_eof_l hT (z - i) i N (by omega) (by omega)
def nmb (t : Nat → Nat) : Nat → Nat → Nat → Nat
  | 0, _, v => v
  | d + 1, i, v => nmb t d (i + 1) (v * 10 + t i - 48)
theorem mulR (n i : Nat) : nI i * (no_index (OfNat.ofNat n) : Int32) = nI (i * (OfNat.ofNat n : Nat)) := by
  rw [Int32.mul_comm, mulL, Nat.mul_comm]
theorem c_num_l {e : Nat} (hT : TpC m z t) (he : e ≤ z) : ∀ (d i n v : Nat), i + d = e → d < n → (∀ j, i ≤ j → j < e → 48 ≤ t j) → H_X7_numberOf_5 N n 234 (nI e) (nI v) (nI i) (S m) = some (nI (nmb t d i v), S m)
  | _, _, 0, _, _, h, _ => by omega
  | 0, i, n + 1, v, hi, _, _ => by
    refine Eq.trans u_H_X7_numberOf_5 ?_
    refine e_t (by rw [show i = e by omega]; exact Int32.le_refl _) ?_
    rfl
  | d + 1, i, n + 1, v, hi, hd, hf => by
    have h60 := hT.1
    obtain ⟨h1, h2⟩ := hT.2.2 i (by omega)
    have h48 := hf i (Nat.le_refl _) (by omega)
    refine Eq.trans u_H_X7_numberOf_5 ?_
    refine e_f (by rw [nI_leI (by omega) (by omega)]; omega) ?_
    refine e_ldR ftO ftR2 ?_
    refine e_alIV ftA2 rfl (by omega) (h2) ?_
    refine e_nm ?_
    refine e_nm ?_
    rw [mulR, nI_add, subR (by show 48 ≤ _; omega), addR, nmb]
    exact c_num_l hT he d (i + 1) n _ (by omega) (by omega) (fun j g1 g2 => hf j (by omega) g2)
def num (t : Nat → Nat) (f e : Nat) : Nat := nmb t (e - f) f 0
theorem c_num {f e : Nat} (hN : 100 ≤ N) (hT : TpC m z t) (he : e ≤ z) (hfe : f ≤ e) (hf : ∀ j, f ≤ j → j < e → 48 ≤ t j) : F_X7_numberOf N 234 (nI f) (nI e) (S m) = some (nI (num t f e), S m) := by
  have h60 := hT.1
  unfold F_X7_numberOf
  refine e_rcv ftO ?_
  exact c_num_l hT he (e - f) f N 0 (by omega) (by omega) hf
theorem nmb_lt : ∀ (d i v b : Nat), v < b → (∀ j, i ≤ j → j < i + d → t j ≤ 57) → nmb t d i v < b * 10 ^ d
  | 0, _, v, b, h, _ => by rw [nmb]; omega
  | d + 1, i, v, b, h, hf => by
    rw [nmb]
    have := hf i (Nat.le_refl _) (by omega)
    have h2 := nmb_lt d (i + 1) (v * 10 + t i - 48) (b * 10) (by omega) (fun j g1 g2 => hf j (by omega) (by omega))
    rw [Nat.pow_succ, Nat.mul_comm (10 ^ d) 10, ← Nat.mul_assoc]
    exact h2
def ip : Option Nat → Int32
  | none => -1
  | some p => nI p
theorem ip_no : ip none = -1 := rfl
theorem nI_m1 {p : Nat} (h : p < 1000) : ¬ nI p = -1 := fun e => by
  have h0 : (0 : Int32) ≤ nI p := nI_pos' (by omega)
  rw [e] at h0
  exact absurd h0 (by decide)
def bdf (f e most : Nat) : Option Nat := if e = f then some f else if e - f ≤ most then none else some (f + most)
theorem c_bad {f e most : Nat} (h : f ≤ e) (he : e < 1000) (hm : most < 100) : F_X7_badFigure N (nI f) (nI e) (nI most) s = some (ip (bdf f e most), s) := by
  unfold F_X7_badFigure bdf
  by_cases w : e = f
  · rw [if_pos w]
    exact e_t (by rw [w]) rfl
  · rw [if_neg w]
    refine e_f (fun g => w ((nI_eq (by omega) (by omega)).mp g)) ?_
    rw [nI_subN h]
    by_cases w2 : e - f ≤ most
    · rw [if_pos w2]
      exact e_t ((nI_leI (by omega) (by omega)).mpr w2) rfl
    · rw [if_neg w2]
      refine e_f (fun g => w2 ((nI_leI (by omega) (by omega)).mp g)) ?_
      rw [nI_add]
      rfl
/-! a network's figures -/
def dgt (t : Nat → Nat) (i : Nat) : Nat := t i - 48
def pco (t : Nat → Nat) (sz f : Nat) : Nat → Option Nat
  | 0 => some 0
  | k + 1 => match pco t sz f k with
    | none => none
    | some c => if dgt t (f + 1 + 2 * k) = dgt t (f + 2 + 2 * k) ∨ sz ≤ dgt t (f + 1 + 2 * k) ∨ sz ≤ dgt t (f + 2 + 2 * k) then none else some (c ||| 2 ^ bx (dgt t (f + 1 + 2 * k)) (dgt t (f + 2 + 2 * k)))
theorem pco_n {sz f : Nat} : ∀ (d k : Nat), pco t sz f k = none → pco t sz f (k + d) = none
  | 0, k, h => h
  | d + 1, k, h => by
    have := pco_n d k h
    rw [← Nat.add_assoc, pco, this]
theorem bx_cds : ∀ sz, sz < 5 → ∀ i, i < sz → ∀ j, j < sz → i ≠ j → ∀ c, c < cds sz → c ||| 2 ^ bx i j < cds sz := by
  intro sz h i hi j hj hij c hc
  have hb : bx i j < sz * (sz - 1) / 2 := (show ∀ sz, sz < 5 → ∀ i, i < sz → ∀ j, j < sz → i ≠ j → bx i j < sz * (sz - 1) / 2 by decide +kernel) sz h i hi j hj hij
  exact Nat.or_lt_two_pow hc (Nat.pow_lt_pow_right (by decide) hb)
theorem pco_lt {sz f : Nat} (h : sz < 5) : ∀ (k c : Nat), pco t sz f k = some c → c < cds sz
  | 0, c, e => by
    cases e
    exact Nat.two_pow_pos _
  | k + 1, c, e => by
    rw [pco] at e
    cases hk : pco t sz f k with
    | none => rw [hk] at e; cases e
    | some c' =>
      rw [hk] at e
      dsimp only at e
      by_cases w : dgt t (f + 1 + 2 * k) = dgt t (f + 2 + 2 * k) ∨ sz ≤ dgt t (f + 1 + 2 * k) ∨ sz ≤ dgt t (f + 2 + 2 * k)
      · rw [if_pos w] at e; cases e
      · rw [if_neg w] at e
        cases e
        exact bx_cds sz h _ (by omega) _ (by omega) (by omega) _ (pco_lt h k c' hk)
def netV (q : Bool) (t : Nat → Nat) (f e : Nat) : Int32 := if sh_ q ≤ dgt t f ∧ dgt t f ≤ 4 ∧ (e - f) % 2 = 1 then (match pco t (dgt t f) f ((e - f) / 2) with
  | some c => nI (nu_ q (dgt t f) c)
  | none => -1) else -1
theorem c_net_l {q : Bool} {f e sz K : Nat} (hN : 100 ≤ N) (hT : TpC m z t) (hTb : Tab m) (he : e ≤ z) (hf : ∀ j, f ≤ j → j < e → fig t z j) (hsz : sh_ q ≤ sz ∧ sz ≤ 4) (hK : e = f + 1 + 2 * K) : ∀ (d k n c : Nat), k + d = K → d < n → pco t sz f k = some c →
    H_X7_netOf_38 N n 234 (nI e) (fo q) (nI sz) (nI c) (nI (f + 1 + 2 * k)) (S m) = some ((match pco t sz f K with
      | some c => nI (nu_ q sz c)
      | none => -1), S m)
  | _, _, 0, _, _, h, _ => by omega
  | 0, k, n + 1, c, hk, _, hc => by
    have h60 := hT.1
    obtain rfl : k = K := by omega
    have hlt := pco_lt (by omega) k c hc
    have h64 := cds_64 sz (by omega)
    rw [hc]
    refine Eq.trans u_H_X7_netOf_38 ?_
    refine e_t (by rw [addR, nI_leI (by omega) (by show f + 1 + 2 * k + 1 < _; omega)]; show e ≤ f + 1 + 2 * k + 1; omega) ?_
    refine e_ldR gO gR7 ?_
    refine e_alR gNn (by decide) rfl (by omega) (gNnR q sz (by omega)) ?_
    refine e_alIV (gNu (by omega)) rfl (by omega) (hTb.2.2.1 q sz c (by omega) hsz.1 hlt).1 ?_
    rfl
  | d + 1, k, n + 1, c, hk, hd, hc => by
    have h60 := hT.1
    have f1 := hf (f + 1 + 2 * k) (by omega) (by omega)
    have f2 := hf (f + 2 + 2 * k) (by omega) (by omega)
    obtain ⟨-, b1⟩ := hT.2.2 (f + 1 + 2 * k) (by omega)
    obtain ⟨-, b2'⟩ := hT.2.2 (f + 2 + 2 * k) (by omega)
    have hlt := pco_lt (by omega) k c hc
    have h64 := cds_64 sz (by omega)
    have i2 : nI (f + 1 + 2 * k) + 1 = nI (f + 2 + 2 * k) := by rw [addR]; exact congrArg nI (by show f + 1 + 2 * k + 1 = _; omega)
    have d1 : nI (t (f + 1 + 2 * k)) - 48 = nI (dgt t (f + 1 + 2 * k)) := by rw [subR (by show 48 ≤ _; omega)]; rfl
    have d2 : nI (t (f + 2 + 2 * k)) - 48 = nI (dgt t (f + 2 + 2 * k)) := by rw [subR (by show 48 ≤ _; omega)]; rfl
    have l1 : dgt t (f + 1 + 2 * k) < 10 := by unfold dgt; omega
    have l2 : dgt t (f + 2 + 2 * k) < 10 := by unfold dgt; omega
    refine Eq.trans u_H_X7_netOf_38 ?_
    refine e_f (by rw [i2, nI_leI (by omega) (by omega)]; omega) ?_
    refine e_ldR ftO ftR2 ?_
    refine e_alIV ftA2 rfl (by omega) (b1) ?_
    refine e_nm ?_
    refine e_ldR ftO ftR2 ?_
    refine e_alIV ftA2 i2 (by omega) b2' ?_
    refine e_nm ?_
    rw [d1, d2]
    have hp : pco t sz f (k + 1) = if dgt t (f + 1 + 2 * k) = dgt t (f + 2 + 2 * k) ∨ sz ≤ dgt t (f + 1 + 2 * k) ∨ sz ≤ dgt t (f + 2 + 2 * k) then none else some (c ||| 2 ^ bx (dgt t (f + 1 + 2 * k)) (dgt t (f + 2 + 2 * k))) := by rw [pco, hc]
    have hno : dgt t (f + 1 + 2 * k) = dgt t (f + 2 + 2 * k) ∨ sz ≤ dgt t (f + 1 + 2 * k) ∨ sz ≤ dgt t (f + 2 + 2 * k) → pco t sz f K = none := fun w => by
      rw [if_pos w] at hp
      have := pco_n d (k + 1) hp
      rw [show k + 1 + d = K by omega] at this
      exact this
    by_cases w1 : dgt t (f + 1 + 2 * k) = dgt t (f + 2 + 2 * k)
    · refine e_t (by rw [w1]) ?_
      rw [hno (Or.inl w1)]
      rfl
    refine e_f (fun g => w1 ((nI_eq (by omega) (by omega)).mp g)) ?_
    by_cases w2 : sz ≤ dgt t (f + 1 + 2 * k)
    · refine e_t ((nI_leI (by omega) (by omega)).mpr w2) ?_
      rw [hno (Or.inr (Or.inl w2))]
      rfl
    refine e_f (fun g => w2 ((nI_leI (by omega) (by omega)).mp g)) ?_
    by_cases w3 : sz ≤ dgt t (f + 2 + 2 * k)
    · refine e_f (fun g => by have := (nI_ltI (by omega) (by omega)).mp g; omega) ?_
      rw [hno (Or.inr (Or.inr w3))]
      rfl
    refine e_t ((nI_ltI (by omega) (by omega)).mpr (by omega)) ?_
    refine e_bnd (c_bitOf (by omega) (by omega)) ?_
    refine e_nm ?_
    refine e_nm ?_
    rw [if_neg (by omega)] at hp
    have hlt2 := pco_lt (by omega) (k + 1) _ hp
    have hpow : 2 ^ bx (dgt t (f + 1 + 2 * k)) (dgt t (f + 2 + 2 * k)) ≤ c ||| 2 ^ bx (dgt t (f + 1 + 2 * k)) (dgt t (f + 2 + 2 * k)) := Nat.right_le_or
    rw [nI_or (by omega) (by omega), addR]
    exact c_net_l hN hT hTb he hf hsz hK d (k + 1) n _ (by omega) (by omega) hp
theorem c_netOf {q : Bool} {f e : Nat} (hN : 100 ≤ N) (hT : TpC m z t) (hTb : Tab m) (he : e ≤ z) (hfe : f < e) (hf : ∀ j, f ≤ j → j < e → fig t z j) : F_X7_netOf N 234 (nI f) (nI e) (fo q) (S m) = some (netV q t f e, S m) := by
  have h60 := hT.1
  have f1 := hf f (Nat.le_refl _) hfe
  obtain ⟨-, b1⟩ := hT.2.2 f (by omega)
  have d1 : nI (t f) - 48 = nI (dgt t f) := by rw [subR (by show 48 ≤ _; omega)]; rfl
  have l1 : dgt t f < 10 := by unfold dgt; omega
  have hs := sh_lt q
  unfold F_X7_netOf
  refine e_rcv ftO ?_
  refine e_ldR ftO ftR2 ?_
  refine e_alIV ftA2 rfl (by omega) (b1) ?_
  refine e_nm ?_
  rw [d1]
  refine e_bnd (c_hasSize hTb _) ?_
  by_cases w : sh_ q ≤ dgt t f ∧ dgt t f ≤ 4
  · refine e_f (b2_nz ⟨(nI_leI (by omega) (by omega)).mpr w.1, (leR (by decide) (by omega)).mpr w.2⟩) ?_
    refine e_nzI (by decide) ?_
    rw [nI_subN (by omega), remR (by omega) (by decide) (by decide)]
    by_cases w2 : (e - f) % 2 = 1
    · have hv : netV q t f e = (match pco t (dgt t f) f ((e - f) / 2) with
        | some c => nI (nu_ q (dgt t f) c)
        | none => -1) := by unfold netV; rw [if_pos ⟨w.1, w.2, w2⟩]
      rw [hv]
      refine e_f (by rw [eqR (by decide) (by omega)]; show ¬ (e - f) % 2 = 0; omega) ?_
      refine e_nm ?_
      rw [addR]
      exact c_net_l (K := (e - f) / 2) hN hT hTb he hf w (by omega) ((e - f) / 2) 0 N 0 (by omega) (by omega) rfl
    · have hv : netV q t f e = -1 := by unfold netV; rw [if_neg (fun g => w2 g.2.2)]
      rw [hv]
      refine e_t (by rw [eqR (by decide) (by omega)]; show (e - f) % 2 = 0; omega) ?_
      rfl
  · have hv : netV q t f e = -1 := by unfold netV; rw [if_neg (fun g => w ⟨g.1, g.2.1⟩)]
    rw [hv]
    refine e_t (b2_f (fun g => w ⟨(nI_leI (by omega) (by omega)).mp g.1, (leR (by decide) (by omega)).mp g.2⟩)) ?_
    rfl
end RD1
