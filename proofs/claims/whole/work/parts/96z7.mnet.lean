section RD7
variable {N z a : Nat} {t : Nat → Nat} {m m' : vM} {s : vS}
/-- what the model knows of a network after k figures -/
def NIv (q : Bool) (t : Nat → Nat) (f k : Nat) (l4 l5 l6 l7 : Int32) : Prop :=
  (k = 0 → l5 = 0 ∧ l7 = 1) ∧ (0 < k → l4 = nI (dgt t f) ∧ ((∃ c, (sh_ q ≤ dgt t f ∧ dgt t f ≤ 4 ∧ pco t (dgt t f) f ((k - 1) / 2) = some c) ∧ l7 = 1 ∧ l5 = nI c) ∨ ((∀ c, ¬ (sh_ q ≤ dgt t f ∧ dgt t f ≤ 4 ∧ pco t (dgt t f) f ((k - 1) / 2) = some c)) ∧ l7 = 0))) ∧ (0 < k → k % 2 = 0 → l6 = nI (dgt t (f + k - 1)))
def qcl (q : Bool) (c cl : Nat) : Prop := (q = false ∧ c = 91 ∧ cl = 93) ∨ (q = true ∧ c = 60 ∧ cl = 62)
theorem or0 (x : Int32) : x ||| 0 = x := Int32.or_zero
theorem m_net_l {q : Bool} {c cl f : Nat} (hq : qcl q c cl) : ∀ (d k n : Nat) (l4 l5 l6 l7 : Int32) (m : vM), d < n → k + d ≤ 9 → f + k + d ≤ z → (∀ j, f + k ≤ j → j < f + k + d → fig t z j) → (k + d = 9 ∨ ¬ fig t z (f + k + d)) → TpM m z t → rI m 322 29 = nI (f + k) → NIv q t f k l4 l5 l6 l7 →
    ∃ (m' : vM) (l4' l5' l6' l7' : Int32), H_X9_isNetwork_29 N n 322 (nI c) (nI a) (nI k) l4 l5 l6 l7 (S m) = J_X9_isNetwork_167 N 322 (nI c) (nI a) (nI (k + d)) l4' l5' l7' (S m') ∧ Fr atP m m' ∧ rI m' 322 29 = nI (f + k + d) ∧ NIv q t f (k + d) l4' l5' l6' l7'
  | _, _, 0, _, _, _, _, _, h, _, _, _, _, _, _, _ => by omega
  | 0, k, n + 1, l4, l5, l6, l7, m, _, hk, hz, hf, he, hT, h9, hI => by
    refine ⟨m, l4, l5, l6, l7, ?_, Fr.rf, h9, hI⟩
    refine Eq.trans u_H_X9_isNetwork_29 ?_
    by_cases w : k = 9
    · exact e_t (by rw [w]; exact Int32.le_refl _) rfl
    · refine e_f (by rw [leL (by decide) (by omega)]; show ¬ 9 ≤ k; omega) ?_
      refine e_bnd (m_isFigure hT (by omega) h9) ?_
      exact e_t (b2_f (he.resolve_left (by omega))) rfl
  | d + 1, k, n + 1, l4, l5, l6, l7, m, hd, hk, hz, hf, he, hT, h9, hI => by
    have h60 := hT.1
    have fa := hf (f + k) (Nat.le_refl _) (by omega)
    have f1 : Fr atP m (wI m 322 29 (nI (f + k + 1))) := Fr.rf.sI ⟨rfl, rfl⟩
    have dl : dgt t (f + k) < 10 := by unfold dgt; have := fa.2; omega
    have ih : ∀ l4 l5 l6 l7, NIv q t f (k + 1) l4 l5 l6 l7 → ∃ (m' : vM) (l4' l5' l6' l7' : Int32), J_X9_isNetwork_151 N (H_X9_isNetwork_29 N n) 322 (nI c) (nI a) (nI k) l4 l5 l6 l7 (S m) = J_X9_isNetwork_167 N 322 (nI c) (nI a) (nI (k + (d + 1))) l4' l5' l7' (S m') ∧ Fr atP m m' ∧ rI m' 322 29 = nI (f + k + (d + 1)) ∧ NIv q t f (k + (d + 1)) l4' l5' l6' l7' := by
      intro x4 x5 x6 x7 hI2
      obtain ⟨m', l4', l5', l6', l7', g1, g2, g3, g4⟩ := m_net_l hq d (k + 1) n x4 x5 x6 x7 (wI m 322 29 (nI (f + k + 1))) (by omega) (by omega) (by omega) (fun j j1 j2 => hf j (by omega) (by omega)) (by rw [show f + (k + 1) + d = f + k + (d + 1) by omega]; omega) (hT.fr (f1.mo (fun _ _ => at_mq))) (by rw [rI_s]; rfl) hI2
      rw [show k + 1 + d = k + (d + 1) by omega] at g1 g4
      rw [show f + (k + 1) + d = f + k + (d + 1) by omega] at g3
      refine ⟨m', l4', l5', l6', l7', ?_, f1.tr g2, g3, g4⟩
      unfold J_X9_isNetwork_151
      refine e_ldIV fmO (h9) ?_
      rw [addR]
      refine e_stI fmO ?_
      refine e_nm ?_
      rw [addR]
      exact g1
    have start : ∀ R, (if nI k = 0 then (if nI c = 91 then (J_X9_isNetwork_72 N (H_X9_isNetwork_29 N n) 322 (nI c) (nI a) (nI k) (nI (dgt t (f + k))) l5 l6 (nI (dgt t (f + k))) (0) (S m)) else (J_X9_isNetwork_72 N (H_X9_isNetwork_29 N n) 322 (nI c) (nI a) (nI k) (nI (dgt t (f + k))) l5 l6 (nI (dgt t (f + k))) (1) (S m))) else (nzI (2) (if (nI k - nI k / (2) * (2)) = (1) then (J_X9_isNetwork_151 N (H_X9_isNetwork_29 N n) 322 (nI c) (nI a) (nI k) l4 l5 (nI (dgt t (f + k))) l7 (S m)) else (if l7 = (0) then (J_X9_isNetwork_125 N (H_X9_isNetwork_29 N n) 322 (nI c) (nI a) (nI k) l4 l5 l6 (nI (dgt t (f + k))) (S m)) else (if (nI (dgt t (f + k))) = l6 then (J_X9_isNetwork_125 N (H_X9_isNetwork_29 N n) 322 (nI c) (nI a) (nI k) l4 l5 l6 (nI (dgt t (f + k))) (S m)) else (if l4 ≤ (nI (dgt t (f + k))) then (J_X9_isNetwork_125 N (H_X9_isNetwork_29 N n) 322 (nI c) (nI a) (nI k) l4 l5 l6 (nI (dgt t (f + k))) (S m)) else (if l4 ≤ l6 then (J_X9_isNetwork_125 N (H_X9_isNetwork_29 N n) 322 (nI c) (nI a) (nI k) l4 l5 l6 (nI (dgt t (f + k))) (S m)) else (J_X9_isNetwork_126 N (H_X9_isNetwork_29 N n) 322 (nI c) (nI a) (nI k) l4 l5 l6 (nI (dgt t (f + k))) (1) (S m))))))))) = R → H_X9_isNetwork_29 N (n + 1) 322 (nI c) (nI a) (nI k) l4 l5 l6 l7 (S m) = R := by
      intro R hR
      refine Eq.trans u_H_X9_isNetwork_29 ?_
      refine e_f (by rw [leL (by decide) (by omega)]; show ¬ 9 ≤ k; omega) ?_
      refine e_bnd (m_isFigure hT (by omega) h9) ?_
      refine e_f (b2_nz fa) ?_
      refine e_bnd (m_here hT (by omega) h9) ?_
      refine e_nm ?_
      rw [show hr t z (f + k) = nI (t (f + k)) from if_pos fa.1, subR (by have := fa.2; show 48 ≤ _; omega)]
      exact hR
    by_cases k0 : k = 0
    · -- the size
      subst k0
      have hsh : ∀ x : Int32, x = nI (sh_ q) → (b2 (x ≤ nI (dgt t (f + 0)) ∧ nI (dgt t (f + 0)) ≤ 4) = b2 (sh_ q ≤ dgt t f ∧ dgt t f ≤ 4)) := fun x hx => b2_c (by
        have := sh_lt q
        rw [hx, nI_leI (by omega) (by omega), leR (by decide) (by omega)]
        exact Iff.rfl)
      have hnew : NIv q t f (0 + 1) (nI (dgt t (f + 0))) l5 l6 (b2 (sh_ q ≤ dgt t f ∧ dgt t f ≤ 4)) := by
        refine ⟨fun h => by omega, fun _ => ⟨rfl, ?_⟩, fun _ h => by omega⟩
        by_cases w : sh_ q ≤ dgt t f ∧ dgt t f ≤ 4
        · exact Or.inl ⟨0, ⟨w.1, w.2, rfl⟩, b2_t w, (hI.1 rfl).1⟩
        · exact Or.inr ⟨fun c hc => w ⟨hc.1, hc.2.1⟩, b2_f w⟩
      obtain ⟨m', l4', l5', l6', l7', g1, g2, g3, g4⟩ := ih _ _ _ _ hnew
      refine ⟨m', l4', l5', l6', l7', start _ ?_, g2, g3, g4⟩
      refine e_t (rfl) ?_
      rcases hq with ⟨q1, q2, q3⟩ | ⟨q1, q2, q3⟩
      · refine e_t (by rw [q2]; rfl) ?_
        unfold J_X9_isNetwork_72
        refine e_bnd (m_in _ _ _) ?_
        rw [hsh 0 (by rw [q1]; rfl)]
        exact g1
      · refine e_f (by rw [q2]; decide) ?_
        unfold J_X9_isNetwork_72
        refine e_bnd (m_in _ _ _) ?_
        rw [hsh 1 (by rw [q1]; rfl)]
        exact g1
    · have hkp : 0 < k := Nat.pos_of_ne_zero k0
      obtain ⟨i4, igd⟩ := hI.2.1 hkp
      have nk0 : ¬ nI k = 0 := by rw [eqR (by decide) (by omega)]; exact k0
      have hrem : nI k - nI k / 2 * 2 = nI (k % 2) := remR (by omega) (by decide) (by decide)
      by_cases ko : k % 2 = 1
      · -- one of two
        have hnew : NIv q t f (k + 1) l4 l5 (nI (dgt t (f + k))) l7 := by
          refine ⟨fun h => by omega, fun _ => ⟨i4, ?_⟩, fun _ _ => rfl⟩
          rw [show (k + 1 - 1) / 2 = (k - 1) / 2 by omega]
          exact igd
        obtain ⟨m', l4', l5', l6', l7', g1, g2, g3, g4⟩ := ih _ _ _ _ hnew
        refine ⟨m', l4', l5', l6', l7', start _ ?_, g2, g3, g4⟩
        refine e_f (nk0) ?_
        refine e_nzI (by decide) ?_
        refine e_t (by rw [hrem, ko]; rfl) ?_
        exact g1
      · -- the other
        have i6 := hI.2.2 hkp (by omega)
        have hj : (k + 1 - 1) / 2 = (k - 1) / 2 + 1 := by omega
        have ha1 : f + 1 + 2 * ((k - 1) / 2) = f + k - 1 := by omega
        have ha2 : f + 2 + 2 * ((k - 1) / 2) = f + k := by omega
        have j125 : ∀ R, J_X9_isNetwork_151 N (H_X9_isNetwork_29 N n) 322 (nI c) (nI a) (nI k) l4 l5 l6 0 (S m) = R → J_X9_isNetwork_125 N (H_X9_isNetwork_29 N n) 322 (nI c) (nI a) (nI k) l4 l5 l6 (nI (dgt t (f + k))) (S m) = R := by
          intro R hR
          unfold J_X9_isNetwork_125 J_X9_isNetwork_126
          refine e_t (rfl) ?_
          unfold J_X9_isNetwork_148
          refine e_nm ?_
          rw [or0]
          exact hR
        have hbad : (∀ c, ¬ (sh_ q ≤ dgt t f ∧ dgt t f ≤ 4 ∧ pco t (dgt t f) f ((k - 1) / 2 + 1) = some c)) → NIv q t f (k + 1) l4 l5 l6 0 := fun h => ⟨fun h => by omega, fun _ => ⟨i4, Or.inr ⟨by rw [hj]; exact h, rfl⟩⟩, fun _ h => by omega⟩
        have begin_ : ∀ R, (if l7 = (0) then (J_X9_isNetwork_125 N (H_X9_isNetwork_29 N n) 322 (nI c) (nI a) (nI k) l4 l5 l6 (nI (dgt t (f + k))) (S m)) else (if (nI (dgt t (f + k))) = l6 then (J_X9_isNetwork_125 N (H_X9_isNetwork_29 N n) 322 (nI c) (nI a) (nI k) l4 l5 l6 (nI (dgt t (f + k))) (S m)) else (if l4 ≤ (nI (dgt t (f + k))) then (J_X9_isNetwork_125 N (H_X9_isNetwork_29 N n) 322 (nI c) (nI a) (nI k) l4 l5 l6 (nI (dgt t (f + k))) (S m)) else (if l4 ≤ l6 then (J_X9_isNetwork_125 N (H_X9_isNetwork_29 N n) 322 (nI c) (nI a) (nI k) l4 l5 l6 (nI (dgt t (f + k))) (S m)) else (J_X9_isNetwork_126 N (H_X9_isNetwork_29 N n) 322 (nI c) (nI a) (nI k) l4 l5 l6 (nI (dgt t (f + k))) (1) (S m)))))) = R → H_X9_isNetwork_29 N (n + 1) 322 (nI c) (nI a) (nI k) l4 l5 l6 l7 (S m) = R := by
          intro R hR
          refine start R ?_
          refine e_f (nk0) ?_
          refine e_nzI (by decide) ?_
          refine e_f (by rw [hrem, eqR (by decide) (by omega)]; exact ko) ?_
          exact hR
        rcases igd with ⟨c0, ⟨s1, s2, s3⟩, g7, g5⟩ | ⟨hno, g7⟩
        · have hdl : dgt t (f + k - 1) < 10 ∨ 10 ≤ dgt t (f + k - 1) := by omega
          have hp : pco t (dgt t f) f ((k - 1) / 2 + 1) = if dgt t (f + k - 1) = dgt t (f + k) ∨ dgt t f ≤ dgt t (f + k - 1) ∨ dgt t f ≤ dgt t (f + k) then none else some (c0 ||| 2 ^ bx (dgt t (f + k - 1)) (dgt t (f + k))) := by
            rw [pco, s3, ha1, ha2]
          by_cases w : dgt t (f + k - 1) = dgt t (f + k) ∨ dgt t f ≤ dgt t (f + k - 1) ∨ dgt t f ≤ dgt t (f + k)
          · rw [if_pos w] at hp
            obtain ⟨m', l4', l5', l6', l7', g1, g2, g3, g4⟩ := ih _ _ _ _ (hbad (fun c hc => by rw [hp] at hc; cases hc.2.2))
            refine ⟨m', l4', l5', l6', l7', begin_ _ ?_, g2, g3, g4⟩
            have gg := j125 _ g1
            refine e_f (by rw [g7]; decide) ?_
            refine e_i (fun _ => gg) (fun n1 => ?_)
            refine e_i (fun _ => gg) (fun n2 => ?_)
            refine e_i (fun _ => gg) (fun n3 => ?_)
            exfalso
            rw [i6] at n1 n3
            rw [i4] at n2 n3
            have n2 : ¬ dgt t f ≤ dgt t (f + k) := fun y => n2 ((nI_leI (by omega) (by omega)).mpr y)
            rcases w with w | w | w
            · exact n1 (by rw [w])
            · have h9 : dgt t (f + k - 1) < 2 ^ 31 := by
                have ht := (hT.2.2 (f + k - 1) (by omega)).1
                unfold dgt
                omega
              exact n3 ((nI_leI (by omega) h9).mpr w)
            · exact n2 w
          · rw [if_neg w] at hp
            have hlt2 := pco_lt (by omega) ((k - 1) / 2 + 1) _ hp
            have h64 := cds_64 (dgt t f) (by omega)
            have hpow : 2 ^ bx (dgt t (f + k - 1)) (dgt t (f + k)) ≤ c0 ||| 2 ^ bx (dgt t (f + k - 1)) (dgt t (f + k)) := Nat.right_le_or
            have hc0 : c0 ≤ c0 ||| 2 ^ bx (dgt t (f + k - 1)) (dgt t (f + k)) := Nat.left_le_or
            have hb31 : bx (dgt t (f + k - 1)) (dgt t (f + k)) < 31 := by
              rcases Nat.lt_or_ge (bx (dgt t (f + k - 1)) (dgt t (f + k))) 31 with y | y
              · exact y
              · have := Nat.pow_le_pow_right (show 1 ≤ 2 by decide) y
                omega
            obtain ⟨m', l4', l5', l6', l7', g1, g2, g3, g4⟩ := ih l4 (nI (c0 ||| 2 ^ bx (dgt t (f + k - 1)) (dgt t (f + k)))) l6 1 ⟨fun h => by omega, fun _ => ⟨i4, Or.inl ⟨_, ⟨s1, s2, by rw [hj]; exact hp⟩, rfl, rfl⟩⟩, fun _ h => by omega⟩
            refine ⟨m', l4', l5', l6', l7', begin_ _ ?_, g2, g3, g4⟩
            refine e_f (by rw [g7]; decide) ?_
            refine e_f (fun y => w (Or.inl ((nI_eq (by omega) (by omega)).mp (y.trans i6)).symm)) ?_
            refine e_f (fun y => by rw [i4, nI_leI (by omega) (by omega)] at y; omega) ?_
            refine e_f (fun y => by rw [i4, i6, nI_leI (by omega) (by omega)] at y; omega) ?_
            unfold J_X9_isNetwork_126
            refine e_f (by decide) ?_
            rw [i6]
            refine e_bnd (m_bit (by omega) (by omega)) ?_
            unfold J_X9_isNetwork_148
            refine e_nm ?_
            rw [shl1 _ hb31, g5, nI_or (by omega) (by omega), ← i6]
            exact g1
        · obtain ⟨m', l4', l5', l6', l7', g1, g2, g3, g4⟩ := ih _ _ _ _ (hbad (fun c hc => by
            cases hk : pco t (dgt t f) f ((k - 1) / 2) with
            | none =>
              have := pco_n 1 ((k - 1) / 2) hk
              rw [this] at hc
              cases hc.2.2
            | some c1 => exact hno c1 ⟨hc.1, hc.2.1, hk⟩))
          refine ⟨m', l4', l5', l6', l7', begin_ _ ?_, g2, g3, g4⟩
          refine e_t (g7) ?_
          exact j125 _ g1
theorem m_isNetwork {q : Bool} {c cl : Nat} {T : List Tok} (hN : 100 ≤ N) (hq : qcl q c cl) (hTb : Tab m) (hT : TpM m z t) (hO : TokM m T) (hl : T.length ≤ a) (ha : a < z) (h9 : rI m 322 29 = nI a) :
    ∃ v m', F_X9_isNetwork N 322 (nI c) (S m) = some (v, S m') ∧ Fr (fun b j => atP b j ∨ adP b j) m m' ∧ ((v = 0 ∧ ∃ b, tkN q t z a cl = .inl b ∧ b ≤ z ∧ rI m' 322 29 = nI b) ∨ (v = 1 ∧ ∃ w a', tkN q t z a cl = .inr (w, a') ∧ a < a' ∧ a' ≤ z ∧ rI m' 322 29 = nI a' ∧ TokM m' (T ++ [(c, a, w, 0)]))) := by
  have h60 := hT.1
  have hcc : (c = 91 ∨ c = 60) ∧ (cl = 93 ∨ cl = 62) := by unfold qcl at hq; omega
  obtain ⟨e1, e2, e3, e4⟩ := ef_sp (t := t) (z := z) (i := a + 1) (by omega)
  obtain ⟨e, he⟩ : ∃ e, ef t z (a + 1) = e := ⟨_, rfl⟩
  rw [he] at e1 e2 e3 e4
  obtain ⟨K, hK⟩ : ∃ K, K = (if e - (a + 1) ≤ 9 then e - (a + 1) else 9) := ⟨_, rfl⟩
  have hK2 : K ≤ 9 ∧ a + 1 + K ≤ e ∧ (K = 9 ∨ a + 1 + K = e) := by
    rw [hK]
    split <;> omega
  have f1 : Fr atP m (wI m 322 29 (nI (a + 1))) := Fr.rf.sI ⟨rfl, rfl⟩
  obtain ⟨m1, l4, l5, l6, l7, g1, g2, g3, g4⟩ := m_net_l (N := N) (a := a) (z := z) (t := t) (f := a + 1) hq K 0 N 0 0 0 1 (wI m 322 29 (nI (a + 1))) (by omega) (by omega) (by omega) (fun j j1 j2 => e3 j (by omega) (by omega)) (by
    rcases hK2.2.2 with h | h
    · exact Or.inl (by omega)
    · exact Or.inr (by rw [show a + 1 + 0 + K = e by omega]; exact e4)) (hT.fr (f1.mo (fun _ _ => at_mq))) (rI_s _ _ _ _) ⟨fun _ => ⟨rfl, rfl⟩, fun h => by omega, fun h => by omega⟩
  rw [Nat.zero_add] at g1 g4
  have g3 : rI m1 322 29 = nI (a + 1 + K) := g3
  have f2 : Fr atP m m1 := f1.tr g2
  have hT1 := hT.fr (f2.mo (fun _ _ => at_mq))
  have hO1 := hO.fr f2
  have start : ∀ R, J_X9_isNetwork_167 N 322 (nI c) (nI a) (nI K) l4 l5 l7 (S m1) = R → F_X9_isNetwork N 322 (nI c) (S m) = R := by
    intro R hR
    unfold F_X9_isNetwork
    refine e_rcv fmO ?_
    refine e_ldIV fmO (h9) ?_
    refine e_ldIV fmO (h9) ?_
    rw [addR]
    refine e_stI fmO ?_
    exact g1.trans hR
  have hv : tkN q t z a cl = match bdf (a + 1) e 9 with
    | some b => .inl b
    | none => if e < z ∧ t e = cl then .inr (netV q t (a + 1) e, e + 1) else .inl e := by
    unfold tkN
    rw [he]
    rfl
  have j188 : ∀ R, ¬ K = 0 → J_X9_isNetwork_188 N 322 (nI c) (nI a) (nI K) l4 l5 l7 (hr t z (a + 1 + K)) (nI cl) (S m1) = R → F_X9_isNetwork N 322 (nI c) (S m) = R := by
    intro R h0 hR
    refine start R ?_
    unfold J_X9_isNetwork_167
    refine e_f (by rw [eqR (by decide) (by omega)]; exact h0) ?_
    refine e_bnd (m_here hT1 (by omega) g3) ?_
    rcases hq with ⟨q1, q2, q3⟩ | ⟨q1, q2, q3⟩
    · refine e_t (by rw [q2]; rfl) ?_
      rw [q3] at hR
      exact hR
    · refine e_f (by rw [q2]; decide) ?_
      rw [q3] at hR
      exact hR
  by_cases w0 : e = a + 1
  · have hK0 : K = 0 := by rw [hK, w0, if_pos (by omega)]; omega
    have hb : bdf (a + 1) e 9 = some (a + 1) := by unfold bdf; rw [if_pos w0]
    rw [hb] at hv
    rw [hK0] at g3
    refine ⟨0, m1, start _ ?_, f2.mo (fun _ _ => Or.inl), Or.inl ⟨rfl, a + 1, hv, by omega, g3⟩⟩
    unfold J_X9_isNetwork_167
    refine e_t (by rw [hK0]; rfl) ?_
    rfl
  · by_cases w9 : e - (a + 1) ≤ 9
    · have hKe : K = e - (a + 1) := by rw [hK, if_pos w9]
      have hKz : a + 1 + K = e := by omega
      have hb : bdf (a + 1) e 9 = none := by unfold bdf; rw [if_neg w0, if_pos w9]
      rw [hb] at hv
      rw [hKz] at g3 j188
      by_cases w : e < z ∧ t e = cl
      · have hv : tkN q t z a cl = .inr (netV q t (a + 1) e, e + 1) := hv.trans (if_pos w)
        have f3 : Fr atP m (wI m1 322 29 (nI (e + 1))) := f2.sI ⟨rfl, rfl⟩
        have hO3 := hO.fr f3
        have hTb3 : Tab (wI m1 322 29 (nI (e + 1))) := hTb.fr (fun b j hb => f3 b j (by unfold tabP at hb; unfold atP; omega))
        obtain ⟨m4, d1, d2, d3⟩ := m_add (N := N) hO3 (by omega) c a (netV q t (a + 1) e) 0
        have hmc : mc c = c := by unfold mc; exact if_neg (by omega)
        rw [hmc] at d1
        have j266 : J_X9_isNetwork_266 N 322 (nI c) (nI a) (netV q t (a + 1) e) (S (wI m1 322 29 (nI (e + 1)))) = some (1, S m4) := by
          unfold J_X9_isNetwork_266
          refine e_bnd (d1) ?_
          rfl
        obtain ⟨i4, igd⟩ := g4.2.1 (by omega)
        refine ⟨1, m4, j188 _ (by omega) ?_, (f3.mo (fun _ _ => Or.inl)).tr (d2.mo (fun _ _ => Or.inr)), Or.inr ⟨rfl, _, e + 1, hv, by omega, by omega, by rw [d2.i (by unfold adP; omega), rI_s], d3⟩⟩
        unfold J_X9_isNetwork_188
        refine e_t ((hr_eq hT1 (by omega)).mpr w) ?_
        refine e_ldIV fmO (g3) ?_
        rw [addR]
        refine e_stI fmO ?_
        have j219 : netV q t (a + 1) e = -1 → J_X9_isNetwork_219 N 322 (nI c) (nI a) l4 l5 (S (wI m1 322 29 (nI (e + 1)))) = some (1, S m4) := by
          intro hn
          rw [hn] at j266
          unfold J_X9_isNetwork_219 J_X9_isNetwork_220
          refine e_t (rfl) ?_
          exact j266
        rw [hKe] at igd
        rcases igd with ⟨c0, ⟨s1, s2, s3⟩, g7, g5⟩ | ⟨hno, g7⟩
        · refine e_f (by rw [g7]; decide) ?_
          refine e_nzI (by decide) ?_
          rw [remR (by omega) (by decide) (by decide)]
          by_cases ko : (e - (a + 1)) % 2 = 1
          · have hnv : netV q t (a + 1) e = nI (nu_ q (dgt t (a + 1)) c0) := by
              unfold netV
              rw [if_pos ⟨s1, s2, ko⟩, show (e - (a + 1)) / 2 = (e - (a + 1) - 1) / 2 by omega, s3]
            have hc0 := pco_lt (by omega) _ _ s3
            have h64 := cds_64 (dgt t (a + 1)) (by omega)
            have htb := (hTb3.2.2.1 q (dgt t (a + 1)) c0 (by omega) s1 hc0).2
            rw [hnv] at j266
            refine e_t (by rw [hKe, show (OfNat.ofNat 2 : Nat) = 2 from rfl, ko]; rfl) ?_
            unfold J_X9_isNetwork_220
            refine e_f (by decide) ?_
            rw [i4, g5]
            rcases hq with ⟨q1, q2, q3⟩ | ⟨q1, q2, q3⟩
            · refine e_t (by rw [q2]; rfl) ?_
              rw [q1] at htb
              refine e_ldR fmO fmR2 ?_
              refine e_alIV fmA2 (j := 64 * dgt t (a + 1) + c0) (by rw [mulL, nI_add]) (by omega) (show rI _ 325 _ = nI (nu_ q (dgt t (a + 1)) c0) by rw [q1]; exact htb) ?_
              exact j266
            · refine e_f (by rw [q2]; decide) ?_
              rw [q1] at htb
              refine e_ldR fmO fmR3 ?_
              refine e_alIV fmA3 (j := 64 * dgt t (a + 1) + c0) (by rw [mulL, nI_add]) (by omega) (show rI _ 326 _ = nI (nu_ q (dgt t (a + 1)) c0) by rw [q1]; exact htb) ?_
              exact j266
          · refine e_f (by rw [hKe, eqR (by decide) (by omega)]; exact ko) ?_
            exact j219 (by unfold netV; rw [if_neg (fun y => ko y.2.2)])
        · refine e_t (g7) ?_
          refine j219 ?_
          unfold netV
          by_cases y : sh_ q ≤ dgt t (a + 1) ∧ dgt t (a + 1) ≤ 4 ∧ (e - (a + 1)) % 2 = 1
          · rw [if_pos y]
            cases hp : pco t (dgt t (a + 1)) (a + 1) ((e - (a + 1)) / 2) with
            | none => rfl
            | some c1 => exact absurd ⟨y.1, y.2.1, by rw [show (e - (a + 1) - 1) / 2 = (e - (a + 1)) / 2 by omega]; exact hp⟩ (hno c1)
          · rw [if_neg y]
      · have hv : tkN q t z a cl = .inl e := hv.trans (if_neg w)
        refine ⟨0, m1, j188 _ (by omega) ?_, f2.mo (fun _ _ => Or.inl), Or.inl ⟨rfl, e, hv, e2, g3⟩⟩
        unfold J_X9_isNetwork_188
        refine e_f (fun y => w ((hr_eq hT1 (by omega)).mp y)) ?_
        rfl
    · have hKe : K = 9 := by rw [hK, if_neg w9]
      have hb : bdf (a + 1) e 9 = some (a + 1 + 9) := by unfold bdf; rw [if_neg w0, if_neg w9]
      rw [hb] at hv
      have fe := e3 (a + 1 + 9) (by omega) (by omega)
      refine ⟨0, m1, j188 _ (by omega) ?_, f2.mo (fun _ _ => Or.inl), Or.inl ⟨rfl, a + 1 + 9, hv, by omega, by rw [← hKe]; exact g3⟩⟩
      unfold J_X9_isNetwork_188
      refine e_f (fun y => by have h1 := (hr_eq hT1 (by omega)).mp y; have := fe.2; rw [hKe] at h1; omega) ?_
      rfl
end RD7
