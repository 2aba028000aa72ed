/-! calls: flags (alike, rooted, inside, joint), the network in hand -/
section GUARD
variable {ρ : Type} {m : vM} {R : Option ρ}
theorem g_n {F : Option (Int32 × vS)} {c : Prop} [Decidable c] {A B : vS → Option ρ} (h : F = some (b2 c, S m)) (hc : ¬ c) (k : A (S m) = R) : bnd F (fun v s => if v = 0 then A s else B s) = R := by
  rw [h]
  exact e_t (b2_f hc) k
theorem g_y {F : Option (Int32 × vS)} {c : Prop} [Decidable c] {A B : vS → Option ρ} (h : F = some (b2 c, S m)) (hc : c) (k : B (S m) = R) : bnd F (fun v s => if v = 0 then A s else B s) = R := by
  rw [h]
  exact e_f (b2_nz hc) k
theorem inr {j n : Nat} (h : j < n) (hn : n < 2 ^ 31) : (0 : Int32) ≤ nI j ∧ nI j < nI n := ⟨nI_pos' (by omega), nI_lt h hn⟩
end GUARD
section CALLS1
variable {N : Nat} {m m' : vM} {s : vS}
theorem c_hasH {a nn : Nat} (ha : NetAt a) (h : rI m a 0 = nI nn) (x : Int32) : F_X3_has N a x (S m) = some (b2 ((0 : Int32) ≤ x ∧ x < nI nn), S m) := by
  rw [← h]
  exact c_has ha.o x
theorem call_beside (hR : Rel m) (x : Int32) : SameI (F_X8_beside N 0 x) (F_X9_beside N 322 x) m := by
  obtain ⟨hT, ⟨nn, r, hh⟩, -⟩ := id hR
  obtain ⟨h1, h2, h3, h4, h5, h6⟩ := hh
  rcases rng x (n := nn) (by omega) with ⟨j, hj, rfl⟩ | hx
  · refine SameI.ro (nI (r j)) hR ?_ ?_
    · unfold F_X8_beside
      refine e_rcv fxO ?_
      refine e_ldR fxO fxR7 ?_
      refine g_y (c_hasH net286 h4 _) (inr hj (by omega)) ?_
      refine e_ldR fxO fxR7 ?_
      refine e_ldR net286.o net286.r1 ?_
      refine e_alIV net286.a1 rfl (by omega) (h6 j hj).1 ?_
      rfl
    · unfold F_X9_beside
      refine e_rcv fmO ?_
      refine g_y (m_isPoint h5 h1 _) (inr hj (by omega)) ?_
      refine e_ldR fmO fmR6 ?_
      refine e_alIV fmA6 rfl (by omega) (h6 j hj).2.1 ?_
      rfl
  · refine SameI.ro (-1) hR ?_ ?_
    · unfold F_X8_beside
      refine e_rcv fxO ?_
      refine e_ldR fxO fxR7 ?_
      exact g_n (c_hasH net286 h4 _) hx rfl
    · unfold F_X9_beside
      refine e_rcv fmO ?_
      exact g_n (m_isPoint h5 h1 _) hx rfl
theorem c_part {f p : Nat} {b : Fc} (hf : isOc f 2 = true) (hp : p < 2) (h0 : rJ m f 0 = b.1) (h1 : rJ m f 1 = b.2) : F_X2_part N f (nI p) (S m) = some (if p = 0 then b.1 else b.2, S m) := by
  unfold F_X2_part
  refine e_rcv hf ?_
  rcases (show p = 0 ∨ p = 1 by omega) with rfl | rfl
  · refine e_t rfl ?_
    exact e_ldJV hf h0 rfl
  · refine e_f (by decide) ?_
    exact e_ldJV hf h1 rfl
theorem m_part {p : Nat} {b : Fc} (hp : p < 2) (h0 : rJ m 322 23 = b.1) (h1 : rJ m 322 24 = b.2) : F_X9_part N 322 (nI p) (S m) = some (if p = 0 then b.1 else b.2, S m) := by
  unfold F_X9_part
  refine e_rcv fmO ?_
  rcases (show p = 0 ∨ p = 1 by omega) with rfl | rfl
  · refine e_t rfl ?_
    exact e_ldJV fmO h0 rfl
  · refine e_f (by decide) ?_
    exact e_ldJV fmO h1 rfl
/-- no number of a family, no part -/
theorem c_jointPart_n {q : Bool} {x y z w : Int32} (hT : Tab m) (h : ¬ ((0 : Int32) ≤ x ∧ x < nI (mny q)) ∨ ¬ ((0 : Int32) ≤ y ∧ y < nI (mny q)) ∨ ¬ ((0 : Int32) ≤ z ∧ z < nI (mny q)) ∨ ¬ ((0 : Int32) ≤ w ∧ w < nI 2)) : F_X8_jointPart N 0 (fo q) x y z w (S m) = some (-9223372036854775808, S m) := by
  unfold F_X8_jointPart
  refine e_rcv fxO ?_
  by_cases h1 : (0 : Int32) ≤ x ∧ x < nI (mny q)
  · refine g_y (c_famHas hT _) h1 ?_
    by_cases h2 : (0 : Int32) ≤ y ∧ y < nI (mny q)
    · refine g_y (c_famHas hT _) h2 ?_
      by_cases h3 : (0 : Int32) ≤ z ∧ z < nI (mny q)
      · refine g_y (c_famHas hT _) h3 ?_
        have h4 : ¬ ((0 : Int32) ≤ w ∧ w < nI 2) := by
          rcases h with h | h | h | h
          · exact absurd h1 h
          · exact absurd h2 h
          · exact absurd h3 h
          · exact h
        exact g_n (c_isPart _) h4 rfl
      · exact g_n (c_famHas hT _) h3 rfl
    · exact g_n (c_famHas hT _) h2 rfl
  · exact g_n (c_famHas hT _) h1 rfl
theorem c_jointPart {q : Bool} {f g h p : Nat} (hN : 100 ≤ N) (hT : Tab m) (hf : f < mny q) (hg : g < mny q) (hh : h < mny q) (hp : p < 2) :
    ∃ m', F_X8_jointPart N 0 (fo q) (nI f) (nI g) (nI h) (nI p) (S m) = some (if sz_ q f + sz_ q g - sh_ q ≤ sz_ q h then (if p = 0 then (jt q f g h).1 else (jt q f g h).2) else -9223372036854775808, S m') ∧ Fr (fun b _ => b = 282) m m' := by
  have ha := adr q
  have z1 := szc q f hf
  have z2 := szc q g hg
  have z3 := szc q h hh
  have start : ∀ R, (if nI (sz_ q f + sz_ q g - sh_ q) ≤ nI (sz_ q h) then (ldR (S m) 0 8 5 (fun r8 => bnd (F_X1_jointsIn N (fo q) (nI f) (nI g) (nI h) (S m)) (fun v9 s => bnd (F_X1_pairsIn N (fo q) (nI f) (nI g) (nI h) s) (fun v10 s => bnd (F_X2_become N r8 (v9).toInt64 (v10).toInt64 s) (fun _ s => ldR s 0 8 5 (fun r12 => bnd (F_X2_part N r12 (nI p) s) (fun v13 s => some (v13, s)))))))) else J_X8_jointPart_49 N (S m)) = R → F_X8_jointPart N 0 (fo q) (nI f) (nI g) (nI h) (nI p) (S m) = R := by
    intro R hR
    unfold F_X8_jointPart
    refine e_rcv fxO ?_
    refine g_y (c_famHas hT _) (inr hf (by omega)) ?_
    refine g_y (c_famHas hT _) (inr hg (by omega)) ?_
    refine g_y (c_famHas hT _) (inr hh (by omega)) ?_
    refine g_y (c_isPart _) (inr hp (by decide)) ?_
    refine e_ldR gO gR3 ?_
    refine e_alIV gA3 rfl (by omega) (hT.2.1 q h hh).1 ?_
    refine e_bnd (c_sizeOfBoth hT hf hg) ?_
    exact hR
  by_cases z : sz_ q f + sz_ q g - sh_ q ≤ sz_ q h
  · have hj := jt_pos hf hg hh z
    have hbec := c_become (N := N) (m := m) (f := 282) (a := lN (jm q f g h)) (b := lN (prs q (sz_ q h) (sz_ q f) (sz_ q g))) frac282 hN (lN_pos hj.2.2.1 (by omega))
    rw [show red (lN (jm q f g h)) (lN (prs q (sz_ q h) (sz_ q f) (sz_ q g))) = jt q f g h from rfl] at hbec
    refine ⟨wF m 282 (jt q f g h), start _ ?_, Fr_wF⟩
    rw [if_pos ((nI_leI (by omega) (by omega)).mpr z), if_pos z]
    refine e_ldR fxO fxR5 ?_
    refine e_bnd (c_jointsIn hN hT hh) ?_
    refine e_bnd (c_pairsIn hN hT hf hg hh z) ?_
    rw [nI_l (by omega), nI_l (by omega)]
    refine e_bnd hbec ?_
    refine e_ldR fxO fxR5 ?_
    refine e_bnd (c_part frac282 hp wF0 wF1) ?_
    rfl
  · refine ⟨m, start _ ?_, Fr.rf⟩
    rw [if_neg (fun w => z ((nI_leI (by omega) (by omega)).mp w)), if_neg z]
    rfl
theorem sc282 {a j : Nat} (h : prP a j) : ¬ (a = 282) := by
  unfold prP tabP hanP stoP tapP imgP at h
  omega
/-- the model's scratch that no relation speaks of -/
def msP (a j : Nat) : Prop := (a = 322 ∧ (j = 7 ∨ j = 23 ∨ j = 24 ∨ j = 25)) ∨ a = 329 ∨ a = 340 ∨ a = 341 ∨ ((a = 332 ∨ a = 333) ∧ 116 ≤ j) ∨ (a = 331 ∧ 4 ≤ j)
theorem ms_pr {a j : Nat} (h : prP a j) : ¬ msP a j := by
  unfold prP tabP hanP stoP tapP imgP at h
  unfold msP
  omega
theorem c_codesOf {k : Nat} (hk : k < 5) : F_X1_codesOf N (nI k) s = some (nI (cds k), s) := by
  have h : ∀ k, k < 5 → (F_X1_codesOf 0 (nI k) ((0, 0), fun _ => (0, 0), fun _ _ => 0, fun _ _ => 0, fun _ _ => none)).map (·.1) = some (nI (cds k)) := by decide +kernel
  have g : ∀ (x : Int32) (s' : vS), F_X1_codesOf N x s = ((F_X1_codesOf 0 x s').map (·.1)).map (fun r => (r, s)) := fun x s' => by
    unfold F_X1_codesOf nzI
    split <;> rfl
  rw [g _ _, h k hk]
  rfl
theorem m_codes {k : Nat} (hk : k < 5) : F_X9_codes N (nI k) s = some (nI (cds k), s) := c_codesOf (N := N) hk
theorem m_inLow (x : Int32) {q : Bool} {k : Nat} (hk : k < 5) : F_X9_in N (nI k) (nI (sh_ q)) 4 s = some (b2 (sh_ q ≤ k), s) := by
  have hs := sh_lt q
  rw [m_in, b2_c (show (nI (sh_ q) ≤ nI k ∧ nI k ≤ 4) ↔ sh_ q ≤ k by
    rw [nI_leI (by omega) (by omega), leR (by decide) (by omega)]
    exact ⟨fun w => w.1, fun w => ⟨w, by show k ≤ 4; omega⟩⟩)]
theorem call_alike (hR : Rel m) (x y z : Int32) : SameI (F_X8_alike N 0 x y z) (F_X9_alike N 322 x y z) m := by
  obtain ⟨hT, -⟩ := id hR
  rcases rng x (n := 2) (by decide) with ⟨j, hj, rfl⟩ | hx
  · -- the family
    obtain ⟨q, hq⟩ : ∃ q : Bool, sh_ q = j := by
      rcases (show j = 0 ∨ j = 1 by omega) with rfl | rfl
      · exact ⟨false, rfl⟩
      · exact ⟨true, rfl⟩
    have start : ∀ R, J_X8_alike_27 N y z (fo q) (S m) = R → F_X8_alike N 0 (nI j) y z (S m) = R := by
      intro R hR
      unfold F_X8_alike
      refine e_rcv fxO ?_
      refine e_f (nI_pos (by omega)) ?_
      refine e_t (by rw [leR (by decide) (by omega)]; show j ≤ 1; omega) ?_
      cases q with
      | true =>
        have hq : 1 = j := hq
        refine e_t (by rw [← hq]; rfl) ?_
        exact e_ldR fxO fxR1 hR
      | false =>
        have hq : 0 = j := hq
        refine e_f (by rw [← hq]; decide) ?_
        exact e_ldR fxO fxR0 hR
    have startM : ∀ R, (bnd (F_X9_in N y (nI j) 4 (S m)) (fun v2 s => if v2 = 0 then J_X9_alike_18 N s else bnd (F_X9_codes N y s) (fun v3 s => bnd (F_X9_in N z 0 (v3 - 1) s) (fun v4 s => if v4 = 0 then some (-2, s) else if (nI j) = 0 then ldR s 322 9 2 (fun r7 => alI s r7 ((64 * y) + z) (fun v8 => J_X9_alike_66 N v8 s)) else ldR s 322 9 3 (fun r5 => alI s r5 ((64 * y) + z) (fun v6 => J_X9_alike_66 N v6 s)))))) = R → F_X9_alike N 322 (nI j) y z (S m) = R := by
      intro R hR
      unfold F_X9_alike
      refine e_rcv fmO ?_
      refine g_y (m_inR (n := 1) _ (by decide)) (inr hj (by decide)) ?_
      exact hR
    by_cases hy : nI j ≤ y ∧ y ≤ 4
    · rcases rng y (n := 5) (by decide) with ⟨k, hk, rfl⟩ | hy'
      · have hjk : sh_ q ≤ k := by rw [hq]; exact (nI_leI (by omega) (by omega)).mp hy.1
        have hz64 := cds_64 k hk
        rcases rng z (n := cds k) (by omega) with ⟨c, hc, rfl⟩ | hz
        · have ht := hT.2.2.1 q k c hk hjk hc
          refine SameI.ro (nI (nu_ q k c)) hR (start _ ?_) (startM _ ?_)
          · unfold J_X8_alike_27
            refine g_y (c_hasSize hT _) (by rw [hq]; exact hy) ?_
            refine e_f (nI_pos (by omega)) ?_
            refine e_bnd (c_codesOf hk) ?_
            refine e_t (nI_lt hc (by omega)) ?_
            refine e_ldR gO gR7 ?_
            refine e_alR gNn (by decide) rfl (by omega) (gNnR q k hk) ?_
            refine e_alIV (gNu hk) rfl (by omega) ht.1 ?_
            rfl
          · refine g_y (m_in _ _ _) hy ?_
            refine e_bnd (m_codes hk) ?_
            have hcd : 1 ≤ cds k := by omega
            rw [subR (by show 1 ≤ _; omega)]
            have hi := m_inR (N := N) (s := S m) (nI c) (n := cds k - 1) (by omega)
            rw [show cds k - 1 + 1 = cds k by omega] at hi
            refine g_y hi (inr hc (by omega)) ?_
            rw [mulL, nI_add]
            cases q with
            | true =>
              have hq : 1 = j := hq
              refine e_f (by rw [← hq]; decide) ?_
              refine e_ldR fmO fmR3 ?_
              exact e_alIV fmA3 rfl (by omega) ht.2 rfl
            | false =>
              have hq : 0 = j := hq
              refine e_t (by rw [← hq]; rfl) ?_
              refine e_ldR fmO fmR2 ?_
              exact e_alIV fmA2 rfl (by omega) ht.2 rfl
        · refine SameI.ro (-2) hR (start _ ?_) (startM _ ?_)
          · unfold J_X8_alike_27
            refine g_y (c_hasSize hT _) (by rw [hq]; exact hy) ?_
            by_cases h0 : z < 0
            · exact e_t h0 rfl
            · refine e_f h0 ?_
              refine e_bnd (c_codesOf hk) ?_
              exact e_f (fun w => hz ⟨Int32.not_lt.mp h0, w⟩) rfl
          · refine g_y (m_in _ _ _) hy ?_
            refine e_bnd (m_codes hk) ?_
            have hcd : 1 ≤ cds k := by unfold cds; exact Nat.one_le_two_pow
            rw [subR (by show 1 ≤ _; omega)]
            have hi := m_inR (N := N) (s := S m) z (n := cds k - 1) (by omega)
            rw [show cds k - 1 + 1 = cds k by omega] at hi
            exact g_n hi hz rfl
      · exact absurd ⟨Int32.le_trans (nI_pos' (by omega)) hy.1, by
          have := (in_r y (n := 4) (by decide)).mp ⟨Int32.le_trans (nI_pos' (by omega)) hy.1, hy.2⟩
          exact this.2⟩ hy'
    · refine SameI.ro (-1) hR (start _ ?_) (startM _ ?_)
      · unfold J_X8_alike_27
        exact g_n (c_hasSize hT _) (by rw [hq]; exact hy) rfl
      · exact g_n (m_in _ _ _) hy rfl
  · refine SameI.ro (-1) hR ?_ ?_
    · unfold F_X8_alike
      refine e_rcv fxO ?_
      by_cases h0 : x < 0
      · exact e_t h0 rfl
      · refine e_f h0 ?_
        refine e_f (fun w => hx ((in_r x (n := 1) (by decide)).mp ⟨Int32.not_lt.mp h0, w⟩)) ?_
        rfl
    · unfold F_X9_alike
      refine e_rcv fmO ?_
      exact g_n (m_inR (n := 1) _ (by decide)) hx rfl
end CALLS1
