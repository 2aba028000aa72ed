section UROWS
theorem u_J_X9_rootsOf_64 {N : Nat} {k27 : Nat → Int32 → Int32 → Int32 → Int32 → vS → Option (Int32 × vS)} {a0 : Nat} {l1 : Int32} {l2 : Int32} {l4 : Int32} {k0 : Int32} {k1 : Int32} {s : vS} : J_X9_rootsOf_64 N k27 a0 l1 l2 l4 k0 k1 s = (nm ((k0 + k1)) (fun l3_12 => nm (l4 + (1 : Int32)) (fun l4_13 => k27 a0 l1 l2 l3_12 l4_13 s))) := rfl
theorem u_H_X9_rootsOf_27 {N : Nat} {n : Nat} {a0 : Nat} {l1 : Int32} {l2 : Int32} {l3 : Int32} {l4 : Int32} {s : vS} : H_X9_rootsOf_27 N (n + 1) a0 l1 l2 l3 l4 s = (ldR s a0 9 0 (fun r7 => alI s r7 l2 (fun v8 => if v8 ≤ l4 then (some (l3, s)) else (ldR s a0 9 0 (fun r9 => alI s r9 l2 (fun v10 => bnd (F_X9_numberOn N a0 (((1 : Int32) <<< (v10 &&& 31)) - (1 : Int32)) l4 s) (fun v11 s => if v11 = l1 then (J_X9_rootsOf_64 N (H_X9_rootsOf_27 N n) a0 l1 l2 l4 l3 (1 : Int32) s) else (J_X9_rootsOf_64 N (H_X9_rootsOf_27 N n) a0 l1 l2 l4 l3 (0 : Int32) s)))))))) := rfl
theorem u_F_X9_rootsOf {N : Nat} {a0 : Nat} {l1 : Int32} {s : vS} : F_X9_rootsOf N a0 l1 s = (rcv s a0 9 (bnd (F_X9_plainOf N a0 l1 s) (fun v1 s => ldR s a0 9 0 (fun r2 => alI s r2 v1 (fun v3 => ldR s a0 9 1 (fun r4 => alI s r4 v1 (fun v5 => bnd (F_X9_lookInto N a0 v3 v5 s) (fun v6 s => H_X9_rootsOf_27 N N a0 l1 v1 (0 : Int32) (0 : Int32) s)))))))) := rfl
end UROWS
/-! the model: lifted, averaged -/
section ITEQ
theorem fld_cnt (P : Nat → Prop) [DecidablePred P] : ∀ n, fld (fun b x => if P b then x + 1 else x) n 0 0 = cnt P n
  | 0 => rfl
  | n + 1 => by
    rw [fld_split n 1 0, fld_cnt P n, Nat.zero_add, cnt]
    show (if P n then _ else _) = _
    split <;> rfl
theorem sz0 : ∀ q, sz_ q 0 = sh_ q := by decide
theorem wyc0 : ∀ n, wyc n 0 = 1 := fun n => if_pos (Nat.zero_le n)
theorem pop0 : ∀ a, a < 16 → pop a = 0 → a = 0 := by decide +kernel
theorem pop1 : ∀ a, a < 16 → pop a = 1 → bt a 0 = 1 → a = 1 := by decide +kernel
theorem and1 : ∀ b, b < 16 → (1 &&& b = 1 ↔ bt b 0 = 1) := by decide +kernel
theorem onv0 {q : Bool} {h a : Nat} (ha : a < 16) : onv q h a = nI 0 ↔ a = sh_ q := by
  have hp := pop16 a ha
  constructor
  · intro e
    obtain ⟨e1, e2⟩ := onv_ok (by omega) e hp
    rw [sz0] at e2
    cases q with
    | false => exact pop0 a ha e2
    | true =>
      rcases e1.2 with w | w
      · cases w
      · exact pop1 a ha e2 w
  · intro e
    have hok : okS q (sh_ q) ∧ pop (sh_ q) = sh_ q := by
      cases q with
      | false => exact ⟨⟨by decide, Or.inl rfl⟩, by decide⟩
      | true => exact ⟨⟨by decide, Or.inr (by decide)⟩, by decide⟩
    have hlt := cdo_lt (r := rowT q h) (ch := (chs (sh_ q) (ro_ q) (sz_ q h)).2) (pop (sh_ q)) (by have := sh_lt q; omega)
    rw [e]
    unfold onv
    rw [if_pos (show sh_ q ≤ pop (sh_ q) ∧ (q = false ∨ bt (sh_ q) 0 = 1) from hok.1)]
    unfold nOn
    rw [hok.2] at hlt ⊢
    generalize cdo (rowT q h) (chs (sh_ q) (ro_ q) (sz_ q h)).2 (sh_ q) = c at hlt ⊢
    cases q with
    | false =>
      have : c = 0 := by
        have : cds (sh_ false) = 1 := by decide
        omega
      rw [this]
      decide
    | true =>
      have : c = 0 := by
        have : cds (sh_ true) = 1 := by decide
        omega
      rw [this]
      decide
theorem jm0 {q : Bool} {f h : Nat} (hf : f < mny q) (hh : h < mny q) : jm q 0 f h = tl (fN q (sz_ q h) (rowT q h) (ro_ q) (sz_ q f)) f (2 ^ sz_ q h) := by
  have hz := szc q h hh
  have hzf := szc q f hf
  have hadr := adr q
  have h4 : (2 : Nat) ^ sz_ q h ≤ 2 ^ 4 := Nat.pow_le_pow_right (by decide) hz.1
  have h1 : (2 : Nat) ^ sh_ q ≤ 2 ^ sz_ q h := Nat.pow_le_pow_right (by decide) hz.2.1
  have hsh : sh_ q < 2 ^ sh_ q := by cases q <;> decide
  unfold jm
  rw [fld_mid (g := jou q 0 f h) (M := 2 ^ sz_ q h) (s := sh_ q) (e := sh_ q + 1) (by omega) (by omega) (fun j x hj hn => by
    unfold jou
    rw [if_neg (fun w => hn (by rw [(onv0 (by omega)).mp w]; omega))])]
  rw [show sh_ q + 1 - sh_ q = 1 by omega]
  show jou q 0 f h (sh_ q) 0 = _
  unfold jou
  rw [if_pos ((onv0 (by omega)).mpr rfl)]
  unfold jin
  rw [fld_cnt (fun b => onv q h b = nI f ∧ sh_ q &&& b = sh_ q)]
  unfold tl
  refine cnt_c _ (fun b hb => ?_)
  have hpb := pop16 b (by omega)
  constructor
  · rintro ⟨e1, e2⟩
    obtain ⟨w1, w2⟩ := onv_ok (by omega) e1 hpb
    have hi : rootIn b (ro_ q) = true := by
      cases q with
      | false => rfl
      | true =>
        rcases w1.2 with w | w
        · cases w
        · show (bt b 0 == 1) = true
          rw [w]
          rfl
    rw [onv_in (by omega), if_pos hi] at e1
    unfold fN
    rw [if_pos ⟨w2, hi⟩]
    have hlt := cdo_lt (r := rowT q h) (ch := (chs b (ro_ q) (sz_ q h)).2) (pop b) (by omega)
    have hn := nuc q (pop b) _ (by omega) (by omega) hlt
    have : nOn q (sz_ q h) (rowT q h) b (ro_ q) = f := (nI_eq (by unfold nOn; omega) (by omega)).mp e1
    rw [this]
  · intro e
    unfold fN at e
    by_cases z : pop b = sz_ q f ∧ rootIn b (ro_ q) = true
    · rw [if_pos z] at e
      cases e
      refine ⟨by rw [onv_in (by omega), if_pos z.2], ?_⟩
      cases q with
      | false => exact Nat.zero_and b
      | true => exact (and1 b (by omega)).mpr (eq_of_beq z.2)
    · rw [if_neg z] at e
      cases e
theorem it_eq {q : Bool} {f h : Nat} (hf : f < mny q) (hh : h < mny q) (hs : sz_ q f ≤ sz_ q h) : shr_ q (sz_ q h) (rowT q h) (ro_ q) (sz_ q f) f = jt q 0 f h := by
  have hz := szc q h hh
  have hzf := szc q f hf
  have hal := alls_wyc (q := q) (nn := sz_ q h) (root := ro_ q) (by omega) hzf.2.1 hzf.1 hs (ro_q q) (fun x hx => ro_lt hh hx)
  unfold shr_ jt
  rw [jm0 hf hh, hal.1]
  unfold prs
  rw [sz0, Nat.sub_self, wyc0, Nat.one_mul]
end ITEQ
section MLIFT
variable {N : Nat} {m : vM} {s : vS}
def liftG (q : Bool) (size : Nat) (o : Row) (M : Nat) : Option Row := fld (fun f X => if (o f).1 = 0 then X else stM q 0 f size (o f) X) M 0 (some row0)
abbrev hstep (q : Bool) (size : Nat) (o : Row) (f : Nat) : Nat → Option Row → Option Row := fun h X => if (o f).1 = 0 then X else mstep q 0 f size (o f) h X
theorem hstep_all {q : Bool} {size : Nat} {o : Row} {f : Nat} (X : Option Row) : fld (hstep q size o f) (mny q) 0 X = if (o f).1 = 0 then X else stM q 0 f size (o f) X := by
  by_cases z : (o f).1 = 0
  · rw [if_pos z]
    exact fld_id _ _ _ (fun j x _ _ => by unfold hstep; rw [if_pos z])
  · rw [if_neg z]
    exact fld_congr _ _ _ (fun j x _ _ => by unfold hstep; rw [if_neg z])
theorem m_lift_h {q : Bool} {kd f t u size : Nat} {o : Row} {K : Nat → Int32 → Int32 → Int32 → Int32 → Int32 → vS → Option (Unit × vS)} (hN : 1000 ≤ N) (hq : q = true ↔ kd = 1) (hkd : kd < 3) (ht : t < 16) (hu : u < 16) (hut : u ≠ t) (lo : Lows o) (io : In q o) (hf : f < 29) (hsz : (o f).1 ≠ 0 → sz_ q f ≤ size) (hs : size < 5) :
    ∀ (d h n : Nat) (m : vM) (X : Option Row), h + d = mny q → d < n → Tab m → AccM m t X → RowM m u o →
    ∃ m', H_X9_liftTo_26 N K n 322 (nI u) (nI size) (nI t) (nI kd) (nI f) (nI h) (S m) = K 322 (nI u) (nI size) (nI t) (nI kd) (nI (f + 1)) (S m') ∧ Fr (moP t) m m' ∧ AccM m' t (fld (hstep q size o f) d h X)
  | _, _, 0, _, _, _, h, _, _, _ => by omega
  | 0, h, n + 1, m, X, hh, _, hT, hA, _ => by
    refine ⟨m, ?_, Fr.rf, hA⟩
    refine Eq.trans u_H_X9_liftTo_26 ?_
    cases q with
    | true =>
      refine e_t (by rw [hq.mp rfl]; rfl) ?_
      unfold J_X9_liftTo_41
      refine e_t (by rw [leL (by decide) (by have hh : h + 0 = 29 := hh; omega)]; show 29 ≤ h; have hh : h + 0 = 29 := hh; omega) ?_
      refine e_nm ?_
      rw [addR]
    | false =>
      refine e_f (by rw [eqR (by decide) (by omega)]; intro w; exact absurd (hq.mpr w) (by decide)) ?_
      unfold J_X9_liftTo_41
      refine e_t (by rw [leL (by decide) (by have hh : h + 0 = 19 := hh; omega)]; show 19 ≤ h; have hh : h + 0 = 19 := hh; omega) ?_
      refine e_nm ?_
      rw [addR]
  | d + 1, h, n + 1, m, X, hh, hd, hT, hA, r1 => by
    have ha := adr q
    have hhm : h < mny q := by omega
    have z1 := szc q h hhm
    have cd := (hT.2.1 q h hhm).2.2.2.2
    have e1 : rJ m 332 (29 * u + f) = (o f).1 := congrArg Prod.fst (r1 f hf)
    have e2 : rJ m 333 (29 * u + f) = (o f).2 := congrArg Prod.snd (r1 f hf)
    have i1 := lt29 hu hf
    have nx : ∀ m1 X1, Fr (moP t) m m1 → AccM m1 t X1 → hstep q size o f h X = X1 → ∃ m', J_X9_liftTo_187 N K (H_X9_liftTo_26 N K n) 322 (nI u) (nI size) (nI t) (nI kd) (nI f) (nI h) (S m1) = K 322 (nI u) (nI size) (nI t) (nI kd) (nI (f + 1)) (S m') ∧ Fr (moP t) m m' ∧ AccM m' t (fld (hstep q size o f) (d + 1) h X) := by
      intro m1 X1 f1 A1 st
      obtain ⟨m', g1, g2, g3⟩ := m_lift_h (K := K) hN hq hkd ht hu hut lo io hf hsz hs d (h + 1) n m1 X1 (by omega) (by omega) (hT.fr (fun b j hb => f1 b j (moP_tab hb))) A1 (r1.fr hut f1)
      refine ⟨m', ?_, f1.tr g2, by rw [fld, st]; exact g3⟩
      unfold J_X9_liftTo_187
      refine e_nm ?_
      rw [addR]
      exact g1
    have body : ∃ m', J_X9_liftTo_41 N K (H_X9_liftTo_26 N K n) 322 (nI u) (nI size) (nI t) (nI kd) (nI f) (nI h) (nI h) (nI (mny q)) (S m) = K 322 (nI u) (nI size) (nI t) (nI kd) (nI (f + 1)) (S m') ∧ Fr (moP t) m m' ∧ AccM m' t (fld (hstep q size o f) (d + 1) h X) := by
      by_cases zf : (o f).1 = 0
      · obtain ⟨m', g1, g2, g3⟩ := nx m X Fr.rf hA (by unfold hstep; rw [if_pos zf])
        refine ⟨m', ?_, g2, g3⟩
        unfold J_X9_liftTo_41
        refine e_f (by rw [nI_leI (by omega) (by omega)]; omega) ?_
        refine e_bnd (m_isTerm hu hf) ?_
        exact e_t (b2_f (fun z => z (e1.trans zf))) g1
      have hfm := io f hf zf
      have z2 := szc q f hfm
      have hst : hstep q size o f h X = mstep q 0 f size (o f) h X := by unfold hstep; rw [if_neg zf]
      have lof := lo f hf
      by_cases zs : sz_ q h = size
      · cases X with
        | none =>
          have h25 : rI m 322 25 = 1 := hA.1
          obtain ⟨m', g1, g2, g3⟩ := nx m none Fr.rf hA (by rw [hst]; exact mstep_none h)
          refine ⟨m', ?_, g2, g3⟩
          unfold J_X9_liftTo_41
          refine e_f (by rw [nI_leI (by omega) (by omega)]; omega) ?_
          refine e_bnd (m_isTerm hu hf) ?_
          refine e_f (b2_nz (fun z => zf (e1.symm.trans z))) ?_
          refine e_ldR fmO fmR0 ?_
          refine e_bnd (m_sizeBy hT hq hkd hhm) ?_
          refine e_t (by rw [zs]) ?_
          refine e_ldIV fmO h25 ?_
          exact e_f (by decide) g1
        | some row =>
          have h25 : rI m 322 25 = 0 := hA.1.1
          obtain ⟨m1, l1, l2, l3⟩ := m_lookInto (N := N) (m := m) (size := sz_ q h) (code := cd_ q h) (by omega) z1.1 z1.2.2.2.1
          have f1 : Fr (moP t) m m1 := l2.mo (fun b j w => by unfold lkP at w; unfold moP; omega)
          have hT1 : Tab m1 := hT.fr (fun b j hb => f1 b j (moP_tab hb))
          have hsf := hsz zf
          obtain ⟨m2, j1, j2⟩ := m_insideOf (N := N) (m := m1) (q := q) (k := f) (size := sz_ q f) (root := ro_ q) hN hT1 l3 (symT' hhm) (ro_q q) (fun x hx => ro_lt hhm hx) z2.2.1 z2.1 (by omega) hfm
          rw [show shr_ q (sz_ q h) (rowOf (sz_ q h) (cd_ q h)) (ro_ q) (sz_ q f) f = jt q 0 f h from it_eq hfm hhm (by omega)] at j1
          have f2 : Fr (moP t) m m2 := f1.tr (j2.mo (fun b j w => by unfold moP; omega))
          have f3 : Fr (moP t) m (wA m2 (jt q 0 f h)) := f2.tr wA_fr
          have A2 : AccM m2 t (some row) := (hA.fr l2 (by unfold lkP; omega) (fun k hk => by unfold lkP; omega)).fr j2 (by omega) (fun k hk => by omega)
          have A3 : AccM (wA m2 (jt q 0 f h)) t (some row) := A2.fr (P := fun a j => a = 322 ∧ (j = 23 ∨ j = 24)) ((Fr.rf.sJ ⟨rfl, Or.inl rfl⟩).sJ ⟨rfl, Or.inr rfl⟩) (by omega) (fun k hk => by omega)
          have w23 := wA_1 (m := m2) (p := jt q 0 f h)
          have w24 := wA_2 (m := m2) (p := jt q 0 f h)
          have hjp := jt_pos (q := q) (f := 0) (g := f) (h := h) (by omega) hfm hhm (by rw [sz0]; omega)
          have r3 := r1.fr hut f3
          have e1' : rJ (wA m2 (jt q 0 f h)) 332 (29 * u + f) = (o f).1 := congrArg Prod.fst (r3 f hf)
          have e2' : rJ (wA m2 (jt q 0 f h)) 333 (29 * u + f) = (o f).2 := congrArg Prod.snd (r3 f hf)
          have hT1' : ∀ k, k < mny q → F_X9_sizeBy N 323 (nI kd) (nI k) (S m1) = some (nI (sz_ q k), S m1) := fun k hk => m_sizeBy hT1 hq hkd hk
          have start : ∀ R, (if lg_cmp (jt q 0 f h).1 (0 : Int64) = 0 then J_X9_liftTo_187 N K (H_X9_liftTo_26 N K n) 322 (nI u) (nI size) (nI t) (nI kd) (nI f) (nI h) (S (wA m2 (jt q 0 f h))) else bnd (F_X9_times N 322 (o f).1 (o f).2 (jt q 0 f h).1 (jt q 0 f h).2 (S (wA m2 (jt q 0 f h)))) (fun _ s => bnd (F_X9_addTo N 322 (nI t) (nI h) s) (fun _ s => J_X9_liftTo_187 N K (H_X9_liftTo_26 N K n) 322 (nI u) (nI size) (nI t) (nI kd) (nI f) (nI h) s))) = R → J_X9_liftTo_41 N K (H_X9_liftTo_26 N K n) 322 (nI u) (nI size) (nI t) (nI kd) (nI f) (nI h) (nI h) (nI (mny q)) (S m) = R := by
            intro R hR
            have inside : ∀ x, rt (ro_ q) = x → J_X9_liftTo_132 N K (H_X9_liftTo_26 N K n) 322 (nI u) (nI size) (nI t) (nI kd) (nI f) (nI h) 322 (nI f) (nI (sz_ q f)) x (S m1) = R := by
              intro x hx
              subst hx
              unfold J_X9_liftTo_132
              refine e_bnd j1 ?_
              refine e_ldJV fmO w23 ?_
              refine e_i (fun z => ?_) (fun z => ?_)
              · rw [if_pos z] at hR; exact hR
              · rw [if_neg z] at hR
                refine e_ldR fmO fmR11 ?_
                rw [mulL, nI_add]
                refine e_alJV fmA11 rfl (by omega) e1' ?_
                refine e_ldR fmO fmR12 ?_
                refine e_alJV fmA12 rfl (by omega) e2' ?_
                refine e_ldJV fmO w23 ?_
                refine e_ldJV fmO w24 ?_
                exact hR
            have look : J_X9_liftTo_104 N K (H_X9_liftTo_26 N K n) 322 (nI u) (nI size) (nI t) (nI kd) (nI f) (nI h) 322 (nI size) (nI (cd_ q h)) (S m) = R := by
              unfold J_X9_liftTo_104
              rw [zs] at l1
              refine e_bnd l1 ?_
              refine e_ldR fmO fmR0 ?_
              refine e_bnd (hT1' f hfm) ?_
              cases q with
              | true =>
                refine e_t (by rw [hq.mp rfl]; rfl) ?_
                exact inside _ rfl
              | false =>
                refine e_f (by rw [eqR (by decide) (by omega)]; intro w; exact absurd (hq.mpr w) (by decide)) ?_
                exact inside _ rfl
            unfold J_X9_liftTo_41
            refine e_f (by rw [nI_leI (by omega) (by omega)]; omega) ?_
            refine e_bnd (m_isTerm hu hf) ?_
            refine e_f (b2_nz (fun z => zf (e1.symm.trans z))) ?_
            refine e_ldR fmO fmR0 ?_
            refine e_bnd (m_sizeBy hT hq hkd hhm) ?_
            refine e_t (by rw [zs]) ?_
            refine e_ldIV fmO h25 ?_
            refine e_t rfl ?_
            cases q with
            | true =>
              refine e_t (by rw [hq.mp rfl]; rfl) ?_
              refine e_ldR fmO fmR1 ?_
              rw [show (19 : Int32) + nI h = nI (19 + h) from nI_add 19 h]
              refine e_alIV fmA1 rfl (by omega) cd ?_
              exact look
            | false =>
              refine e_f (by rw [eqR (by decide) (by omega)]; intro w; exact absurd (hq.mpr w) (by decide)) ?_
              refine e_ldR fmO fmR1 ?_
              have cd : rI m 324 (0 + h) = _ := cd
              rw [Nat.zero_add] at cd
              refine e_alIV fmA1 rfl (by omega) cd ?_
              exact look
          by_cases z : (jt q 0 f h).1 = 0
          · obtain ⟨m', g1, g2, g3⟩ := nx _ (some row) f3 A3 (by rw [hst]; unfold mstep; rw [if_pos zs, if_pos z])
            exact ⟨m', start _ (by rw [if_pos ((lg_cmp_eq _ _).mpr z)]; exact g1), g2, g3⟩
          · obtain ⟨m4, m5, t1, t2, t3, t4, -, -⟩ := m_ta (N := N) (m := wA m2 (jt q 0 f h)) (k := h) (p := o f) (by omega) ht (by omega) A3 lof.1 (by rw [w24]; exact hjp.1)
            rw [w23, w24] at t1 t3
            obtain ⟨m', g1, g2, g3⟩ := nx m5 _ (f3.tr (t4.mo (fun _ _ => moA_P))) t3 (by rw [hst]; unfold mstep; rw [if_pos zs, if_neg z])
            refine ⟨m', start _ ?_, g2, g3⟩
            rw [if_neg (fun w => z ((lg_cmp_eq _ _).mp w))]
            refine e_bnd t1 ?_
            refine e_bnd t2 ?_
            exact g1
      · obtain ⟨m', g1, g2, g3⟩ := nx m X Fr.rf hA (by rw [hst]; unfold mstep; rw [if_neg zs])
        refine ⟨m', ?_, g2, g3⟩
        unfold J_X9_liftTo_41
        refine e_f (by rw [nI_leI (by omega) (by omega)]; omega) ?_
        refine e_bnd (m_isTerm hu hf) ?_
        refine e_f (b2_nz (fun z => zf (e1.symm.trans z))) ?_
        refine e_ldR fmO fmR0 ?_
        refine e_bnd (m_sizeBy hT hq hkd hhm) ?_
        refine e_f (by rw [nI_eq (by omega) (by omega)]; exact zs) ?_
        exact g1
    obtain ⟨m', g1, g2, g3⟩ := body
    refine ⟨m', ?_, g2, g3⟩
    refine Eq.trans u_H_X9_liftTo_26 ?_
    cases q with
    | true =>
      refine e_t (by rw [hq.mp rfl]; rfl) ?_
      exact g1
    | false =>
      refine e_f (by rw [eqR (by decide) (by omega)]; intro w; exact absurd (hq.mpr w) (by decide)) ?_
      exact g1
theorem m_lift_f {q : Bool} {kd t u size : Nat} {o : Row} (hN : 1000 ≤ N) (hq : q = true ↔ kd = 1) (hkd : kd < 3) (ht : t < 16) (hu : u < 16) (hut : u ≠ t) (lo : Lows o) (io : In q o) (hsz : ∀ f, f < 29 → (o f).1 ≠ 0 → sz_ q f ≤ size) (hs : size < 5) :
    ∀ (d f n : Nat) (m : vM) (X : Option Row), f + d = 29 → d < n → Tab m → AccM m t X → RowM m u o →
    ∃ m', H_X9_liftTo_16 N n 322 (nI u) (nI size) (nI t) (nI kd) (nI f) (S m) = some ((), S m') ∧ Fr (moQ t) m m' ∧ AccM m' t (fld (fun f X => if (o f).1 = 0 then X else stM q 0 f size (o f) X) d f X) ∧ ∀ row, fld (fun f X => if (o f).1 = 0 then X else stM q 0 f size (o f) X) d f X = some row → rI m' 331 t = nI (kdE row kd)
  | _, _, 0, _, _, _, h, _, _, _ => by omega
  | 0, f, n + 1, m, X, hf, _, hT, hA, _ => by
    obtain ⟨m', g1, g2, g3, g4⟩ := m_end (N := N) (m := m) (K := none) (by omega) ht hkd hA
    refine ⟨m', ?_, g2.mo (fun b j h => Or.inr h), g3, g4⟩
    refine Eq.trans u_H_X9_liftTo_16 ?_
    refine e_t (by rw [leL (by decide) (by omega)]; show 29 ≤ f; omega) ?_
    exact g1
  | d + 1, f, n + 1, m, X, hf, hd, hT, hA, r1 => by
    have ha := adr q
    obtain ⟨m1, g1, g2, g3⟩ := m_lift_h (N := N) (K := H_X9_liftTo_16 N n) hN hq hkd ht hu hut lo io (show f < 29 by omega) (hsz f (by omega)) hs (mny q) 0 N m X (by omega) (by omega) hT hA r1
    rw [hstep_all] at g3
    obtain ⟨m', j1, j2, j3, j4⟩ := m_lift_f hN hq hkd ht hu hut lo io hsz hs d (f + 1) n m1 _ (by omega) (by omega) (hT.fr (fun b j hb => g2 b j (moP_tab hb))) g3 (r1.fr hut g2)
    refine ⟨m', ?_, (g2.mo (fun b j h => Or.inl h)).tr j2, j3, j4⟩
    refine Eq.trans u_H_X9_liftTo_16 ?_
    refine e_f (by rw [leL (by decide) (by omega)]; show ¬ 29 ≤ f; omega) ?_
    exact g1.trans j1
theorem m_liftTo {q : Bool} {kd t u size : Nat} {o : Row} (hN : 1000 ≤ N) (hq : q = true ↔ kd = 1) (hkd : kd < 3) (ht : t < 16) (hu : u < 16) (hut : u ≠ t) (lo : Lows o) (io : In q o) (hsz : ∀ f, f < 29 → (o f).1 ≠ 0 → sz_ q f ≤ size) (hs : size < 5) (hT : Tab m) (ho : rI m 322 25 = 0) (r1 : RowM m u o) (e1 : rI m 331 u = nI kd) :
    ∃ m', F_X9_liftTo N 322 (nI u) (nI size) (nI t) (S m) = some ((), S m') ∧ Fr (moQ t) m m' ∧ AccM m' t (liftG q size o 29) ∧ ∀ row, liftG q size o 29 = some row → rI m' 331 t = nI (kdE row kd) := by
  obtain ⟨m1, h1, h2, h3⟩ := m_emptyA (N := N) (m := m) (by omega) ht ho
  obtain ⟨m', g1, g2, g3, g4⟩ := m_lift_f (N := N) hN hq hkd ht hu hut lo io hsz hs 29 0 N m1 (some row0) rfl (by omega) (hT.fr (fun b j hb => h2 b j (moQ_tab hb))) h3 (r1.fq hut h2)
  refine ⟨m', ?_, h2.tr g2, g3, g4⟩
  unfold F_X9_liftTo
  refine e_rcv fmO ?_
  refine e_ldR fmO fmR10 ?_
  refine e_alIV fmA10 rfl (by omega) e1 ?_
  refine e_bnd h1 ?_
  exact g1
end MLIFT
