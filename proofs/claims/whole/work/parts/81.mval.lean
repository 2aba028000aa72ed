section UROWS
theorem u_F_X9_sizeIn {N : Nat} {a0 : Nat} {l1 : Int32} {l2 : Int32} {s : vS} : F_X9_sizeIn N a0 l1 l2 s = (rcv s a0 9 (ldR s a0 9 0 (fun r1 => ldR s a0 9 10 (fun r2 => alI s r2 l1 (fun v3 => bnd (F_X9_sizeBy N r1 v3 l2 s) (fun v4 s => some (v4, s))))))) := rfl
end UROWS
/-! the model: what is too great, the greatest, values -/
section MVAL
variable {N : Nat} {m : vM} {s : vS}
def bad (q : Bool) (o p : Row) (f g : Nat) : Prop := (o f).1 ≠ 0 ∧ (p g).1 ≠ 0 ∧ 4 + sh_ q < sz_ q f + sz_ q g
theorem m_tg_g {q : Bool} {kd f u w : Nat} {o p : Row} {K : Nat → Int32 → Int32 → Int32 → Int32 → vS → Option (Int32 × vS)} (hq : q = true ↔ kd = 1) (hkd : kd < 3) (hu : u < 16) (hw : w < 16) (io : In q o) (ip : In q p) (hf : f < 29) (hT : Tab m) (r1 : RowM m u o) (r2 : RowM m w p) :
    ∀ (d g n : Nat), g + d = 29 → d < n →
    ((∃ j, g ≤ j ∧ j < 29 ∧ bad q o p f j) ∧ H_X9_isTooGreat_44 N K n 322 (nI u) (nI w) (nI kd) (nI f) (nI g) (S m) = some (1, S m)) ∨ ((∀ j, g ≤ j → j < 29 → ¬ bad q o p f j) ∧ H_X9_isTooGreat_44 N K n 322 (nI u) (nI w) (nI kd) (nI f) (nI g) (S m) = K 322 (nI u) (nI w) (nI kd) (nI (f + 1)) (S m))
  | _, _, 0, _, h => by omega
  | 0, g, n + 1, hg, _ => by
    refine Or.inr ⟨fun j h1 h2 => by omega, ?_⟩
    refine Eq.trans u_H_X9_isTooGreat_44 ?_
    refine e_t (by rw [leL (by decide) (by omega)]; show 29 ≤ g; omega) ?_
    refine e_nm ?_
    rw [addR]
  | d + 1, g, n + 1, hg, hd => by
    have ha := adr q
    have hg29 : g < 29 := by omega
    have e1 : rJ m 332 (29 * u + f) = (o f).1 := congrArg Prod.fst (r1 f hf)
    have e3 : rJ m 332 (29 * w + g) = (p g).1 := congrArg Prod.fst (r2 g hg29)
    have h29 : ¬ (29 : Int32) ≤ nI g := by rw [leL (by decide) (by omega)]; show ¬ 29 ≤ g; omega
    have nx : ¬ bad q o p f g → (∀ R, J_X9_isTooGreat_102 N K (H_X9_isTooGreat_44 N K n) 322 (nI u) (nI w) (nI kd) (nI f) (nI g) (S m) = R → H_X9_isTooGreat_44 N K (n + 1) 322 (nI u) (nI w) (nI kd) (nI f) (nI g) (S m) = R) → ((∃ j, g ≤ j ∧ j < 29 ∧ bad q o p f j) ∧ H_X9_isTooGreat_44 N K (n + 1) 322 (nI u) (nI w) (nI kd) (nI f) (nI g) (S m) = some (1, S m)) ∨ ((∀ j, g ≤ j → j < 29 → ¬ bad q o p f j) ∧ H_X9_isTooGreat_44 N K (n + 1) 322 (nI u) (nI w) (nI kd) (nI f) (nI g) (S m) = K 322 (nI u) (nI w) (nI kd) (nI (f + 1)) (S m)) := by
      intro hb hgo
      have hJ : J_X9_isTooGreat_102 N K (H_X9_isTooGreat_44 N K n) 322 (nI u) (nI w) (nI kd) (nI f) (nI g) (S m) = H_X9_isTooGreat_44 N K n 322 (nI u) (nI w) (nI kd) (nI f) (nI (g + 1)) (S m) := by
        unfold J_X9_isTooGreat_102
        refine e_nm ?_
        rw [addR]
      rw [hgo _ hJ]
      rcases m_tg_g (K := K) hq hkd hu hw io ip hf hT r1 r2 d (g + 1) n (by omega) (by omega) with ⟨⟨j, j1, j2, j3⟩, h⟩ | ⟨h1, h⟩
      · exact Or.inl ⟨⟨j, by omega, j2, j3⟩, h⟩
      · refine Or.inr ⟨fun j j1 j2 => ?_, h⟩
        by_cases z : j = g
        · rw [z]; exact hb
        · exact h1 j (by omega) j2
    by_cases zf : (o f).1 = 0
    · refine nx (fun b => b.1 zf) (fun R hR => ?_)
      refine Eq.trans u_H_X9_isTooGreat_44 ?_
      refine e_f h29 ?_
      refine e_bnd (m_isTerm hu hf) ?_
      exact e_t (b2_f (fun z => z (e1.trans zf))) hR
    by_cases zg : (p g).1 = 0
    · refine nx (fun b => b.2.1 zg) (fun R hR => ?_)
      refine Eq.trans u_H_X9_isTooGreat_44 ?_
      refine e_f h29 ?_
      refine e_bnd (m_isTerm hu hf) ?_
      refine e_f (b2_nz (fun z => zf (e1.symm.trans z))) ?_
      refine e_bnd (m_isTerm hw hg29) ?_
      exact e_t (b2_f (fun z => z (e3.trans zg))) hR
    have hfm := io f hf zf
    have hgm := ip g hg29 zg
    have z1 := szc q f hfm
    have z2 := szc q g hgm
    have start : ∀ R, (if nI (sz_ q f + sz_ q g - sh_ q) ≤ 4 then J_X9_isTooGreat_102 N K (H_X9_isTooGreat_44 N K n) 322 (nI u) (nI w) (nI kd) (nI f) (nI g) (S m) else rtZ 1 (S m)) = R → H_X9_isTooGreat_44 N K (n + 1) 322 (nI u) (nI w) (nI kd) (nI f) (nI g) (S m) = R := by
      intro R hR
      refine Eq.trans u_H_X9_isTooGreat_44 ?_
      refine e_f h29 ?_
      refine e_bnd (m_isTerm hu hf) ?_
      refine e_f (b2_nz (fun z => zf (e1.symm.trans z))) ?_
      refine e_bnd (m_isTerm hw hg29) ?_
      refine e_f (b2_nz (fun z => zg (e3.symm.trans z))) ?_
      refine e_ldR fmO fmR0 ?_
      refine e_bnd (m_sizeBy hT hq hkd hfm) ?_
      refine e_ldR fmO fmR0 ?_
      refine e_bnd (m_sizeBy hT hq hkd hgm) ?_
      refine e_nzI (by decide) ?_
      rw [remR (by omega) (by decide) (by decide), show kd % (OfNat.ofNat 2) = sh_ q from kd_rem hq hkd, nI_add, pk_sub (by omega)]
      exact hR
    by_cases hb : 4 + sh_ q < sz_ q f + sz_ q g
    · refine Or.inl ⟨⟨g, Nat.le_refl _, hg29, zf, zg, hb⟩, start _ ?_⟩
      rw [if_neg (by rw [leR (by decide) (by omega)]; show ¬ _ ≤ 4; omega)]
      rfl
    · refine nx (fun b => hb b.2.2) (fun R hR => start R ?_)
      rw [if_pos (by rw [leR (by decide) (by omega)]; show _ ≤ 4; omega)]
      exact hR
theorem m_tg_f {q : Bool} {kd u w : Nat} {o p : Row} (hN : 100 ≤ N) (hq : q = true ↔ kd = 1) (hkd : kd < 3) (hu : u < 16) (hw : w < 16) (io : In q o) (ip : In q p) (hT : Tab m) (r1 : RowM m u o) (r2 : RowM m w p) :
    ∀ (d f n : Nat), f + d = 29 → d < n →
    ((∃ i j, f ≤ i ∧ i < 29 ∧ j < 29 ∧ bad q o p i j) ∧ H_X9_isTooGreat_34 N n 322 (nI u) (nI w) (nI kd) (nI f) (S m) = some (1, S m)) ∨ ((∀ i j, f ≤ i → i < 29 → j < 29 → ¬ bad q o p i j) ∧ H_X9_isTooGreat_34 N n 322 (nI u) (nI w) (nI kd) (nI f) (S m) = some (0, S m))
  | _, _, 0, _, h => by omega
  | 0, f, n + 1, hf, _ => by
    refine Or.inr ⟨fun i j h1 h2 => by omega, ?_⟩
    refine Eq.trans u_H_X9_isTooGreat_34 ?_
    exact e_t (by rw [leL (by decide) (by omega)]; show 29 ≤ f; omega) rfl
  | d + 1, f, n + 1, hf, hd => by
    have hgo : ∀ R, H_X9_isTooGreat_44 N (H_X9_isTooGreat_34 N n) N 322 (nI u) (nI w) (nI kd) (nI f) (nI 0) (S m) = R → H_X9_isTooGreat_34 N (n + 1) 322 (nI u) (nI w) (nI kd) (nI f) (S m) = R := by
      intro R hR
      refine Eq.trans u_H_X9_isTooGreat_34 ?_
      refine e_f (by rw [leL (by decide) (by omega)]; show ¬ 29 ≤ f; omega) ?_
      exact hR
    rcases m_tg_g (N := N) (K := H_X9_isTooGreat_34 N n) hq hkd hu hw io ip (show f < 29 by omega) hT r1 r2 29 0 N rfl (by omega) with ⟨⟨j, _, j2, j3⟩, h⟩ | ⟨h1, h⟩
    · exact Or.inl ⟨⟨f, j, Nat.le_refl _, by omega, j2, j3⟩, hgo _ h⟩
    · rcases m_tg_f hN hq hkd hu hw io ip hT r1 r2 d (f + 1) n (by omega) (by omega) with ⟨⟨i, j, i1, i2, j2, j3⟩, h'⟩ | ⟨h1', h'⟩
      · exact Or.inl ⟨⟨i, j, by omega, i2, j2, j3⟩, hgo _ (h.trans h')⟩
      · refine Or.inr ⟨fun i j i1 i2 j2 => ?_, hgo _ (h.trans h')⟩
        by_cases z : i = f
        · rw [z]; exact h1 j (Nat.zero_le _) j2
        · exact h1' i j (by omega) i2 j2
theorem m_isTooGreat {q : Bool} {k1 k2 u w : Nat} {o p : Row} (hN : 100 ≤ N) (hk1 : k1 < 3) (hk2 : k2 < 3) (hq : q = true ↔ mn k1 k2 = 1) (hu : u < 16) (hw : w < 16) (io : In q o) (ip : In q p) (hT : Tab m) (r1 : RowM m u o) (r2 : RowM m w p) (e1 : rI m 331 u = nI k1) (e2 : rI m 331 w = nI k2) :
    (TG q (gr q o) (gr q p) ∧ F_X9_isTooGreat N 322 (nI u) (nI w) (S m) = some (1, S m)) ∨ (¬ TG q (gr q o) (gr q p) ∧ F_X9_isTooGreat N 322 (nI u) (nI w) (S m) = some (0, S m)) := by
  have hkm : mn k1 k2 < 3 := by unfold mn; split <;> omega
  have hgo : ∀ R, H_X9_isTooGreat_34 N N 322 (nI u) (nI w) (nI (mn k1 k2)) (nI 0) (S m) = R → F_X9_isTooGreat N 322 (nI u) (nI w) (S m) = R := by
    intro R hR
    unfold F_X9_isTooGreat
    refine e_rcv fmO ?_
    refine e_ldR fmO fmR10 ?_
    refine e_alIV fmA10 rfl (by omega) e1 ?_
    refine e_ldR fmO fmR10 ?_
    refine e_alIV fmA10 rfl (by omega) e2 ?_
    unfold mn at hR
    by_cases z : k2 ≤ k1
    · refine e_t (by rw [nI_leI (by omega) (by omega)]; exact z) ?_
      refine e_ldR fmO fmR10 ?_
      refine e_alIV fmA10 rfl (by omega) e2 ?_
      rw [if_pos z] at hR
      exact hR
    · refine e_f (by rw [nI_leI (by omega) (by omega)]; exact z) ?_
      refine e_ldR fmO fmR10 ?_
      refine e_alIV fmA10 rfl (by omega) e1 ?_
      rw [if_neg z] at hR
      exact hR
  rcases m_tg_f (N := N) hN hq hkm hu hw io ip hT r1 r2 29 0 N rfl (by omega) with ⟨⟨i, j, _, i2, j2, j3⟩, h⟩ | ⟨h1, h⟩
  · exact Or.inl ⟨(TG_iff io ip).mpr ⟨i, j, i2, j2, j3.1, j3.2.1, j3.2.2⟩, hgo _ h⟩
  · refine Or.inr ⟨fun t => ?_, hgo _ h⟩
    obtain ⟨i, j, i2, j2, b1, b2, b3⟩ := (TG_iff io ip).mp t
    exact h1 i j (Nat.zero_le _) i2 j2 ⟨b1, b2, b3⟩
theorem m_sizeIn {q : Bool} {kd u k : Nat} (hT : Tab m) (hq : q = true ↔ kd = 1) (hkd : kd < 3) (hu : u < 16) (hk : k < mny q) (e1 : rI m 331 u = nI kd) : F_X9_sizeIn N 322 (nI u) (nI k) (S m) = some (nI (sz_ q k), S m) := by
  unfold F_X9_sizeIn
  refine e_rcv fmO ?_
  refine e_ldR fmO fmR0 ?_
  refine e_ldR fmO fmR10 ?_
  refine e_alIV fmA10 rfl (by omega) e1 ?_
  exact e_bnd (m_sizeBy hT hq hkd hk) rfl
theorem m_greatest_l {q : Bool} {kd u : Nat} {o : Row} (hq : q = true ↔ kd = 1) (hkd : kd < 3) (hu : u < 16) (io : In q o) (hT : Tab m) (r1 : RowM m u o) (e1 : rI m 331 u = nI kd) : ∀ (d i n g : Nat), i + d = 29 → d < n → g ≤ 5 →
    H_X9_greatest_5 N n 322 (nI u) (gw g) (nI i) (S m) = some (gw (fld (grs q o) d i g), S m)
  | _, _, 0, _, _, h, _ => by omega
  | 0, i, n + 1, g, hi, _, _ => by
    refine Eq.trans u_H_X9_greatest_5 ?_
    exact e_t (by rw [leL (by decide) (by omega)]; show 29 ≤ i; omega) rfl
  | d + 1, i, n + 1, g, hi, hd, hg => by
    have ha := adr q
    have hi29 : i < 29 := by omega
    have e0 : rJ m 332 (29 * u + i) = (o i).1 := congrArg Prod.fst (r1 i hi29)
    have nx : ∀ g', g' = grs q o i g → g' ≤ 5 → J_X9_greatest_40 N (H_X9_greatest_5 N n) 322 (nI u) (nI i) (gw g') (S m) = some (gw (fld (grs q o) (d + 1) i g), S m) := by
      intro g' e h5
      unfold J_X9_greatest_40
      refine e_nm ?_
      rw [addR, fld, ← e]
      exact m_greatest_l hq hkd hu io hT r1 e1 d (i + 1) n g' (by omega) (by omega) h5
    refine Eq.trans u_H_X9_greatest_5 ?_
    refine e_f (by rw [leL (by decide) (by omega)]; show ¬ 29 ≤ i; omega) ?_
    refine e_bnd (m_isTerm hu hi29) ?_
    by_cases z : (o i).1 = 0
    · refine e_t (b2_f (fun w => w (e0.trans z))) ?_
      unfold J_X9_greatest_39
      exact nx g (by unfold grs; rw [if_pos z]) hg
    · have him := io i hi29 z
      have hz := szc q i him
      refine e_f (b2_nz (fun w => z (e0.symm.trans w))) ?_
      refine e_bnd (m_sizeIn hT hq hkd hu him e1) ?_
      have hw : nI (sz_ q i) = gw (sz_ q i + 1) := by unfold gw; rw [if_neg (by omega)]; rfl
      have hlt := gw_lt g (by omega) (sz_ q i + 1) (by omega)
      by_cases y : sz_ q i + 1 ≤ g
      · refine e_t (by rw [hw]; exact Int32.not_lt.mp (fun c => by have := hlt.mp c; omega)) ?_
        unfold J_X9_greatest_39
        exact nx g (by unfold grs; rw [if_neg z]; omega) hg
      · refine e_f (by rw [hw]; exact Int32.not_le.mpr (hlt.mpr (by omega))) ?_
        refine e_bnd (m_sizeIn hT hq hkd hu him e1) ?_
        rw [hw]
        exact nx _ (by unfold grs; rw [if_neg z]; omega) (by omega)
theorem gr29 {q : Bool} {o : Row} (io : In q o) : fld (grs q o) 29 0 0 = gr q o := by
  have ha := adr q
  unfold gr
  rw [show 29 = mny q + (29 - mny q) by omega, fld_split]
  exact fld_id _ _ _ (fun j x h1 h2 => by
    unfold grs
    rw [if_pos (Classical.byContradiction (fun z => by have := io j (by omega) z; omega))])
theorem m_greatest {q : Bool} {kd u : Nat} {o : Row} (hN : 100 ≤ N) (hq : q = true ↔ kd = 1) (hkd : kd < 3) (hu : u < 16) (io : In q o) (hT : Tab m) (r1 : RowM m u o) (e1 : rI m 331 u = nI kd) : F_X9_greatest N 322 (nI u) (S m) = some (gw (gr q o), S m) := by
  unfold F_X9_greatest
  refine e_rcv fmO ?_
  have h := m_greatest_l (N := N) hq hkd hu io hT r1 e1 29 0 N 0 rfl (by omega) (by omega)
  rw [gr29 io] at h
  exact h
abbrev vstep (q : Bool) (nn : Nat) (r : Nat → Nat) (root : Option Nat) (o : Row) : Nat → Option Row → Option Row := fun k X => if (o k).1 = 0 then X else stA 0 (fmul (o k).1 (o k).2 (shr_ q nn r root (sz_ q k) k).1 (shr_ q nn r root (sz_ q k) k).2) X
def valX (q : Bool) (nn : Nat) (r : Nat → Nat) (root : Option Nat) (o : Row) (M : Nat) : Option Row := fld (vstep q nn r root o) M 0 (some row0)
theorem vstep_none {q : Bool} {nn : Nat} {r : Nat → Nat} {root : Option Nat} {o : Row} (k : Nat) : vstep q nn r root o k none = none := by
  unfold vstep
  split <;> rfl
theorem shr_pos {q : Bool} {nn k : Nat} {r : Nat → Nat} {root : Option Nat} (hn : nn ≤ 8) (hk : k < mny q) (hs : sz_ q k ≤ nn) (hq : q = root.isSome) (hr : ∀ x, root = some x → x < nn) : 0 < (shr_ q nn r root (sz_ q k) k).2.toInt := by
  have hz := szc q k hk
  have hal := alls_wyc (q := q) hn hz.2.1 hz.1 hs hq hr
  have hle : alls nn root (sz_ q k) ≤ 2 ^ nn := cnt_le _ _
  have h8 : (2 : Nat) ^ nn ≤ 2 ^ 8 := Nat.pow_le_pow_right (by decide) hn
  exact red_pos (lN_pos hal.2 (by omega))
theorem m_val_l {q : Bool} {kd u nn : Nat} {r : Nat → Nat} {root : Option Nat} {o : Row} (hN : 1000 ≤ N) (hq : q = true ↔ kd = 1) (hkd : kd < 3) (hu : u < 13) (lo : Lows o) (io : In q o) (hr : ∀ x, root = some x → x < nn) (hqr : ∀ k, k < 29 → (o k).1 ≠ 0 → q = root.isSome ∧ sz_ q k ≤ nn) (hy : Sym nn r) : ∀ (d k n : Nat) (m : vM) (X : Option Row), k + d = 29 → d < n → Tab m → LookIs m nn r → AccM m 13 X → RowM m u o → rI m 331 u = nI kd →
    ∃ (m' : vM) (v : Int32), H_X9_isValued_17 N n 322 (nI u) (rt root) (nI k) (S m) = some (v, S m') ∧ Fr (moP 13) m m' ∧ AccM m' 13 (fld (vstep q nn r root o) d k X) ∧ v = b2 (fld (vstep q nn r root o) d k X ≠ none)
  | _, _, 0, _, _, _, h, _, _, _, _, _ => by omega
  | 0, k, n + 1, m, X, hk, _, hT, hL, hA, _, _ => by
    refine ⟨m, b2 (X ≠ none), ?_, Fr.rf, hA, rfl⟩
    refine Eq.trans u_H_X9_isValued_17 ?_
    refine e_t (by rw [leL (by decide) (by omega)]; show 29 ≤ k; omega) ?_
    refine e_ldIV fmO hA.o ?_
    cases X with
    | none => exact e_f (by rw [b2_t rfl]; decide) (by unfold J_X9_isValued_117; rw [b2_f (by simp)]; rfl)
    | some row => exact e_t (b2_f (by simp)) (by unfold J_X9_isValued_117; rw [b2_t (by simp)]; rfl)
  | d + 1, k, n + 1, m, X, hk, hd, hT, hL, hA, r1, e1 => by
    have hk29 : k < 29 := by omega
    have i1 := lt29 (show u < 16 by omega) hk29
    have e0 : rJ m 332 (29 * u + k) = (o k).1 := congrArg Prod.fst (r1 k hk29)
    have lok := lo k hk29
    have h29 : ¬ (29 : Int32) ≤ nI k := by rw [leL (by decide) (by omega)]; show ¬ 29 ≤ k; omega
    have nx : ∀ m1 X1, Fr (moP 13) m m1 → LookIs m1 nn r → AccM m1 13 X1 → vstep q nn r root o k X = X1 → (∀ R, J_X9_isValued_99 N (H_X9_isValued_17 N n) 322 (nI u) (rt root) (nI k) (S m1) = R → H_X9_isValued_17 N (n + 1) 322 (nI u) (rt root) (nI k) (S m) = R) → ∃ (m' : vM) (v : Int32), H_X9_isValued_17 N (n + 1) 322 (nI u) (rt root) (nI k) (S m) = some (v, S m') ∧ Fr (moP 13) m m' ∧ AccM m' 13 (fld (vstep q nn r root o) (d + 1) k X) ∧ v = b2 (fld (vstep q nn r root o) (d + 1) k X ≠ none) := by
      intro m1 X1 f1 L1 A1 st hgo
      obtain ⟨m', v, g1, g2, g3, g4⟩ := m_val_l hN hq hkd hu lo io hr hqr hy d (k + 1) n m1 X1 (by omega) (by omega) (hT.fr (fun b j hb => f1 b j (moP_tab hb))) L1 A1 (r1.fr (by omega) f1) (by rw [f1.i (by unfold moP; omega)]; exact e1)
      refine ⟨m', v, hgo _ ?_, f1.tr g2, by rw [fld, st]; exact g3, by rw [fld, st]; exact g4⟩
      unfold J_X9_isValued_99
      refine e_nm ?_
      rw [addR]
      exact g1
    by_cases zk : (o k).1 = 0
    · refine nx m X Fr.rf hL hA (by unfold vstep; rw [if_pos zk]) (fun R hR => ?_)
      refine Eq.trans u_H_X9_isValued_17 ?_
      refine e_f h29 ?_
      refine e_bnd (m_isTerm (by omega) hk29) ?_
      exact e_t (b2_f (fun z => z (e0.trans zk))) hR
    cases X with
    | none =>
      have h25 : rI m 322 25 = 1 := hA.1
      refine nx m none Fr.rf hL hA (vstep_none k) (fun R hR => ?_)
      refine Eq.trans u_H_X9_isValued_17 ?_
      refine e_f h29 ?_
      refine e_bnd (m_isTerm (by omega) hk29) ?_
      refine e_f (b2_nz (fun z => zk (e0.symm.trans z))) ?_
      refine e_ldIV fmO h25 ?_
      exact e_f (by decide) hR
    | some row =>
      have h25 : rI m 322 25 = 0 := hA.1.1
      have hkm := io k hk29 zk
      have hz := szc q k hkm
      have hqk := hqr k hk29 zk
      obtain ⟨m1, j1, j2⟩ := m_insideOf (N := N) (m := m) (q := q) (k := k) (size := sz_ q k) (root := root) hN hT hL hy hqk.1 hr hz.2.1 hz.1 hqk.2 hkm
      have f1 : Fr (moP 13) m m1 := j2.mo (fun b j w => by unfold moP; omega)
      have f2 : Fr (moP 13) m (wA m1 (shr_ q nn r root (sz_ q k) k)) := f1.tr wA_fr
      have A3 : AccM (wA m1 (shr_ q nn r root (sz_ q k) k)) 13 (some row) := (hA.fr j2 (by omega) (fun k hk => by omega)).fr (P := fun a j => a = 322 ∧ (j = 23 ∨ j = 24)) ((Fr.rf.sJ ⟨rfl, Or.inl rfl⟩).sJ ⟨rfl, Or.inr rfl⟩) (by omega) (fun k hk => by omega)
      have w23 := wA_1 (m := m1) (p := shr_ q nn r root (sz_ q k) k)
      have w24 := wA_2 (m := m1) (p := shr_ q nn r root (sz_ q k) k)
      have r3 := r1.fr (by omega) f2
      have e1' : rJ (wA m1 (shr_ q nn r root (sz_ q k) k)) 332 (29 * u + k) = (o k).1 := congrArg Prod.fst (r3 k hk29)
      have e2' : rJ (wA m1 (shr_ q nn r root (sz_ q k) k)) 333 (29 * u + k) = (o k).2 := congrArg Prod.snd (r3 k hk29)
      obtain ⟨m4, m5, t1, t2, t3, t4, t5, t6, t7⟩ := m_ta (N := N) (m := wA m1 (shr_ q nn r root (sz_ q k) k)) (t := 13) (k := 0) (p := o k) (by omega) (by omega) (by omega) A3 lok.1 (by rw [w24]; exact shr_pos hL.2.1 hkm hqk.2 hqk.1 hr)
      rw [w23, w24] at t1 t3 t6
      have hvs : vstep q nn r root o k (some row) = stA 0 (fmul (o k).1 (o k).2 (shr_ q nn r root (sz_ q k) k).1 (shr_ q nn r root (sz_ q k) k).2) (some row) := by unfold vstep; rw [if_neg zk]
      have keepL : ∀ m2, Fr (moA 13) (wA m1 (shr_ q nn r root (sz_ q k) k)) m2 → LookIs m2 nn r := fun m2 f => by
        have g7 : ∀ a j, (a = 329 ∨ (a = 322 ∧ j = 7)) → rI m2 a j = rI m a j := fun a j h => by
          rw [f.i (by unfold moA; omega)]
          show rI m1 a j = rI m a j
          exact j2.i (by omega)
        exact ⟨by rw [g7 _ _ (by omega)]; exact hL.1, hL.2.1, fun i hi => by rw [g7 _ _ (by omega)]; exact hL.2.2 i hi⟩
      have start : ∀ R, (if rI m4 322 25 = 0 then bnd (F_X9_addTo N 322 13 0 (S m4)) (fun _ s => J_X9_isValued_99 N (H_X9_isValued_17 N n) 322 (nI u) (rt root) (nI k) s) else J_X9_isValued_99 N (H_X9_isValued_17 N n) 322 (nI u) (rt root) (nI k) (S m4)) = R → H_X9_isValued_17 N (n + 1) 322 (nI u) (rt root) (nI k) (S m) = R := by
        intro R hR
        refine Eq.trans u_H_X9_isValued_17 ?_
        refine e_f h29 ?_
        refine e_bnd (m_isTerm (by omega) hk29) ?_
        refine e_f (b2_nz (fun z => zk (e0.symm.trans z))) ?_
        refine e_ldIV fmO h25 ?_
        refine e_t rfl ?_
        refine e_bnd (m_sizeIn hT hq hkd (by omega) hkm e1) ?_
        refine e_bnd j1 ?_
        refine e_ldR fmO fmR11 ?_
        rw [mulL, nI_add]
        refine e_alJV fmA11 rfl (by omega) e1' ?_
        refine e_ldR fmO fmR12 ?_
        refine e_alJV fmA12 rfl (by omega) e2' ?_
        refine e_ldJV fmO w23 ?_
        refine e_ldJV fmO w24 ?_
        refine e_bnd t1 ?_
        refine e_ldI fmO ?_
        exact hR
      cases hfm : fmul (o k).1 (o k).2 (shr_ q nn r root (sz_ q k) k).1 (shr_ q nn r root (sz_ q k) k).2 with
      | none =>
        rw [hfm] at t6 hvs
        rw [b2_t (Or.inr rfl)] at t6
        refine nx m4 none (f2.tr (t5.mo (fun _ _ => moA_P))) (keepL m4 t5) ⟨t6, fun j hj => by rw [t7 j hj]; exact A3.2 j hj⟩ hvs (fun R hR => start R ?_)
        rw [if_neg (by rw [t6]; decide)]
        exact hR
      | some p =>
        rw [hfm] at t6 hvs t3
        rw [b2_f (fun w => w.elim (by simp) (by simp))] at t6
        refine nx m5 _ (f2.tr (t4.mo (fun _ _ => moA_P))) (keepL m5 t4) t3 hvs (fun R hR => start R ?_)
        rw [if_pos t6]
        refine e_bnd t2 ?_
        exact hR
theorem m_isValued {q : Bool} {kd u nn : Nat} {r : Nat → Nat} {root : Option Nat} {o : Row} (hN : 1000 ≤ N) (hq : q = true ↔ kd = 1) (hkd : kd < 3) (hu : u < 13) (lo : Lows o) (io : In q o) (hr : ∀ x, root = some x → x < nn) (hqr : ∀ k, k < 29 → (o k).1 ≠ 0 → q = root.isSome ∧ sz_ q k ≤ nn) (hy : Sym nn r) (hT : Tab m) (hh : HandM m nn r) (r1 : RowM m u o) (e1 : rI m 331 u = nI kd) :
    ∃ (m' : vM) (v : Int32), F_X9_isValued N 322 (nI u) (rt root) (S m) = some (v, S m') ∧ Fr (moQ 13) m m' ∧ AccM m' 13 (valX q nn r root o 29) ∧ v = b2 (valX q nn r root o 29 ≠ none) := by
  have f0 : Fr (moQ 13) m (wI m 322 25 0) := Fr.rf.sI (Or.inl (Or.inl ⟨rfl, by omega⟩))
  obtain ⟨m1, h1, h2, h3⟩ := m_emptyA (N := N) (m := wI m 322 25 0) (t := 13) (by omega) (by omega) (rI_s _ _ _ _)
  have f1 := f0.tr h2
  have hh1 : HandM m1 nn r := ⟨by rw [f1.i (by unfold moQ moP; omega)]; exact hh.1, hh.2.1, fun i hi => by rw [f1.i (by unfold moQ moP; omega)]; exact hh.2.2 i hi⟩
  obtain ⟨m2, l1, l2, l3⟩ := m_lookInHand (N := N) (m := m1) (by omega) hh1
  have f2 : Fr (moQ 13) m m2 := f1.tr (l2.mo (fun b j w => by unfold lkP at w; unfold moQ moP; omega))
  obtain ⟨m', v, g1, g2, g3, g4⟩ := m_val_l (N := N) hN hq hkd hu lo io hr hqr hy 29 0 N m2 (some row0) rfl (by omega) (hT.fr (fun b j hb => f2 b j (moQ_tab hb))) l3 (h3.fr l2 (by unfold lkP; omega) (fun k hk => by unfold lkP; omega)) (r1.fq (by omega) f2) (by rw [f2.i (by unfold moQ moP; omega)]; exact e1)
  refine ⟨m', v, ?_, f2.tr (g2.mo (fun b j h => Or.inl h)), g3, g4⟩
  unfold F_X9_isValued
  refine e_rcv fmO ?_
  refine e_stZ fmO (Or.inl rfl) ?_
  refine e_bnd h1 ?_
  refine e_bnd l1 ?_
  exact g1
end MVAL
