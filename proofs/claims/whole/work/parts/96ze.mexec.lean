section MEX
variable {N z : Nat} {t : Nat → Nat} {m m' : vM} {s : vS} {T : List Tok}
/-! the model works a text out -/
def RowV (m : vM) (u : Nat) (v : Vl) : Prop := RowM m u v.2 ∧ rI m 331 u = nI v.1
def PtAt (T : List Tok) (t : Nat → Nat) (m : vM) (A l q : Nat) : Prop := ∃ k x, T[k]? = some x ∧ rI m A l = nI k ∧ x.2.1 = q ∧ x.1 = t q ∧ k < 60
def rwP (q b j : Nat) : Prop := (b = 331 ∧ j = q) ∨ ((b = 332 ∨ b = 333) ∧ 29 * q ≤ j ∧ j < 29 * q + 29)
def mwP (b j : Nat) : Prop := (b = 322 ∧ (j = 7 ∨ j = 23 ∨ j = 24 ∨ j = 25 ∨ j = 37 ∨ j = 43)) ∨ b = 329 ∨ b = 340 ∨ b = 341 ∨ (b = 331 ∧ 4 ≤ j) ∨ ((b = 332 ∨ b = 333) ∧ 116 ≤ j) ∨ (349 ≤ b ∧ b ≤ 353)
theorem rw_mw {q b j : Nat} (hq : 4 ≤ q) (h : rwP q b j) : mwP b j := by
  unfold rwP at h
  unfold mwP
  omega
theorem mo_mw {b j : Nat} (h : moQ 13 b j) : mwP b j := by
  unfold moQ moP at h
  unfold mwP
  omega
theorem mw_tab {b j : Nat} (h : tabP b j) : ¬ mwP b j := by
  unfold tabP at h
  unfold mwP
  omega
theorem RowV.same {u : Nat} {v : Vl} (h : RowV m u v) (e1 : rI m' 331 u = rI m 331 u) (e2 : ∀ j, j < 29 → rJ m' 332 (29 * u + j) = rJ m 332 (29 * u + j) ∧ rJ m' 333 (29 * u + j) = rJ m 333 (29 * u + j)) : RowV m' u v := by
  refine ⟨fun j hj => ?_, by rw [e1]; exact h.2⟩
  rw [← h.1 j hj]
  show (rJ m' 332 (29 * u + j), rJ m' 333 (29 * u + j)) = (rJ m 332 (29 * u + j), rJ m 333 (29 * u + j))
  rw [(e2 j hj).1, (e2 j hj).2]
theorem RowV.rw {u q : Nat} {v : Vl} (h : RowV m u v) (f : Fr (rwP q) m m') (hu : u ≠ q) : RowV m' u v := h.same (f.i (by unfold rwP; omega)) (fun j hj => ⟨f.j (by unfold rwP; omega), f.j (by unfold rwP; omega)⟩)
theorem RowV.mo {u : Nat} {v : Vl} (h : RowV m u v) (f : Fr (moQ 13) m m') (hu : u ≠ 13) : RowV m' u v := h.same (f.i (by unfold moQ moP; omega)) (fun j hj => ⟨f.j (by unfold moQ moP; omega), f.j (by unfold moQ moP; omega)⟩)
/-- ints alone have changed, and not the kinds -/
theorem RowV.wi {u b i : Nat} {x : Int32} {v : Vl} (h : RowV m u v) (hb : b ≠ 331) : RowV (wI m b i x) u v := h.same (rI_n _ _ (by omega)) (fun j hj => ⟨rfl, rfl⟩)
theorem m_copyG {p q : Nat} (hp : p < 16) (hq : q < 16) (hN : 100 ≤ N) : ∃ m', F_X9_copy N 322 (nI p) (nI q) (S m) = some ((), S m') ∧ Fr (rwP q) m m' ∧ rI m' 331 q = rI m 331 p ∧ ∀ v, RowV m p v → RowV m' q v := by
  obtain ⟨m', h1, h2, h3, h4⟩ := m_copy (N := N) (m := m) hp hq hN
  refine ⟨m', h1, fun a j ha => ⟨?_, ?_⟩, by rw [h2, if_pos ⟨rfl, rfl⟩], fun v hv => ⟨fun k hk => ?_, by rw [h2, if_pos ⟨rfl, rfl⟩]; exact hv.2⟩⟩
  · unfold rwP at ha
    rw [h2, if_neg (by omega)]
  · unfold rwP at ha
    exact h4 a j (by omega)
  · rw [← hv.1 k hk]
    show (rJ m' 332 (29 * q + k), rJ m' 333 (29 * q + k)) = (rJ m 332 (29 * p + k), rJ m 333 (29 * p + k))
    rw [(h3 k hk).1, (h3 k hk).2]
def LvH (T : List Tok) (t : Nat → Nat) (m : vM) (bh : Bool) (e : LV) (l : Nat) : Prop :=
  (rI m 349 l = b2 (e.1.2.1.isSome = true) ∧ rI m 350 l = b2 (bh = true ∨ e.1.2.2.isSome = true)) ∧ (∀ q, e.1.2.1 = some q → PtAt T t m 351 l q ∧ RowV m (4 + 2 * l) e.2.1) ∧ (∀ q, e.1.2.2 = some q → PtAt T t m 352 l q) ∧ ((bh = true ∨ e.1.2.2.isSome = true) → RowV m (5 + 2 * l) e.2.2) ∧ (∀ o, e.1.1 = some o → PtAt T t m 353 l o)
def LvM (T : List Tok) (t : Nat → Nat) (m : vM) : Bool → List LV → Prop
  | _, [] => True
  | bh, e :: r => LvH T t m bh e r.length ∧ LvM T t m false r
theorem PtAt.same {A l q : Nat} (h : PtAt T t m A l q) (e : rI m' A l = rI m A l) : PtAt T t m' A l q := by
  obtain ⟨k, x, h1, h2, h3⟩ := h
  exact ⟨k, x, h1, by rw [e]; exact h2, h3⟩
theorem LvH.same {bh : Bool} {e : LV} {l : Nat} (h : LvH T t m bh e l) (c : ∀ b, 349 ≤ b → b ≤ 353 → rI m' b l = rI m b l) (d : ∀ u v, u = 4 + 2 * l ∨ u = 5 + 2 * l → RowV m u v → RowV m' u v) : LvH T t m' bh e l := by
  obtain ⟨⟨h1, h2⟩, h3, h4, h5, h6⟩ := h
  exact ⟨⟨by rw [c _ (by omega) (by omega)]; exact h1, by rw [c _ (by omega) (by omega)]; exact h2⟩, fun q hq => ⟨(h3 q hq).1.same (c _ (by omega) (by omega)), d _ _ (Or.inl rfl) (h3 q hq).2⟩, fun q hq => (h4 q hq).same (c _ (by omega) (by omega)), fun hq => d _ _ (Or.inr rfl) (h5 hq), fun o ho => (h6 o ho).same (c _ (by omega) (by omega))⟩
theorem LvM.same : ∀ {E : List LV} {bh : Bool}, LvM T t m bh E → (∀ b l, 349 ≤ b → b ≤ 353 → l < E.length → rI m' b l = rI m b l) → (∀ u v, 4 ≤ u → u < 4 + 2 * E.length → RowV m u v → RowV m' u v) → LvM T t m' bh E
  | [], _, _, _, _ => trivial
  | e :: r, bh, h, c, d => by
    have hl : (e :: r).length = r.length + 1 := rfl
    exact ⟨h.1.same (fun b h1 h2 => c b _ h1 h2 (by omega)) (fun u v hu hv => d u v (by omega) (by omega) hv), LvM.same h.2 (fun b l h1 h2 h3 => c b l h1 h2 (by omega)) (fun u v h1 h2 hv => d u v h1 (by omega) hv)⟩
/-- the model's state between two signs -/
def MS (m : vM) (T : List Tok) (t : Nat → Nat) (bh : Bool) (E : List LV) : Prop := (TokM m T ∧ T.length ≤ 60) ∧ Tab m ∧ (rI m 322 37 = nI (E.length - 1) ∧ rI m 322 43 = 0 ∧ rI m 322 25 = 0) ∧ LvM T t m bh E
theorem TokM.mw (h : TokM m T) (f : Fr mwP m m') : TokM m' T := ⟨by rw [f.i (by unfold mwP; omega)]; exact h.1, fun i x hx => by
  rw [f.i (by unfold mwP; omega), f.i (by unfold mwP; omega), f.i (by unfold mwP; omega), f.i (by unfold mwP; omega)]
  exact h.2 i x hx⟩
theorem addL (n i : Nat) : (no_index (OfNat.ofNat n) : Int32) + nI i = nI ((OfNat.ofNat n : Nat) + i) := by
  rw [Int32.add_comm, addR, Nat.add_comm]
theorem m_sumRow {l : Nat} (h : rI m 322 37 = nI l) : F_X9_sumRow N 322 (S m) = some (nI (4 + 2 * l), S m) := by
  unfold F_X9_sumRow
  refine e_rcv fmO ?_
  refine e_ldIV fmO (h) ?_
  rw [mulL, addL]
theorem flv_nz : ∀ f, f < 6 → 3 ≤ f → ∀ p, p < 60 → ¬ flv f p = 0 := by decide +kernel
theorem m_blame {k f : Nat} {x : Tok} (hO : TokM m T) (hx : T[k]? = some x) (hk : k < 60) (h0 : rI m 322 43 = 0) : F_X9_blame N 322 (nI f) (nI k) (S m) = some ((), S (wI m 322 43 (flv f x.2.1))) := by
  unfold F_X9_blame
  refine e_rcv fmO ?_
  refine e_ldIV fmO (h0) ?_
  refine e_t (rfl) ?_
  refine e_ldR fmO fmR32 ?_
  refine e_alIV fmA32 rfl (by omega) ((hO.2 k x hx).2.1) ?_
  unfold J_X9_blame_27
  refine e_stI fmO ?_
  rfl
theorem m_blame2 {k f : Nat} {v : Int32} (h0 : rI m 322 43 = v) (hv : ¬ v = 0) : F_X9_blame N 322 (nI f) (nI k) (S m) = some ((), S (wI m 322 43 v)) := by
  unfold F_X9_blame
  refine e_rcv fmO ?_
  refine e_ldIV fmO (h0) ?_
  refine e_f (hv) ?_
  refine e_ldIV fmO (h0) ?_
  unfold J_X9_blame_27
  refine e_stI fmO ?_
  rfl
theorem cmb_f {w f : Nat} {x y : Vl} (h : cmb w x y = .inl f) : 3 ≤ f ∧ f < 6 := by
  unfold cmb at h
  by_cases un : x.1 + y.1 = 1
  · rw [if_pos un] at h; cases h; omega
  rw [if_neg un] at h
  by_cases tg : tooX w (qmn x y) x.2 y.2 = true
  · rw [if_pos tg] at h; cases h; omega
  rw [if_neg tg] at h
  cases hs : sumX w (qmn x y) x.2 y.2 with
  | none => rw [hs] at h; cases h; omega
  | some row => rw [hs] at h; cases h
theorem avg_f {f : Nat} {x : Vl} (h : avgV x = .inl f) : 3 ≤ f ∧ f < 6 := by
  unfold avgV at h
  by_cases z0 : x.1 = 0
  · rw [if_pos z0] at h; cases h; omega
  rw [if_neg z0] at h
  by_cases z2 : x.1 = 2
  · rw [if_pos z2] at h; cases h
  rw [if_neg z2] at h
  cases hs : avgX x.2 with
  | none => rw [hs] at h; cases h; omega
  | some row => rw [hs] at h; cases h
/-- a fault of the model -/
def FltM (m m' : vM) (f : Nat × Nat) : Prop := Fr mwP m m' ∧ rI m' 322 43 = flv f.1 f.2 ∧ ¬ flv f.1 f.2 = 0
theorem b2_iff1 {c : Prop} [Decidable c] (h : c) : b2 c = 1 := b2_t h
theorem m_comes {e : LV} {r : List LV} {w : Vl} (hN : 100 ≤ N) (h : MS m T t false (e :: r)) (hr : r.length < 4) (hw : RowV m 12 w) (gw : Gd w) (ge : Gd e.2.1 ∧ Gd e.2.2) (hP : ∀ q, e.1.2.2 = some q → q < 60) : ∃ m', F_X9_comes N 322 (S m) = some ((), S m') ∧ match cmV w e with
    | .inl f => FltM m m' f
    | .inr e' => Fr mwP m m' ∧ MS m' T t true (e' :: r) := by
  obtain ⟨⟨hO, hTl⟩, hTb, ⟨h37, h43, h25⟩, ⟨⟨hs, hp⟩, hS, hTi, hPr, hB⟩, hL⟩ := id h
  have h37 : rI m 322 37 = nI r.length := h37
  have hrow := m_sumRow (N := N) h37
  cases hg : e.1.2.2 with
  | none =>
    have h1 : cmV w e = .inr (e.1, e.2.1, w) := by unfold cmV; rw [hg]
    rw [h1]
    rw [hg] at hp
    have hp0 : rI m 350 r.length = 0 := hp.trans (b2_f (fun q => q.elim (fun q => by cases q) (fun q => by cases q)))
    obtain ⟨m1, c1, c2, c3, c4⟩ := m_copyG (N := N) (m := m) (p := 12) (q := 5 + 2 * r.length) (by omega) (by omega) hN
    have f1 : Fr mwP m (wI m1 350 r.length 1) := (c2.mo (fun _ _ => rw_mw (by omega))).sI (Or.inr (Or.inr (Or.inr (Or.inr (Or.inr (Or.inr (by omega)))))))
    refine ⟨wI m1 350 r.length 1, ?_, f1, ⟨hO.mw f1, hTl⟩, hTb.fr (fun b j hb => f1 b j (mw_tab hb)), ⟨?_, ?_, ?_⟩, ⟨⟨?_, ?_⟩, fun q hq => ⟨(hS q hq).1.same ?_, ?_⟩, fun q hq => ?_, fun _ => (c4 w hw).wi (by omega), fun o ho => (hB o ho).same ?_⟩, hL.same (fun b l b1 b2' b3 => ?_) (fun u v u1 u2 hv => (hv.rw c2 (by omega)).wi (by omega))⟩
    · unfold F_X9_comes
      refine e_rcv fmO ?_
      refine e_bnd (hrow) ?_
      refine e_nm ?_
      rw [addR]
      refine e_ldR fmO fmR39 ?_
      refine e_ldIV fmO (h37) ?_
      refine e_alZV fmA39 rfl (by omega) hp0 ?_
      refine e_t (rfl) ?_
      rw [show 4 + 2 * r.length + (OfNat.ofNat 1 : Nat) = 5 + 2 * r.length from by show 4 + 2 * r.length + 1 = _; omega]
      refine e_bnd (c1) ?_
      refine e_ldR fmO fmR39 ?_
      refine e_ldIV fmO (show rI _ 322 37 = nI r.length by rw [c2.i (by unfold rwP; omega)]; exact h37) ?_
      refine e_asZ fmA39 rfl (by omega) (Or.inr rfl) ?_
      rfl
    · rw [rI_n _ _ (by omega), c2.i (by unfold rwP; omega)]; exact h37
    · rw [rI_n _ _ (by omega), c2.i (by unfold rwP; omega)]; exact h43
    · rw [rI_n _ _ (by omega), c2.i (by unfold rwP; omega)]; exact h25
    · rw [rI_n _ _ (by omega), c2.i (by unfold rwP; omega)]; exact hs
    · rw [rI_s, b2_t (Or.inl rfl)]
    · rw [rI_n _ _ (by omega), c2.i (by unfold rwP; omega)]
    · exact ((hS q hq).2.rw c2 (by omega)).wi (by omega)
    · have hq : e.1.2.2 = some q := hq
      rw [hg] at hq
      cases hq
    · rw [rI_n _ _ (by omega), c2.i (by unfold rwP; omega)]
    · rw [rI_n _ _ (by omega), c2.i (by unfold rwP; omega)]
  | some q =>
    have h1 : cmV w e = (match cmb 2 e.2.2 w with
      | .inl f => .inl (f, q)
      | .inr v => .inr ((e.1.1, e.1.2.1, none), e.2.1, v)) := by
      unfold cmV
      rw [hg]
      rfl
    rw [h1]
    have hq60 := hP q hg
    have hp1 : rI m 350 r.length = 1 := hp.trans (b2_t (Or.inr (by rw [hg]; rfl)))
    have hrv := hPr (Or.inr (by rw [hg]; rfl))
    obtain ⟨k, x, k1, k2, k3, k4, k5⟩ := hTi q hg
    have start : ∀ R, bnd (F_X9_areUnlike N 322 (nI (5 + 2 * r.length)) (nI 12) (S m)) (fun v9 s => if v9 = (0) then (bnd (F_X9_isTooGreat N 322 (nI (5 + 2 * r.length)) (12) s) (fun v10 s => if v10 = (0) then (bnd (F_X9_multiply N 322 (nI (5 + 2 * r.length)) (12) (13) s) (fun v11 s => bnd (F_X9_copy N 322 (13) (nI (5 + 2 * r.length)) s) (fun v12 s => J_X9_comes_101 N 322 (nI k) s))) else (bnd (F_X9_blame N 322 (4) (nI k) s) (fun v13 s => J_X9_comes_101 N 322 (nI k) s)))) else (bnd (F_X9_blame N 322 (3) (nI k) s) (fun v14 s => J_X9_comes_101 N 322 (nI k) s))) = R → F_X9_comes N 322 (S m) = R := by
      intro R hR
      unfold F_X9_comes
      refine e_rcv fmO ?_
      refine e_bnd (hrow) ?_
      refine e_nm ?_
      rw [addR]
      refine e_ldR fmO fmR39 ?_
      refine e_ldIV fmO (h37) ?_
      refine e_alZV fmA39 rfl (by omega) hp1 ?_
      refine e_f (by decide) ?_
      refine e_ldR fmO fmR41 ?_
      refine e_ldIV fmO (h37) ?_
      refine e_alIV fmA41 rfl (by omega) k2 ?_
      rw [show 4 + 2 * r.length + (OfNat.ofNat 1 : Nat) = 5 + 2 * r.length from by show 4 + 2 * r.length + 1 = _; omega]
      exact hR
    have hun := m_areUnlike (N := N) (m := m) (u := 5 + 2 * r.length) (w := 12) (by omega) (by omega) ge.2.1 gw.1 hrv.2 hw.2
    -- where nothing but the fault is told
    have tell : ∀ (m1 : vM) (f : Nat), Fr mwP m m1 → TokM m1 T → rI m1 322 43 = 0 → 3 ≤ f → f < 6 → Fr mwP m (wI m1 322 43 (flv f q)) ∧ F_X9_blame N 322 (nI f) (nI k) (S m1) = some ((), S (wI m1 322 43 (flv f q))) ∧ FltM m (wI m1 322 43 (flv f q)) (f, q) := by
      intro m1 f g1 g2 g3 g4 g5
      have hb := m_blame (N := N) (f := f) g2 k1 k5 g3
      rw [k3] at hb
      have fr : Fr mwP m (wI m1 322 43 (flv f q)) := g1.sI (Or.inl (by omega))
      exact ⟨fr, hb, fr, rI_s _ _ _ _, flv_nz f g5 g4 q hq60⟩
    unfold cmb
    by_cases un : e.2.2.1 + w.1 = 1
    · rw [if_pos un]
      obtain ⟨t1, t2, t3⟩ := tell m 3 Fr.rf hO h43 (by omega) (by omega)
      refine ⟨_, start _ ?_, t3⟩
      refine e_bnd (hun) ?_
      refine e_f (b2_nz un) ?_
      refine e_bnd (t2) ?_
      unfold J_X9_comes_101
      refine e_ldIV fmO (show rI _ 322 25 = 0 by rw [rI_n _ _ (by omega)]; exact h25) ?_
      refine e_t (rfl) ?_
      rfl
    rw [if_neg un]
    obtain ⟨io, ip⟩ := cmb_in ge.2 gw un
    have htg := m_isTooGreat (N := N) (m := m) (q := qmn e.2.2 w) (u := 5 + 2 * r.length) (w := 12) hN ge.2.1 gw.1 qmn_iff (by omega) (by omega) io ip hTb hrv.1 hw.1 hrv.2 hw.2
    by_cases tg : tooX 2 (qmn e.2.2 w) e.2.2.2 w.2 = true
    · rw [if_pos tg]
      have tg2 := (of_decide_eq_true tg).2
      obtain ⟨t1, t2, t3⟩ := tell m 4 Fr.rf hO h43 (by omega) (by omega)
      refine ⟨_, start _ ?_, t3⟩
      refine e_bnd (hun) ?_
      refine e_t (b2_f un) ?_
      rcases htg with ⟨_, g⟩ | ⟨g, _⟩
      · refine e_bnd (g) ?_
        refine e_f (by decide) ?_
        refine e_bnd (t2) ?_
        unfold J_X9_comes_101
        refine e_ldIV fmO (show rI _ 322 25 = 0 by rw [rI_n _ _ (by omega)]; exact h25) ?_
        refine e_t (rfl) ?_
        rfl
      · exact absurd tg2 g
    rw [if_neg tg]
    obtain ⟨m1, x1, x2, x3⟩ := m_sumX (N := N) (m := m) (q := qmn e.2.2 w) (u := 5 + 2 * r.length) (w := 12) (wh := 2) (K := fun _ => none) hN (by omega) (by omega) (by omega) ge.2.1 gw.1 qmn_iff ge.2.2.1 gw.2.1 io ip hTb h25 hrv.1 hw.1 hrv.2 hw.2 rfl
    have x1 : F_X9_multiply N 322 (nI (5 + 2 * r.length)) 12 13 (S m) = some ((), S m1) := x1
    obtain ⟨m2, c1, c2, c3, c4⟩ := m_copyG (N := N) (m := m1) (p := 13) (q := 5 + 2 * r.length) (by omega) (by omega) hN
    have f2 : Fr mwP m m2 := (x2.mo (fun _ _ => mo_mw)).tr (c2.mo (fun _ _ => rw_mw (by omega)))
    have h43' : rI m2 322 43 = 0 := by rw [c2.i (by unfold rwP; omega), x2.i (by unfold moQ moP; omega)]; exact h43
    have goM : ∀ R, J_X9_comes_101 N 322 (nI k) (S m2) = R → F_X9_comes N 322 (S m) = R := by
      intro R hR
      refine start R ?_
      refine e_bnd (hun) ?_
      refine e_t (b2_f un) ?_
      rcases htg with ⟨g, _⟩ | ⟨_, g⟩
      · exact absurd (decide_eq_true ⟨rfl, g⟩) tg
      · refine e_bnd (g) ?_
        refine e_t (rfl) ?_
        refine e_bnd (x1) ?_
        refine e_bnd (c1) ?_
        exact hR
    cases hsx : sumX 2 (qmn e.2.2 w) e.2.2.2 w.2 with
    | none =>
      rw [hsx] at x3
      obtain ⟨t1, t2, t3⟩ := tell m2 5 f2 (hO.mw f2) h43' (by omega) (by omega)
      refine ⟨_, goM _ ?_, t3⟩
      unfold J_X9_comes_101
      refine e_ldIV fmO (show rI _ 322 25 = 1 by rw [c2.i (by unfold rwP; omega)]; exact x3) ?_
      refine e_f (by decide) ?_
      refine e_bnd (t2) ?_
      rfl
    | some row =>
      rw [hsx] at x3
      have hnew := c4 (kdE row (mn e.2.2.1 w.1), row) ⟨x3.2.1, x3.2.2⟩
      have keep : ∀ u v, 4 ≤ u → u < 12 → u ≠ 5 + 2 * r.length → RowV m u v → RowV m2 u v := fun u v u1 u2 u3 hv => (hv.mo x2 (by omega)).rw c2 u3
      have k350 : ∀ b j, 349 ≤ b → b ≤ 353 → rI m2 b j = rI m b j := fun b j b1 b2' => by rw [c2.i (by unfold rwP; omega), x2.i (by unfold moQ moP; omega)]
      have h25' : rI m2 322 25 = 0 := by rw [c2.i (by unfold rwP; omega)]; exact x3.1
      refine ⟨m2, goM _ ?_, f2, ⟨hO.mw f2, hTl⟩, hTb.fr (fun b j hb => f2 b j (mw_tab hb)), ⟨?_, h43', h25'⟩, ⟨⟨?_, ?_⟩, fun q hq => ⟨(hS q hq).1.same ?_, ?_⟩, fun q hq => ?_, fun _ => hnew, fun o ho => (hB o ho).same ?_⟩, hL.same (fun b l b1 b2' b3 => k350 b l b1 b2') (fun u v u1 u2 hv => keep u v u1 (by omega) (by omega) hv)⟩
      · unfold J_X9_comes_101
        refine e_ldIV fmO (h25') ?_
        refine e_t (rfl) ?_
        rfl
      · rw [c2.i (by unfold rwP; omega), x2.i (by unfold moQ moP; omega)]; exact h37
      · rw [k350 _ _ (by omega) (by omega)]; exact hs
      · rw [k350 _ _ (by omega) (by omega), hp1, b2_t (Or.inl rfl)]
      · exact k350 _ _ (by omega) (by omega)
      · exact keep _ _ (by omega) (by omega) (by omega) (hS q hq).2
      · cases hq
      · exact k350 _ _ (by omega) (by omega)
end MEX
