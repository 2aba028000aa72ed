section RD4
variable {N z at_ : Nat} {t : Nat → Nat} {m m' : vM} {s : vS}
/-- a network in the text: the place with which it can't go on, or its number and what is behind it -/
def tkN (q : Bool) (t : Nat → Nat) (z at_ cl : Nat) : Nat ⊕ (Int32 × Nat) := match bdf (at_ + 1) (ef t z (at_ + 1)) 9 with
  | some b => .inl b
  | none => if ef t z (at_ + 1) < z ∧ t (ef t z (at_ + 1)) = cl then .inr (netV q t (at_ + 1) (ef t z (at_ + 1)), ef t z (at_ + 1) + 1) else .inl (ef t z (at_ + 1))
/-- what is behind the figures of a fraction -/
def tkB (t : Nat → Nat) (z at_ e : Nat) : Nat ⊕ (Nat × Nat × Nat) := match bdf (e + 1) (ef t z (e + 1)) 3 with
  | some b => .inl b
  | none => if num t (e + 1) (ef t z (e + 1)) = 0 then .inl (e + 1) else .inr (num t at_ e, num t (e + 1) (ef t z (e + 1)), ef t z (e + 1))
def tkF (t : Nat → Nat) (z at_ : Nat) : Nat ⊕ (Nat × Nat × Nat) := match bdf at_ (ef t z at_) 3 with
  | some b => .inl b
  | none => if ef t z at_ < z ∧ t (ef t z at_) = 47 then tkB t z at_ (ef t z at_) else .inr (num t at_ (ef t z at_), 1, ef t z at_)
theorem bdf_n {f e k : Nat} (h : bdf f e k = none) : e ≠ f ∧ e - f ≤ k := by
  unfold bdf at h
  by_cases w : e = f
  · rw [if_pos w] at h; cases h
  · rw [if_neg w] at h
    by_cases w2 : e - f ≤ k
    · exact ⟨w, w2⟩
    · rw [if_neg w2] at h; cases h
theorem bdf_s {f e k b : Nat} (h : bdf f e k = some b) (hfe : f ≤ e) (he : e < 1000) : f ≤ b ∧ b < 1000 := by
  unfold bdf at h
  by_cases w : e = f
  · rw [if_pos w] at h; cases h; omega
  · rw [if_neg w] at h
    by_cases w2 : e - f ≤ k
    · rw [if_pos w2] at h; cases h
    · rw [if_neg w2] at h; cases h; omega
/-- an order is made, the place goes on -/
theorem c_ord {O : List Tok} {L : List Lev} {a' : Nat} (h : StC m z t at_ O L) (ha : at_ < a') (hz : a' ≤ z) (x : Tok) (hx1 : x.1 < 128) (hx2 : x.2.1 < 60) : ∃ m1, F_X7_order N 234 (nI x.1) (nI x.2.1) x.2.2.1 x.2.2.2 (S m) = some ((), S m1) ∧ Fr psP m (wI m1 234 9 (nI a')) ∧ StC (wI m1 234 9 (nI a')) z t a' (O ++ [x]) L := by
  obtain ⟨⟨hT, h9, h9'⟩, hO, hL, ⟨hW, h4, h10⟩, hP, hc⟩ := id h
  have h60 := hT.1
  obtain ⟨m1, d1, d2, d3⟩ := c_order (N := N) hO (by omega) x.1 x.2.1 x.2.2.1 x.2.2.2 hx1 hx2
  have f1 : Fr psP m m1 := d2.mo (fun b j w => by unfold orP at w; unfold psP; omega)
  refine ⟨m1, d1, f1.tr f9, ⟨⟨(hT.fr f1).fr f9, hz, rI_s _ _ _ _⟩, ⟨by rw [rI_n _ _ (by omega)]; exact d3.1, fun i y hy => ?_⟩, hL.same (fun b j hb _ => by rw [rI_n _ _ (by omega), d2.i (by unfold orP; omega)]), ⟨hW, h4, by rw [rI_n _ _ (by omega), d2.i (by unfold orP; omega)]; exact h10⟩, hP, ?_⟩⟩
  · rw [rI_n _ _ (by omega), rI_n _ _ (by omega), rI_n _ _ (by omega), rI_n _ _ (by omega)]
    exact d3.2 i y hy
  · rw [List.length_append]
    show O.length + 1 + pnd L ≤ a'
    omega
theorem c_takeNet {q : Bool} {O : List Tok} {L : List Lev} {cl : Nat} (hN : 100 ≤ N) (hTb : Tab m) (h : StC m z t at_ O L) (ha : at_ < z) (hcl : cl < 128) :
    (∃ b, tkN q t z at_ cl = .inl b ∧ b < 1000 ∧ F_X7_takeNet N 234 (nI cl) (fo q) (S m) = some (nI b, S m)) ∨ (∃ v a' m', tkN q t z at_ cl = .inr (v, a') ∧ F_X7_takeNet N 234 (nI cl) (fo q) (S m) = some (-1, S m') ∧ Fr psP m m' ∧ at_ < a' ∧ a' ≤ z ∧ StC m' z t a' (O ++ [(t at_, at_, v, 0)]) L) := by
  obtain ⟨⟨hT, h9, h9'⟩, hO, hL, ⟨hW, h4, h10⟩, hP, hc⟩ := id h
  have h60 := hT.1
  obtain ⟨e1, e2, e3, e4⟩ := ef_sp (t := t) (z := z) (i := at_ + 1) (by omega)
  obtain ⟨e, he⟩ : ∃ e, ef t z (at_ + 1) = e := ⟨_, rfl⟩
  have hgo : ∀ R, (if ip (bdf (at_ + 1) e 9) = -1 then (ldI (S m) 234 7 3 (fun v5 => if v5 ≤ nI e then (J_X7_takeNet_53 N (nI e) (S m)) else (ldR (S m) 234 7 2 (fun r6 => alI (S m) r6 (nI e) (fun v7 => if v7 = nI cl then (ldR (S m) 234 7 2 (fun r8 => ldI (S m) 234 7 9 (fun v9 => alI (S m) r8 v9 (fun v10 => ldI (S m) 234 7 9 (fun v11 => bnd (F_X7_netOf N 234 (nI (at_ + 1)) (nI e) (fo q) (S m)) (fun v12 s => bnd (F_X7_order N 234 v10 v11 v12 (0) s) (fun v13 s => stI s 234 7 9 (nI e + (1)) (fun s => some ((-1), s))))))))) else (J_X7_takeNet_53 N (nI e) (S m))))))) else (some (ip (bdf (at_ + 1) e 9), S m))) = R → F_X7_takeNet N 234 (nI cl) (fo q) (S m) = R := by
    intro R hR
    unfold F_X7_takeNet
    refine e_rcv ftO ?_
    refine e_ldIV ftO (h9') ?_
    refine e_nm ?_
    rw [addR]
    refine e_bnd (c_ef hN hT (by show at_ + 1 ≤ z; omega)) ?_
    refine e_bnd (c_bad (most := 9) e1 (by omega) (by omega)) ?_
    rw [he]
    exact hR
  unfold tkN
  rw [he] at e1 e2 e3 e4 ⊢
  cases hb : bdf (at_ + 1) e 9 with
  | some b =>
    have hb2 := bdf_s hb e1 (by omega)
    refine Or.inl ⟨b, rfl, hb2.2, hgo _ ?_⟩
    rw [hb]
    exact e_f (nI_m1 hb2.2) rfl
  | none =>
    have hbn := bdf_n hb
    dsimp only
    by_cases w : e < z ∧ t e = cl
    · rw [if_pos w]
      obtain ⟨m1, d1, d2, d3⟩ := c_ord (N := N) (a' := e + 1) h (by omega) (by omega) (t at_, at_, netV q t (at_ + 1) e, 0) (hT.2.2 at_ ha).1 (show at_ < 60 by omega)
      refine Or.inr ⟨_, _, wI m1 234 9 (nI (e + 1)), rfl, hgo _ ?_, d2, by omega, by omega, d3⟩
      rw [hb]
      refine e_t (rfl) ?_
      refine e_ldIV ftO (hT.2.1) ?_
      refine e_f (by rw [nI_leI (by omega) (by omega)]; omega) ?_
      refine e_ldR ftO ftR2 ?_
      refine e_alIV ftA2 rfl (by omega) ((hT.2.2 e w.1).2) ?_
      refine e_t (by rw [w.2]) ?_
      refine e_ldR ftO ftR2 ?_
      refine e_ldIV ftO (h9') ?_
      refine e_alIV ftA2 rfl (by omega) ((hT.2.2 at_ ha).2) ?_
      refine e_ldIV ftO (h9') ?_
      refine e_bnd (c_netOf hN hT hTb e2 (by omega) e3) ?_
      refine e_bnd (d1) ?_
      refine e_stI ftO ?_
      rw [addR]
    · rw [if_neg w]
      refine Or.inl ⟨e, rfl, by omega, hgo _ ?_⟩
      rw [hb]
      refine e_t (rfl) ?_
      refine e_ldIV ftO (hT.2.1) ?_
      by_cases w2 : e < z
      · have h128 := (hT.2.2 e w2).1
        refine e_f (by rw [nI_leI (by omega) (by omega)]; omega) ?_
        refine e_ldR ftO ftR2 ?_
        refine e_alIV ftA2 rfl (by omega) ((hT.2.2 e w2).2) ?_
        refine e_f (fun y => w ⟨w2, (nI_eq (by omega) (by omega)).mp y⟩) ?_
        rfl
      · refine e_t (by rw [nI_leI (by omega) (by omega)]; omega) ?_
        rfl
theorem c_takeFraction {O : List Tok} {L : List Lev} (hN : 100 ≤ N) (h : StC m z t at_ O L) (ha : at_ < z) :
    (∃ b, tkF t z at_ = .inl b ∧ b < 1000 ∧ F_X7_takeFraction N 234 (S m) = some (nI b, S m)) ∨ (∃ u v a' m', tkF t z at_ = .inr (u, v, a') ∧ F_X7_takeFraction N 234 (S m) = some (-1, S m') ∧ Fr psP m m' ∧ at_ < a' ∧ a' ≤ z ∧ StC m' z t a' (O ++ [(48, at_, nI u, nI v)]) L) := by
  obtain ⟨⟨hT, h9, h9'⟩, hO, hL, ⟨hW, h4, h10⟩, hP, hc⟩ := id h
  have h60 := hT.1
  obtain ⟨e1, e2, e3, e4⟩ := ef_sp (t := t) (z := z) (i := at_) (by omega)
  obtain ⟨e, he⟩ : ∃ e, ef t z at_ = e := ⟨_, rfl⟩
  unfold tkF
  rw [he] at e1 e2 e3 e4 ⊢
  have hcef := c_ef (N := N) hN hT (i := at_) (by omega)
  rw [he] at hcef
  have hbad := c_bad (N := N) (s := S m) (most := 3) e1 (by omega) (by omega)
  have j102 : ∀ u v a', at_ < a' → a' ≤ z → ∃ m', J_X7_takeFraction_102 N 234 (nI a') (nI u) (nI v) (S m) = some (-1, S m') ∧ Fr psP m m' ∧ StC m' z t a' (O ++ [(48, at_, nI u, nI v)]) L := by
    intro u v a' ha1 ha2
    obtain ⟨m1, d1, d2, d3⟩ := c_ord (N := N) (a' := a') h ha1 ha2 (48, at_, nI u, nI v) (show 48 < 128 by omega) (show at_ < 60 by omega)
    refine ⟨_, ?_, d2, d3⟩
    unfold J_X7_takeFraction_102
    refine e_ldIV ftO (h9') ?_
    refine e_bnd (d1) ?_
    refine e_stI ftO ?_
    rfl
  cases hb : bdf at_ e 3 with
  | some b =>
    have hb2 := bdf_s hb e1 (by omega)
    refine Or.inl ⟨b, rfl, hb2.2, ?_⟩
    rw [hb] at hbad
    unfold F_X7_takeFraction
    refine e_rcv ftO ?_
    refine e_ldIV ftO (h9') ?_
    refine e_bnd (hcef) ?_
    refine e_ldIV ftO (h9') ?_
    refine e_bnd (hbad) ?_
    exact e_f (nI_m1 hb2.2) rfl
  | none =>
    have hbn := bdf_n hb
    rw [hb] at hbad
    have hnum := c_num (N := N) hN hT e2 e1 (fun j j1 j2 => (e3 j j1 j2).2.1)
    dsimp only
    have start : ∀ R, (if nI z ≤ nI e then (J_X7_takeFraction_102 N 234 (nI e) (nI (num t at_ e)) (1) (S m)) else (ldR (S m) 234 7 2 (fun r8 => alI (S m) r8 (nI e) (fun v9 => if v9 = (47) then (nm ((nI e + (1))) (fun l5_10 => bnd (F_X7_endOfFigures N 234 l5_10 (S m)) (fun v11 s => bnd (F_X7_badFigure N l5_10 v11 (3) s) (fun v12 s => if v12 = (-1) then (bnd (F_X7_numberOf N 234 l5_10 v11 s) (fun v13 s => if v13 = (0) then (some (l5_10, s)) else (J_X7_takeFraction_102 N 234 v11 (nI (num t at_ e)) v13 s))) else (some (v12, s)))))) else (J_X7_takeFraction_102 N 234 (nI e) (nI (num t at_ e)) (1) (S m)))))) = R → F_X7_takeFraction N 234 (S m) = R := by
      intro R hR
      unfold F_X7_takeFraction
      refine e_rcv ftO ?_
      refine e_ldIV ftO (h9') ?_
      refine e_bnd (hcef) ?_
      refine e_ldIV ftO (h9') ?_
      refine e_bnd (hbad) ?_
      refine e_t (rfl) ?_
      refine e_ldIV ftO (h9') ?_
      refine e_bnd (hnum) ?_
      refine e_ldIV ftO (hT.2.1) ?_
      exact hR
    by_cases w : e < z ∧ t e = 47
    · rw [if_pos w]
      obtain ⟨g1, g2, g3, g4⟩ := ef_sp (t := t) (z := z) (i := e + 1) (by omega)
      unfold tkB
      obtain ⟨e', he'⟩ : ∃ e', ef t z (e + 1) = e' := ⟨_, rfl⟩
      have hcef2 := c_ef (N := N) hN hT (i := e + 1) (by omega)
      rw [he'] at hcef2 g1 g2 g3 g4 ⊢
      have hbad2 := c_bad (N := N) (s := S m) (most := 3) g1 (by omega) (by omega)
      have start2 : ∀ R, (if ip (bdf (e + 1) e' 3) = (-1) then (bnd (F_X7_numberOf N 234 (nI (e + 1)) (nI e') (S m)) (fun v13 s => if v13 = (0) then (some (nI (e + 1), s)) else (J_X7_takeFraction_102 N 234 (nI e') (nI (num t at_ e)) v13 s))) else (some (ip (bdf (e + 1) e' 3), S m))) = R → F_X7_takeFraction N 234 (S m) = R := by
        intro R hR
        refine start R ?_
        refine e_f (by rw [nI_leI (by omega) (by omega)]; omega) ?_
        refine e_ldR ftO ftR2 ?_
        refine e_alIV ftA2 rfl (by omega) ((hT.2.2 e w.1).2) ?_
        refine e_t (by rw [w.2]; rfl) ?_
        refine e_nm ?_
        rw [addR]
        refine e_bnd (hcef2) ?_
        refine e_bnd (hbad2) ?_
        exact hR
      cases hb2 : bdf (e + 1) e' 3 with
      | some b =>
        have hb3 := bdf_s hb2 g1 (by omega)
        refine Or.inl ⟨b, rfl, hb3.2, start2 _ ?_⟩
        rw [hb2]
        exact e_f (nI_m1 hb3.2) rfl
      | none =>
        have hbn2 := bdf_n hb2
        have hnum2 := c_num (N := N) hN hT g2 g1 (fun j j1 j2 => (g3 j j1 j2).2.1)
        have hlt : num t (e + 1) e' < 1 * 10 ^ (e' - (e + 1)) := nmb_lt _ _ _ _ (by omega) (fun j j1 j2 => (g3 j j1 (by omega)).2.2)
        have hp : 10 ^ (e' - (e + 1)) ≤ 10 ^ 3 := Nat.pow_le_pow_right (by decide) hbn2.2
        dsimp only
        by_cases y : num t (e + 1) e' = 0
        · rw [if_pos y]
          refine Or.inl ⟨e + 1, rfl, by omega, start2 _ ?_⟩
          rw [hb2]
          refine e_t (rfl) ?_
          refine e_bnd (hnum2) ?_
          exact e_t (by rw [y]; rfl) rfl
        · rw [if_neg y]
          obtain ⟨m', c1, c2, c3⟩ := j102 (num t at_ e) (num t (e + 1) e') e' (by omega) g2
          refine Or.inr ⟨_, _, _, m', rfl, start2 _ ?_, c2, by omega, g2, c3⟩
          rw [hb2]
          refine e_t (rfl) ?_
          refine e_bnd (hnum2) ?_
          refine e_f (by rw [eqR (by decide) (by omega)]; exact y) ?_
          exact c1
    · rw [if_neg w]
      obtain ⟨m', c1, c2, c3⟩ := j102 (num t at_ e) 1 e (by omega) e2
      refine Or.inr ⟨_, _, _, m', rfl, start _ ?_, c2, by omega, e2, c3⟩
      by_cases w2 : e < z
      · have h128 := (hT.2.2 e w2).1
        refine e_f (by rw [nI_leI (by omega) (by omega)]; omega) ?_
        refine e_ldR ftO ftR2 ?_
        refine e_alIV ftA2 rfl (by omega) ((hT.2.2 e w2).2) ?_
        refine e_f (fun y => w ⟨w2, (eqR (by decide) (by omega)).mp y⟩) ?_
        exact c1
      · refine e_t (by rw [nI_leI (by omega) (by omega)]; omega) ?_
        exact c1
end RD4
