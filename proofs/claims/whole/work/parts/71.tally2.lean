section TALLY2
variable {N : Nat} {m : vM} {s : vS}
theorem TaS.fr {q : Bool} {f : Nat → Option Nat} {e : Nat} {m m' : vM} (h : TaS q f e m) (g : Fr (fun b _ => b = 288) m m') : TaS q f e m' := by
  have ha := adr q
  exact ⟨fun k hk => by rw [g.i (by omega)]; exact h.1 k hk, by rw [g.i (by omega)]; exact h.2.1, fun j hj => by rw [g.i (by omega)]; exact h.2.2 j hj⟩
/-- nothing comes -/
theorem c_tally_n {q : Bool} {root : Option Nat} {x : Int32} {e n : Nat} : J_X1_tally_66 N (H_X1_tally_34 N n) (fo q) 286 (rt root) x (nI e) (-1) (S m) = H_X1_tally_34 N n (fo q) 286 (rt root) x (nI (e + 1)) (S m) := by
  unfold J_X1_tally_66
  refine e_t rfl ?_
  unfold J_X1_tally_130
  refine e_nm ?_
  rw [addR]
/-- a number comes -/
theorem c_tally_k {q : Bool} {f : Nat → Option Nat} {root : Option Nat} {x : Int32} {e n k : Nat} (hk : k < mny q) (hfe : f e = some k) (he : e < 1000) (hc : tl f k e = 0 → (fcm f e).1 < mny q) (hc2 : (fcm f e).1 ≤ 29) (h : TaS q f e m) (h2 : rI m (fo q) 2 = nI (mny q)) :
    ∃ m', J_X1_tally_66 N (H_X1_tally_34 N n) (fo q) 286 (rt root) x (nI e) (nI k) (S m) = H_X1_tally_34 N n (fo q) 286 (rt root) x (nI (e + 1)) (S m') ∧ Fr (taP q) m m' ∧ TaS q f (e + 1) m' := by
  have ha := adr q
  obtain ⟨t1, t2, t3⟩ := h
  have htk := t1 k hk
  have htl := tl_le f k e
  have hk1 : ∀ k, k < 29 → ¬ nI k = (-1 : Int32) := by decide +kernel
  have hkm := hk1 k (by omega)
  by_cases h0 : tl f k e = 0
  · have hc := hc h0
    refine ⟨wI (wI (wI m (aCo q) (fcm f e).1 (nI k)) (fo q) 12 (nI ((fcm f e).1 + 1))) (aTa q) k (nI (tl f k e + 1)), ?_, ?_, ?_⟩
    · repeat (first | ((with_reducible refine e_nmV (e2 := ?_) ?hV ?_); (case hV => (first | (simp (disch := omega) only [leL, leR, ltL, ltR, eqR, eqL, mulL, addR, subR, clL, inL, nI_add, pk_mul, pk_sub, inb_nI, nI_clamp, nI_leI, nI_ltI, nI_eq, nI_1, divR, remR, shl1, htk, h2, t2, rI_s, rJ_s, rI_n, rJ_n, rI_wJ, rJ_wI]; with_reducible rfl) | with_reducible rfl))) | ((with_reducible refine e_rcv ?hO ?_); (case hO => (with_reducible first | assumption | exact gO))) | (with_reducible refine Eq.trans u_J_X1_tally_130 ?_) | (with_reducible refine Eq.trans u_J_X1_tally_119 ?_) | (with_reducible refine Eq.trans u_J_X1_tally_66 ?_) | (with_reducible refine Eq.trans u_H_X1_tally_34 ?_) | (with_reducible refine Eq.trans u_H_X1_tally_8 ?_) | (with_reducible refine Eq.trans u_F_X1_tally ?_) | ((with_reducible refine e_ldIV (v := ?_) ?hO ?hV ?_); (case hO => (with_reducible first | assumption | exact gO)); (case hV => (first | (simp (disch := omega) only [leL, leR, ltL, ltR, eqR, eqL, mulL, addR, subR, clL, inL, nI_add, pk_mul, pk_sub, inb_nI, nI_clamp, nI_leI, nI_ltI, nI_eq, nI_1, divR, remR, shl1, htk, h2, t2, rI_s, rJ_s, rI_n, rJ_n, rI_wJ, rJ_wI]; with_reducible rfl) | with_reducible rfl))) | ((with_reducible refine e_ldJV (v := ?_) ?hO ?hV ?_); (case hO => (with_reducible first | assumption | exact gO)); (case hV => (first | (simp (disch := omega) only [leL, leR, ltL, ltR, eqR, eqL, mulL, addR, subR, clL, inL, nI_add, pk_mul, pk_sub, inb_nI, nI_clamp, nI_leI, nI_ltI, nI_eq, nI_1, divR, remR, shl1, htk, h2, t2, rI_s, rJ_s, rI_n, rJ_n, rI_wJ, rJ_wI]; with_reducible rfl) | with_reducible rfl))) | ((with_reducible refine e_ldR (r := ?_) ?hO ?hR ?_); (case hO => (with_reducible first | assumption | exact gO)); (case hR => (with_reducible first | assumption | exact gR3 | exact gR4 | exact gR5 | exact gR6 | exact gR7 | exact gR8 | exact gR9 | exact gR10 | exact gR11))) | ((with_reducible refine e_stIV (v2 := ?_) ?hO ?hV ?_); (case hO => (with_reducible first | assumption | exact gO)); (case hV => (first | (simp (disch := omega) only [leL, leR, ltL, ltR, eqR, eqL, mulL, addR, subR, clL, inL, nI_add, pk_mul, pk_sub, inb_nI, nI_clamp, nI_leI, nI_ltI, nI_eq, nI_1, divR, remR, shl1, htk, h2, t2, rI_s, rJ_s, rI_n, rJ_n, rI_wJ, rJ_wI]; with_reducible rfl) | with_reducible rfl))) | ((with_reducible refine e_stJV (v2 := ?_) ?hO ?hV ?_); (case hO => (with_reducible first | assumption | exact gO)); (case hV => (first | (simp (disch := omega) only [leL, leR, ltL, ltR, eqR, eqL, mulL, addR, subR, clL, inL, nI_add, pk_mul, pk_sub, inb_nI, nI_clamp, nI_leI, nI_ltI, nI_eq, nI_1, divR, remR, shl1, htk, h2, t2, rI_s, rJ_s, rI_n, rJ_n, rI_wJ, rJ_wI]; with_reducible rfl) | with_reducible rfl))) | ((with_reducible refine e_stZ ?hO ?hZ ?_); (case hO => (with_reducible first | assumption | exact gO)); (case hZ => (first | exact Or.inl rfl | exact Or.inr rfl | exact b2_01 _ | assumption))) | ((with_reducible refine e_alIV (j := ?_) (n := ?_) (v := ?_) ?hA ?hI ?hB ?hV ?_); (case hA => (with_reducible first | assumption | exact gA3 | exact gA4 | exact gA6 | exact gA9 | exact gA10 | exact gA11)); (case hI => (first | with_reducible rfl | with_reducible exact litn _ | (simp (disch := omega) only [leL, leR, ltL, ltR, eqR, eqL, mulL, addR, subR, clL, inL, nI_add, pk_mul, pk_sub, inb_nI, nI_clamp, nI_leI, nI_ltI, nI_eq, nI_1, divR, remR, shl1, htk, h2, t2, rI_s, rJ_s, rI_n, rJ_n, rI_wJ, rJ_wI]; with_reducible rfl))); (case hB => (omega)); (case hV => (first | (simp (disch := omega) only [leL, leR, ltL, ltR, eqR, eqL, mulL, addR, subR, clL, inL, nI_add, pk_mul, pk_sub, inb_nI, nI_clamp, nI_leI, nI_ltI, nI_eq, nI_1, divR, remR, shl1, htk, h2, t2, rI_s, rJ_s, rI_n, rJ_n, rI_wJ, rJ_wI]; with_reducible rfl) | with_reducible rfl))) | ((with_reducible refine e_alJV (j := ?_) (n := ?_) (v := ?_) ?hA ?hI ?hB ?hV ?_); (case hA => (with_reducible first | assumption | exact gA3 | exact gA4 | exact gA6 | exact gA9 | exact gA10 | exact gA11)); (case hI => (first | with_reducible rfl | with_reducible exact litn _ | (simp (disch := omega) only [leL, leR, ltL, ltR, eqR, eqL, mulL, addR, subR, clL, inL, nI_add, pk_mul, pk_sub, inb_nI, nI_clamp, nI_leI, nI_ltI, nI_eq, nI_1, divR, remR, shl1, htk, h2, t2, rI_s, rJ_s, rI_n, rJ_n, rI_wJ, rJ_wI]; with_reducible rfl))); (case hB => (omega)); (case hV => (first | (simp (disch := omega) only [leL, leR, ltL, ltR, eqR, eqL, mulL, addR, subR, clL, inL, nI_add, pk_mul, pk_sub, inb_nI, nI_clamp, nI_leI, nI_ltI, nI_eq, nI_1, divR, remR, shl1, htk, h2, t2, rI_s, rJ_s, rI_n, rJ_n, rI_wJ, rJ_wI]; with_reducible rfl) | with_reducible rfl))) | ((with_reducible refine e_alZV (j := ?_) (n := ?_) (v := ?_) ?hA ?hI ?hB ?hV ?_); (case hA => (with_reducible first | assumption | exact gA3 | exact gA4 | exact gA6 | exact gA9 | exact gA10 | exact gA11)); (case hI => (first | with_reducible rfl | with_reducible exact litn _ | (simp (disch := omega) only [leL, leR, ltL, ltR, eqR, eqL, mulL, addR, subR, clL, inL, nI_add, pk_mul, pk_sub, inb_nI, nI_clamp, nI_leI, nI_ltI, nI_eq, nI_1, divR, remR, shl1, htk, h2, t2, rI_s, rJ_s, rI_n, rJ_n, rI_wJ, rJ_wI]; with_reducible rfl))); (case hB => (omega)); (case hV => (first | (simp (disch := omega) only [leL, leR, ltL, ltR, eqR, eqL, mulL, addR, subR, clL, inL, nI_add, pk_mul, pk_sub, inb_nI, nI_clamp, nI_leI, nI_ltI, nI_eq, nI_1, divR, remR, shl1, htk, h2, t2, rI_s, rJ_s, rI_n, rJ_n, rI_wJ, rJ_wI]; with_reducible rfl) | with_reducible rfl))) | ((with_reducible refine e_asIV (j := ?_) (n := ?_) (v2 := ?_) ?hA ?hI ?hB ?hV ?_); (case hA => (with_reducible first | assumption | exact gA3 | exact gA4 | exact gA6 | exact gA9 | exact gA10 | exact gA11)); (case hI => (first | with_reducible rfl | with_reducible exact litn _ | (simp (disch := omega) only [leL, leR, ltL, ltR, eqR, eqL, mulL, addR, subR, clL, inL, nI_add, pk_mul, pk_sub, inb_nI, nI_clamp, nI_leI, nI_ltI, nI_eq, nI_1, divR, remR, shl1, htk, h2, t2, rI_s, rJ_s, rI_n, rJ_n, rI_wJ, rJ_wI]; with_reducible rfl))); (case hB => (omega)); (case hV => (first | (simp (disch := omega) only [leL, leR, ltL, ltR, eqR, eqL, mulL, addR, subR, clL, inL, nI_add, pk_mul, pk_sub, inb_nI, nI_clamp, nI_leI, nI_ltI, nI_eq, nI_1, divR, remR, shl1, htk, h2, t2, rI_s, rJ_s, rI_n, rJ_n, rI_wJ, rJ_wI]; with_reducible rfl) | with_reducible rfl))) | ((with_reducible refine e_asJV (j := ?_) (n := ?_) (v2 := ?_) ?hA ?hI ?hB ?hV ?_); (case hA => (with_reducible first | assumption | exact gA3 | exact gA4 | exact gA6 | exact gA9 | exact gA10 | exact gA11)); (case hI => (first | with_reducible rfl | with_reducible exact litn _ | (simp (disch := omega) only [leL, leR, ltL, ltR, eqR, eqL, mulL, addR, subR, clL, inL, nI_add, pk_mul, pk_sub, inb_nI, nI_clamp, nI_leI, nI_ltI, nI_eq, nI_1, divR, remR, shl1, htk, h2, t2, rI_s, rJ_s, rI_n, rJ_n, rI_wJ, rJ_wI]; with_reducible rfl))); (case hB => (omega)); (case hV => (first | (simp (disch := omega) only [leL, leR, ltL, ltR, eqR, eqL, mulL, addR, subR, clL, inL, nI_add, pk_mul, pk_sub, inb_nI, nI_clamp, nI_leI, nI_ltI, nI_eq, nI_1, divR, remR, shl1, htk, h2, t2, rI_s, rJ_s, rI_n, rJ_n, rI_wJ, rJ_wI]; with_reducible rfl) | with_reducible rfl))) | ((with_reducible refine e_asZ (j := ?_) (n := ?_) ?hA ?hI ?hB ?hZ ?_); (case hA => (with_reducible first | assumption | exact gA3 | exact gA4 | exact gA6 | exact gA9 | exact gA10 | exact gA11)); (case hI => (first | with_reducible rfl | with_reducible exact litn _ | (simp (disch := omega) only [leL, leR, ltL, ltR, eqR, eqL, mulL, addR, subR, clL, inL, nI_add, pk_mul, pk_sub, inb_nI, nI_clamp, nI_leI, nI_ltI, nI_eq, nI_1, divR, remR, shl1, htk, h2, t2, rI_s, rJ_s, rI_n, rJ_n, rI_wJ, rJ_wI]; with_reducible rfl))); (case hB => (omega)); (case hZ => (first | exact Or.inl rfl | exact Or.inr rfl | exact b2_01 _ | assumption))) | ((with_reducible refine e_nzI ?hZ ?_); (case hZ => (first | decide | assumption))) | ((with_reducible refine e_nzJ ?hZ ?_); (case hZ => (first | decide | assumption))) | ((with_reducible refine e_t ?hC ?_); (case hC => (first | assumption | decide | (simp (disch := omega) only [leL, leR, ltL, ltR, eqR, eqL, mulL, addR, subR, clL, inL, nI_add, pk_mul, pk_sub, inb_nI, nI_clamp, nI_leI, nI_ltI, nI_eq, nI_1, divR, remR, shl1, htk, h2, t2, rI_s, rJ_s, rI_n, rJ_n, rI_wJ, rJ_wI, b2_0, b2_1, lg_cmp_ge, lg_cmp_le, lg_cmp_gt, lg_cmp_lt, lg_cmp_eq]; first | done | omega) | omega))) | ((with_reducible refine e_f ?hC ?_); (case hC => (first | assumption | decide | (simp (disch := omega) only [leL, leR, ltL, ltR, eqR, eqL, mulL, addR, subR, clL, inL, nI_add, pk_mul, pk_sub, inb_nI, nI_clamp, nI_leI, nI_ltI, nI_eq, nI_1, divR, remR, shl1, htk, h2, t2, rI_s, rJ_s, rI_n, rJ_n, rI_wJ, rJ_wI, b2_0, b2_1, lg_cmp_ge, lg_cmp_le, lg_cmp_gt, lg_cmp_lt, lg_cmp_eq]; first | done | omega) | omega))))
      rfl
    · refine ((Fr.rf.sI ?_).sI ?_).sI ?_
      · exact Or.inr (Or.inr (Or.inl rfl))
      · exact Or.inr (Or.inr (Or.inr ⟨rfl, rfl⟩))
      · exact Or.inr (Or.inl rfl)
    · refine ⟨fun j hj => ?_, ?_, fun j hj => ?_⟩
      · by_cases z : j = k
        · rw [z, rI_s, tl_s hfe]
        · rw [rI_n _ _ (by omega), rI_n _ _ (by omega), rI_n _ _ (by omega), tl_n (by rw [hfe]; intro w; cases w; exact z rfl)]
          exact t1 j hj
      · rw [rI_n _ _ (by omega), rI_s, fcm, hfe]
        show nI _ = nI (if tl f k e = 0 then _ else _ : Nat × (Nat → Nat)).1
        rw [if_pos h0]
      · rw [rI_n _ _ (by omega), rI_n _ _ (by omega)]
        rw [fcm, hfe] at hj ⊢
        have hj : j < (if tl f k e = 0 then ((fcm f e).1 + 1, fun j => if j = (fcm f e).1 then k else (fcm f e).2 j) else fcm f e : Nat × (Nat → Nat)).1 := hj
        show _ = nI ((if tl f k e = 0 then ((fcm f e).1 + 1, fun j => if j = (fcm f e).1 then k else (fcm f e).2 j) else fcm f e : Nat × (Nat → Nat)).2 j)
        rw [if_pos h0] at hj ⊢
        have hj : j < (fcm f e).1 + 1 := hj
        show _ = nI (if j = (fcm f e).1 then k else (fcm f e).2 j)
        by_cases z : j = (fcm f e).1
        · rw [z, rI_s, if_pos rfl]
        · rw [rI_n _ _ (by omega), if_neg z]
          exact t3 j (by omega)
  · refine ⟨wI m (aTa q) k (nI (tl f k e + 1)), ?_, Fr.rf.sI (Or.inr (Or.inl rfl)), ?_⟩
    · repeat (first | ((with_reducible refine e_nmV (e2 := ?_) ?hV ?_); (case hV => (first | (simp (disch := omega) only [leL, leR, ltL, ltR, eqR, eqL, mulL, addR, subR, clL, inL, nI_add, pk_mul, pk_sub, inb_nI, nI_clamp, nI_leI, nI_ltI, nI_eq, nI_1, divR, remR, shl1, htk, h2, t2, rI_s, rJ_s, rI_n, rJ_n, rI_wJ, rJ_wI]; with_reducible rfl) | with_reducible rfl))) | ((with_reducible refine e_rcv ?hO ?_); (case hO => (with_reducible first | assumption | exact gO))) | (with_reducible refine Eq.trans u_J_X1_tally_130 ?_) | (with_reducible refine Eq.trans u_J_X1_tally_119 ?_) | (with_reducible refine Eq.trans u_J_X1_tally_66 ?_) | (with_reducible refine Eq.trans u_H_X1_tally_34 ?_) | (with_reducible refine Eq.trans u_H_X1_tally_8 ?_) | (with_reducible refine Eq.trans u_F_X1_tally ?_) | ((with_reducible refine e_ldIV (v := ?_) ?hO ?hV ?_); (case hO => (with_reducible first | assumption | exact gO)); (case hV => (first | (simp (disch := omega) only [leL, leR, ltL, ltR, eqR, eqL, mulL, addR, subR, clL, inL, nI_add, pk_mul, pk_sub, inb_nI, nI_clamp, nI_leI, nI_ltI, nI_eq, nI_1, divR, remR, shl1, htk, h2, t2, rI_s, rJ_s, rI_n, rJ_n, rI_wJ, rJ_wI]; with_reducible rfl) | with_reducible rfl))) | ((with_reducible refine e_ldJV (v := ?_) ?hO ?hV ?_); (case hO => (with_reducible first | assumption | exact gO)); (case hV => (first | (simp (disch := omega) only [leL, leR, ltL, ltR, eqR, eqL, mulL, addR, subR, clL, inL, nI_add, pk_mul, pk_sub, inb_nI, nI_clamp, nI_leI, nI_ltI, nI_eq, nI_1, divR, remR, shl1, htk, h2, t2, rI_s, rJ_s, rI_n, rJ_n, rI_wJ, rJ_wI]; with_reducible rfl) | with_reducible rfl))) | ((with_reducible refine e_ldR (r := ?_) ?hO ?hR ?_); (case hO => (with_reducible first | assumption | exact gO)); (case hR => (with_reducible first | assumption | exact gR3 | exact gR4 | exact gR5 | exact gR6 | exact gR7 | exact gR8 | exact gR9 | exact gR10 | exact gR11))) | ((with_reducible refine e_stIV (v2 := ?_) ?hO ?hV ?_); (case hO => (with_reducible first | assumption | exact gO)); (case hV => (first | (simp (disch := omega) only [leL, leR, ltL, ltR, eqR, eqL, mulL, addR, subR, clL, inL, nI_add, pk_mul, pk_sub, inb_nI, nI_clamp, nI_leI, nI_ltI, nI_eq, nI_1, divR, remR, shl1, htk, h2, t2, rI_s, rJ_s, rI_n, rJ_n, rI_wJ, rJ_wI]; with_reducible rfl) | with_reducible rfl))) | ((with_reducible refine e_stJV (v2 := ?_) ?hO ?hV ?_); (case hO => (with_reducible first | assumption | exact gO)); (case hV => (first | (simp (disch := omega) only [leL, leR, ltL, ltR, eqR, eqL, mulL, addR, subR, clL, inL, nI_add, pk_mul, pk_sub, inb_nI, nI_clamp, nI_leI, nI_ltI, nI_eq, nI_1, divR, remR, shl1, htk, h2, t2, rI_s, rJ_s, rI_n, rJ_n, rI_wJ, rJ_wI]; with_reducible rfl) | with_reducible rfl))) | ((with_reducible refine e_stZ ?hO ?hZ ?_); (case hO => (with_reducible first | assumption | exact gO)); (case hZ => (first | exact Or.inl rfl | exact Or.inr rfl | exact b2_01 _ | assumption))) | ((with_reducible refine e_alIV (j := ?_) (n := ?_) (v := ?_) ?hA ?hI ?hB ?hV ?_); (case hA => (with_reducible first | assumption | exact gA3 | exact gA4 | exact gA6 | exact gA9 | exact gA10 | exact gA11)); (case hI => (first | with_reducible rfl | with_reducible exact litn _ | (simp (disch := omega) only [leL, leR, ltL, ltR, eqR, eqL, mulL, addR, subR, clL, inL, nI_add, pk_mul, pk_sub, inb_nI, nI_clamp, nI_leI, nI_ltI, nI_eq, nI_1, divR, remR, shl1, htk, h2, t2, rI_s, rJ_s, rI_n, rJ_n, rI_wJ, rJ_wI]; with_reducible rfl))); (case hB => (omega)); (case hV => (first | (simp (disch := omega) only [leL, leR, ltL, ltR, eqR, eqL, mulL, addR, subR, clL, inL, nI_add, pk_mul, pk_sub, inb_nI, nI_clamp, nI_leI, nI_ltI, nI_eq, nI_1, divR, remR, shl1, htk, h2, t2, rI_s, rJ_s, rI_n, rJ_n, rI_wJ, rJ_wI]; with_reducible rfl) | with_reducible rfl))) | ((with_reducible refine e_alJV (j := ?_) (n := ?_) (v := ?_) ?hA ?hI ?hB ?hV ?_); (case hA => (with_reducible first | assumption | exact gA3 | exact gA4 | exact gA6 | exact gA9 | exact gA10 | exact gA11)); (case hI => (first | with_reducible rfl | with_reducible exact litn _ | (simp (disch := omega) only [leL, leR, ltL, ltR, eqR, eqL, mulL, addR, subR, clL, inL, nI_add, pk_mul, pk_sub, inb_nI, nI_clamp, nI_leI, nI_ltI, nI_eq, nI_1, divR, remR, shl1, htk, h2, t2, rI_s, rJ_s, rI_n, rJ_n, rI_wJ, rJ_wI]; with_reducible rfl))); (case hB => (omega)); (case hV => (first | (simp (disch := omega) only [leL, leR, ltL, ltR, eqR, eqL, mulL, addR, subR, clL, inL, nI_add, pk_mul, pk_sub, inb_nI, nI_clamp, nI_leI, nI_ltI, nI_eq, nI_1, divR, remR, shl1, htk, h2, t2, rI_s, rJ_s, rI_n, rJ_n, rI_wJ, rJ_wI]; with_reducible rfl) | with_reducible rfl))) | ((with_reducible refine e_alZV (j := ?_) (n := ?_) (v := ?_) ?hA ?hI ?hB ?hV ?_); (case hA => (with_reducible first | assumption | exact gA3 | exact gA4 | exact gA6 | exact gA9 | exact gA10 | exact gA11)); (case hI => (first | with_reducible rfl | with_reducible exact litn _ | (simp (disch := omega) only [leL, leR, ltL, ltR, eqR, eqL, mulL, addR, subR, clL, inL, nI_add, pk_mul, pk_sub, inb_nI, nI_clamp, nI_leI, nI_ltI, nI_eq, nI_1, divR, remR, shl1, htk, h2, t2, rI_s, rJ_s, rI_n, rJ_n, rI_wJ, rJ_wI]; with_reducible rfl))); (case hB => (omega)); (case hV => (first | (simp (disch := omega) only [leL, leR, ltL, ltR, eqR, eqL, mulL, addR, subR, clL, inL, nI_add, pk_mul, pk_sub, inb_nI, nI_clamp, nI_leI, nI_ltI, nI_eq, nI_1, divR, remR, shl1, htk, h2, t2, rI_s, rJ_s, rI_n, rJ_n, rI_wJ, rJ_wI]; with_reducible rfl) | with_reducible rfl))) | ((with_reducible refine e_asIV (j := ?_) (n := ?_) (v2 := ?_) ?hA ?hI ?hB ?hV ?_); (case hA => (with_reducible first | assumption | exact gA3 | exact gA4 | exact gA6 | exact gA9 | exact gA10 | exact gA11)); (case hI => (first | with_reducible rfl | with_reducible exact litn _ | (simp (disch := omega) only [leL, leR, ltL, ltR, eqR, eqL, mulL, addR, subR, clL, inL, nI_add, pk_mul, pk_sub, inb_nI, nI_clamp, nI_leI, nI_ltI, nI_eq, nI_1, divR, remR, shl1, htk, h2, t2, rI_s, rJ_s, rI_n, rJ_n, rI_wJ, rJ_wI]; with_reducible rfl))); (case hB => (omega)); (case hV => (first | (simp (disch := omega) only [leL, leR, ltL, ltR, eqR, eqL, mulL, addR, subR, clL, inL, nI_add, pk_mul, pk_sub, inb_nI, nI_clamp, nI_leI, nI_ltI, nI_eq, nI_1, divR, remR, shl1, htk, h2, t2, rI_s, rJ_s, rI_n, rJ_n, rI_wJ, rJ_wI]; with_reducible rfl) | with_reducible rfl))) | ((with_reducible refine e_asJV (j := ?_) (n := ?_) (v2 := ?_) ?hA ?hI ?hB ?hV ?_); (case hA => (with_reducible first | assumption | exact gA3 | exact gA4 | exact gA6 | exact gA9 | exact gA10 | exact gA11)); (case hI => (first | with_reducible rfl | with_reducible exact litn _ | (simp (disch := omega) only [leL, leR, ltL, ltR, eqR, eqL, mulL, addR, subR, clL, inL, nI_add, pk_mul, pk_sub, inb_nI, nI_clamp, nI_leI, nI_ltI, nI_eq, nI_1, divR, remR, shl1, htk, h2, t2, rI_s, rJ_s, rI_n, rJ_n, rI_wJ, rJ_wI]; with_reducible rfl))); (case hB => (omega)); (case hV => (first | (simp (disch := omega) only [leL, leR, ltL, ltR, eqR, eqL, mulL, addR, subR, clL, inL, nI_add, pk_mul, pk_sub, inb_nI, nI_clamp, nI_leI, nI_ltI, nI_eq, nI_1, divR, remR, shl1, htk, h2, t2, rI_s, rJ_s, rI_n, rJ_n, rI_wJ, rJ_wI]; with_reducible rfl) | with_reducible rfl))) | ((with_reducible refine e_asZ (j := ?_) (n := ?_) ?hA ?hI ?hB ?hZ ?_); (case hA => (with_reducible first | assumption | exact gA3 | exact gA4 | exact gA6 | exact gA9 | exact gA10 | exact gA11)); (case hI => (first | with_reducible rfl | with_reducible exact litn _ | (simp (disch := omega) only [leL, leR, ltL, ltR, eqR, eqL, mulL, addR, subR, clL, inL, nI_add, pk_mul, pk_sub, inb_nI, nI_clamp, nI_leI, nI_ltI, nI_eq, nI_1, divR, remR, shl1, htk, h2, t2, rI_s, rJ_s, rI_n, rJ_n, rI_wJ, rJ_wI]; with_reducible rfl))); (case hB => (omega)); (case hZ => (first | exact Or.inl rfl | exact Or.inr rfl | exact b2_01 _ | assumption))) | ((with_reducible refine e_nzI ?hZ ?_); (case hZ => (first | decide | assumption))) | ((with_reducible refine e_nzJ ?hZ ?_); (case hZ => (first | decide | assumption))) | ((with_reducible refine e_t ?hC ?_); (case hC => (first | assumption | decide | (simp (disch := omega) only [leL, leR, ltL, ltR, eqR, eqL, mulL, addR, subR, clL, inL, nI_add, pk_mul, pk_sub, inb_nI, nI_clamp, nI_leI, nI_ltI, nI_eq, nI_1, divR, remR, shl1, htk, h2, t2, rI_s, rJ_s, rI_n, rJ_n, rI_wJ, rJ_wI, b2_0, b2_1, lg_cmp_ge, lg_cmp_le, lg_cmp_gt, lg_cmp_lt, lg_cmp_eq]; first | done | omega) | omega))) | ((with_reducible refine e_f ?hC ?_); (case hC => (first | assumption | decide | (simp (disch := omega) only [leL, leR, ltL, ltR, eqR, eqL, mulL, addR, subR, clL, inL, nI_add, pk_mul, pk_sub, inb_nI, nI_clamp, nI_leI, nI_ltI, nI_eq, nI_1, divR, remR, shl1, htk, h2, t2, rI_s, rJ_s, rI_n, rJ_n, rI_wJ, rJ_wI, b2_0, b2_1, lg_cmp_ge, lg_cmp_le, lg_cmp_gt, lg_cmp_lt, lg_cmp_eq]; first | done | omega) | omega))))
      rfl
    · have e1 : fcm f (e + 1) = fcm f e := by
        rw [fcm, hfe]
        exact if_neg h0
      refine ⟨fun j hj => ?_, ?_, fun j hj => ?_⟩
      · by_cases z : j = k
        · rw [z, rI_s, tl_s hfe]
        · rw [rI_n _ _ (by omega), tl_n (by rw [hfe]; intro w; cases w; exact z rfl)]
          exact t1 j hj
      · rw [rI_n _ _ (by omega), e1]; exact t2
      · rw [e1] at hj ⊢
        rw [rI_n _ _ (by omega)]; exact t3 j hj
theorem c_tally_l {q : Bool} {nn size : Nat} {r : Nat → Nat} {root : Option Nat} (hN : 100 ≤ N) (hq : q = root.isSome) (hr : ∀ x, root = some x → x < nn) (hs1 : sh_ q ≤ size) (hs2 : size ≤ 4) : ∀ (d e n : Nat) (m : vM), e + d = 2 ^ nn → d < n → Tab m → NetIs m 286 nn r → TaS q (fN q nn r root size) e m →
    ∃ m', H_X1_tally_34 N n (fo q) 286 (rt root) (nI size) (nI e) (S m) = some ((), S m') ∧ Fr (taP q) m m' ∧ TaS q (fN q nn r root size) (2 ^ nn) m'
  | _, _, 0, _, _, h, _, _, _ => by omega
  | 0, e, n + 1, m, he, _, hT, hn, ht => by
    obtain ⟨h1, h2, h3⟩ := hn
    have h8 : (2 : Nat) ^ nn ≤ 2 ^ 8 := Nat.pow_le_pow_right (by decide) h2
    have o := net286.o
    refine ⟨m, ?_, Fr.rf, by rw [← he]; exact ht⟩
    repeat (first | ((with_reducible refine e_nmV (e2 := ?_) ?hV ?_); (case hV => (first | (simp (disch := omega) only [leL, leR, ltL, ltR, eqR, eqL, mulL, addR, subR, clL, inL, nI_add, pk_mul, pk_sub, inb_nI, nI_clamp, nI_leI, nI_ltI, nI_eq, nI_1, divR, remR, shl1, h1, rI_s, rJ_s, rI_n, rJ_n, rI_wJ, rJ_wI]; with_reducible rfl) | with_reducible rfl))) | ((with_reducible refine e_rcv ?hO ?_); (case hO => (with_reducible first | assumption | exact gO))) | (with_reducible refine Eq.trans u_J_X1_tally_130 ?_) | (with_reducible refine Eq.trans u_J_X1_tally_119 ?_) | (with_reducible refine Eq.trans u_J_X1_tally_66 ?_) | (with_reducible refine Eq.trans u_H_X1_tally_34 ?_) | (with_reducible refine Eq.trans u_H_X1_tally_8 ?_) | (with_reducible refine Eq.trans u_F_X1_tally ?_) | ((with_reducible refine e_ldIV (v := ?_) ?hO ?hV ?_); (case hO => (with_reducible first | assumption | exact gO)); (case hV => (first | (simp (disch := omega) only [leL, leR, ltL, ltR, eqR, eqL, mulL, addR, subR, clL, inL, nI_add, pk_mul, pk_sub, inb_nI, nI_clamp, nI_leI, nI_ltI, nI_eq, nI_1, divR, remR, shl1, h1, rI_s, rJ_s, rI_n, rJ_n, rI_wJ, rJ_wI]; with_reducible rfl) | with_reducible rfl))) | ((with_reducible refine e_ldJV (v := ?_) ?hO ?hV ?_); (case hO => (with_reducible first | assumption | exact gO)); (case hV => (first | (simp (disch := omega) only [leL, leR, ltL, ltR, eqR, eqL, mulL, addR, subR, clL, inL, nI_add, pk_mul, pk_sub, inb_nI, nI_clamp, nI_leI, nI_ltI, nI_eq, nI_1, divR, remR, shl1, h1, rI_s, rJ_s, rI_n, rJ_n, rI_wJ, rJ_wI]; with_reducible rfl) | with_reducible rfl))) | ((with_reducible refine e_ldR (r := ?_) ?hO ?hR ?_); (case hO => (with_reducible first | assumption | exact gO)); (case hR => (with_reducible first | assumption | exact gR3 | exact gR4 | exact gR5 | exact gR6 | exact gR7 | exact gR8 | exact gR9 | exact gR10 | exact gR11))) | ((with_reducible refine e_stIV (v2 := ?_) ?hO ?hV ?_); (case hO => (with_reducible first | assumption | exact gO)); (case hV => (first | (simp (disch := omega) only [leL, leR, ltL, ltR, eqR, eqL, mulL, addR, subR, clL, inL, nI_add, pk_mul, pk_sub, inb_nI, nI_clamp, nI_leI, nI_ltI, nI_eq, nI_1, divR, remR, shl1, h1, rI_s, rJ_s, rI_n, rJ_n, rI_wJ, rJ_wI]; with_reducible rfl) | with_reducible rfl))) | ((with_reducible refine e_stJV (v2 := ?_) ?hO ?hV ?_); (case hO => (with_reducible first | assumption | exact gO)); (case hV => (first | (simp (disch := omega) only [leL, leR, ltL, ltR, eqR, eqL, mulL, addR, subR, clL, inL, nI_add, pk_mul, pk_sub, inb_nI, nI_clamp, nI_leI, nI_ltI, nI_eq, nI_1, divR, remR, shl1, h1, rI_s, rJ_s, rI_n, rJ_n, rI_wJ, rJ_wI]; with_reducible rfl) | with_reducible rfl))) | ((with_reducible refine e_stZ ?hO ?hZ ?_); (case hO => (with_reducible first | assumption | exact gO)); (case hZ => (first | exact Or.inl rfl | exact Or.inr rfl | exact b2_01 _ | assumption))) | ((with_reducible refine e_alIV (j := ?_) (n := ?_) (v := ?_) ?hA ?hI ?hB ?hV ?_); (case hA => (with_reducible first | assumption | exact gA3 | exact gA4 | exact gA6 | exact gA9 | exact gA10 | exact gA11)); (case hI => (first | with_reducible rfl | with_reducible exact litn _ | (simp (disch := omega) only [leL, leR, ltL, ltR, eqR, eqL, mulL, addR, subR, clL, inL, nI_add, pk_mul, pk_sub, inb_nI, nI_clamp, nI_leI, nI_ltI, nI_eq, nI_1, divR, remR, shl1, h1, rI_s, rJ_s, rI_n, rJ_n, rI_wJ, rJ_wI]; with_reducible rfl))); (case hB => (omega)); (case hV => (first | (simp (disch := omega) only [leL, leR, ltL, ltR, eqR, eqL, mulL, addR, subR, clL, inL, nI_add, pk_mul, pk_sub, inb_nI, nI_clamp, nI_leI, nI_ltI, nI_eq, nI_1, divR, remR, shl1, h1, rI_s, rJ_s, rI_n, rJ_n, rI_wJ, rJ_wI]; with_reducible rfl) | with_reducible rfl))) | ((with_reducible refine e_alJV (j := ?_) (n := ?_) (v := ?_) ?hA ?hI ?hB ?hV ?_); (case hA => (with_reducible first | assumption | exact gA3 | exact gA4 | exact gA6 | exact gA9 | exact gA10 | exact gA11)); (case hI => (first | with_reducible rfl | with_reducible exact litn _ | (simp (disch := omega) only [leL, leR, ltL, ltR, eqR, eqL, mulL, addR, subR, clL, inL, nI_add, pk_mul, pk_sub, inb_nI, nI_clamp, nI_leI, nI_ltI, nI_eq, nI_1, divR, remR, shl1, h1, rI_s, rJ_s, rI_n, rJ_n, rI_wJ, rJ_wI]; with_reducible rfl))); (case hB => (omega)); (case hV => (first | (simp (disch := omega) only [leL, leR, ltL, ltR, eqR, eqL, mulL, addR, subR, clL, inL, nI_add, pk_mul, pk_sub, inb_nI, nI_clamp, nI_leI, nI_ltI, nI_eq, nI_1, divR, remR, shl1, h1, rI_s, rJ_s, rI_n, rJ_n, rI_wJ, rJ_wI]; with_reducible rfl) | with_reducible rfl))) | ((with_reducible refine e_alZV (j := ?_) (n := ?_) (v := ?_) ?hA ?hI ?hB ?hV ?_); (case hA => (with_reducible first | assumption | exact gA3 | exact gA4 | exact gA6 | exact gA9 | exact gA10 | exact gA11)); (case hI => (first | with_reducible rfl | with_reducible exact litn _ | (simp (disch := omega) only [leL, leR, ltL, ltR, eqR, eqL, mulL, addR, subR, clL, inL, nI_add, pk_mul, pk_sub, inb_nI, nI_clamp, nI_leI, nI_ltI, nI_eq, nI_1, divR, remR, shl1, h1, rI_s, rJ_s, rI_n, rJ_n, rI_wJ, rJ_wI]; with_reducible rfl))); (case hB => (omega)); (case hV => (first | (simp (disch := omega) only [leL, leR, ltL, ltR, eqR, eqL, mulL, addR, subR, clL, inL, nI_add, pk_mul, pk_sub, inb_nI, nI_clamp, nI_leI, nI_ltI, nI_eq, nI_1, divR, remR, shl1, h1, rI_s, rJ_s, rI_n, rJ_n, rI_wJ, rJ_wI]; with_reducible rfl) | with_reducible rfl))) | ((with_reducible refine e_asIV (j := ?_) (n := ?_) (v2 := ?_) ?hA ?hI ?hB ?hV ?_); (case hA => (with_reducible first | assumption | exact gA3 | exact gA4 | exact gA6 | exact gA9 | exact gA10 | exact gA11)); (case hI => (first | with_reducible rfl | with_reducible exact litn _ | (simp (disch := omega) only [leL, leR, ltL, ltR, eqR, eqL, mulL, addR, subR, clL, inL, nI_add, pk_mul, pk_sub, inb_nI, nI_clamp, nI_leI, nI_ltI, nI_eq, nI_1, divR, remR, shl1, h1, rI_s, rJ_s, rI_n, rJ_n, rI_wJ, rJ_wI]; with_reducible rfl))); (case hB => (omega)); (case hV => (first | (simp (disch := omega) only [leL, leR, ltL, ltR, eqR, eqL, mulL, addR, subR, clL, inL, nI_add, pk_mul, pk_sub, inb_nI, nI_clamp, nI_leI, nI_ltI, nI_eq, nI_1, divR, remR, shl1, h1, rI_s, rJ_s, rI_n, rJ_n, rI_wJ, rJ_wI]; with_reducible rfl) | with_reducible rfl))) | ((with_reducible refine e_asJV (j := ?_) (n := ?_) (v2 := ?_) ?hA ?hI ?hB ?hV ?_); (case hA => (with_reducible first | assumption | exact gA3 | exact gA4 | exact gA6 | exact gA9 | exact gA10 | exact gA11)); (case hI => (first | with_reducible rfl | with_reducible exact litn _ | (simp (disch := omega) only [leL, leR, ltL, ltR, eqR, eqL, mulL, addR, subR, clL, inL, nI_add, pk_mul, pk_sub, inb_nI, nI_clamp, nI_leI, nI_ltI, nI_eq, nI_1, divR, remR, shl1, h1, rI_s, rJ_s, rI_n, rJ_n, rI_wJ, rJ_wI]; with_reducible rfl))); (case hB => (omega)); (case hV => (first | (simp (disch := omega) only [leL, leR, ltL, ltR, eqR, eqL, mulL, addR, subR, clL, inL, nI_add, pk_mul, pk_sub, inb_nI, nI_clamp, nI_leI, nI_ltI, nI_eq, nI_1, divR, remR, shl1, h1, rI_s, rJ_s, rI_n, rJ_n, rI_wJ, rJ_wI]; with_reducible rfl) | with_reducible rfl))) | ((with_reducible refine e_asZ (j := ?_) (n := ?_) ?hA ?hI ?hB ?hZ ?_); (case hA => (with_reducible first | assumption | exact gA3 | exact gA4 | exact gA6 | exact gA9 | exact gA10 | exact gA11)); (case hI => (first | with_reducible rfl | with_reducible exact litn _ | (simp (disch := omega) only [leL, leR, ltL, ltR, eqR, eqL, mulL, addR, subR, clL, inL, nI_add, pk_mul, pk_sub, inb_nI, nI_clamp, nI_leI, nI_ltI, nI_eq, nI_1, divR, remR, shl1, h1, rI_s, rJ_s, rI_n, rJ_n, rI_wJ, rJ_wI]; with_reducible rfl))); (case hB => (omega)); (case hZ => (first | exact Or.inl rfl | exact Or.inr rfl | exact b2_01 _ | assumption))) | ((with_reducible refine e_nzI ?hZ ?_); (case hZ => (first | decide | assumption))) | ((with_reducible refine e_nzJ ?hZ ?_); (case hZ => (first | decide | assumption))) | ((with_reducible refine e_t ?hC ?_); (case hC => (first | assumption | decide | (simp (disch := omega) only [leL, leR, ltL, ltR, eqR, eqL, mulL, addR, subR, clL, inL, nI_add, pk_mul, pk_sub, inb_nI, nI_clamp, nI_leI, nI_ltI, nI_eq, nI_1, divR, remR, shl1, h1, rI_s, rJ_s, rI_n, rJ_n, rI_wJ, rJ_wI, b2_0, b2_1, lg_cmp_ge, lg_cmp_le, lg_cmp_gt, lg_cmp_lt, lg_cmp_eq]; first | done | omega) | omega))) | ((with_reducible refine e_f ?hC ?_); (case hC => (first | assumption | decide | (simp (disch := omega) only [leL, leR, ltL, ltR, eqR, eqL, mulL, addR, subR, clL, inL, nI_add, pk_mul, pk_sub, inb_nI, nI_clamp, nI_leI, nI_ltI, nI_eq, nI_1, divR, remR, shl1, h1, rI_s, rJ_s, rI_n, rJ_n, rI_wJ, rJ_wI, b2_0, b2_1, lg_cmp_ge, lg_cmp_le, lg_cmp_gt, lg_cmp_lt, lg_cmp_eq]; first | done | omega) | omega))))
    rfl
  | d + 1, e, n + 1, m, he, hd, hT, hn, ht => by
    obtain ⟨h1, h2, h3⟩ := id hn
    have h8 : (2 : Nat) ^ nn ≤ 2 ^ 8 := Nat.pow_le_pow_right (by decide) h2
    have o := net286.o
    have hpe := pop_le e
    have nx : ∀ m1, Fr (taP q) m m1 → TaS q (fN q nn r root size) (e + 1) m1 → ∀ R, R = H_X1_tally_34 N n (fo q) 286 (rt root) (nI size) (nI (e + 1)) (S m1) → (∃ m', R = some ((), S m') ∧ Fr (taP q) m m' ∧ TaS q (fN q nn r root size) (2 ^ nn) m') := by
      intro m1 f1 t1 R hR
      obtain ⟨m', g1, g2, g3⟩ := c_tally_l hN hq hr hs1 hs2 d (e + 1) n m1 (by omega) (by omega) (hT.fr (fun b j hb => f1 b j (taP_tab hb))) (by
        have ha := adr q
        exact ⟨by rw [f1.i (by unfold taP; omega)]; exact h1, h2, fun i hi => by rw [f1.i (by unfold taP; omega)]; exact h3 i hi⟩) t1
      exact ⟨m', hR.trans g1, f1.tr g2, g3⟩
    have none_ : fN q nn r root size e = none → ∀ m1, Fr (fun b _ => b = 288) m m1 → ∃ m', J_X1_tally_66 N (H_X1_tally_34 N n) (fo q) 286 (rt root) (nI size) (nI e) (-1) (S m1) = some ((), S m') ∧ Fr (taP q) m m' ∧ TaS q (fN q nn r root size) (2 ^ nn) m' := by
      intro hf m1 f1
      refine nx m1 (f1.mo (fun b j h => Or.inl h)) ?_ _ c_tally_n
      obtain ⟨a1, a2, a3⟩ := ht.fr f1
      have e1 : fcm (fN q nn r root size) (e + 1) = fcm (fN q nn r root size) e := by rw [fcm, hf]
      exact ⟨fun k hk => by rw [tl_n (by rw [hf]; simp)]; exact a1 k hk, by rw [e1]; exact a2, fun j hj => by rw [e1] at hj ⊢; exact a3 j hj⟩
    by_cases hp : pop e = size
    · obtain ⟨m1, g1, g2⟩ := c_numberOn (N := N) (m := m) (root := root) hN hT net286 hn (show e < 2 ^ nn by omega) hq hr
      have go : ∀ v, F_X1_numberOn N (fo q) 286 (nI e) (rt root) (S m) = some (v, S m1) → ∀ Q : Option (Unit × vS) → Prop, Q (J_X1_tally_66 N (H_X1_tally_34 N n) (fo q) 286 (rt root) (nI size) (nI e) v (S m1)) → Q (H_X1_tally_34 N (n + 1) (fo q) 286 (rt root) (nI size) (nI e) (S m)) := by
        intro v hv Q hQ
        have : H_X1_tally_34 N (n + 1) (fo q) 286 (rt root) (nI size) (nI e) (S m) = J_X1_tally_66 N (H_X1_tally_34 N n) (fo q) 286 (rt root) (nI size) (nI e) v (S m1) := by
          refine Eq.trans u_H_X1_tally_34 ?_
          refine e_ldIV o h1 ?_
          refine e_f (by rw [shl1 _ (by omega), nI_leI (by omega) (by omega)]; omega) ?_
          refine e_bnd (c_bits (by omega)) ?_
          refine e_t (by rw [hp]) ?_
          refine e_bnd hv ?_
          rfl
        rw [this]
        exact hQ
      by_cases hi : rootIn e root = true
      · rw [if_pos ⟨by omega, by omega, hi⟩] at g1
        have hf : fN q nn r root size e = some (nOn q nn r e root) := by unfold fN; rw [if_pos ⟨hp, hi⟩]
        have hlt := fN_lt hs1 hs2 hf
        have hall : ∀ e k, fN q nn r root size e = some k → k < mny q ∧ sz_ q k = size := fun e k h => fN_lt hs1 hs2 h
        have hcc := fcm_cnt (f := fN q nn r root size) (fun e k h => (hall e k h).1) e
        have hcl := cnt_le (fun k => tl (fN q nn r root size) k e ≠ 0) (mny q)
        have ha := adr q
        obtain ⟨m', j1, j2, j3⟩ := c_tally_k (N := N) (n := n) (root := root) (x := nI size) hlt.1 hf (by omega) (fun h0 => by
          have := fcm_lt hs2 hall hf h0
          cases q
          · have this : _ < 11 := this
            show _ < 19
            omega
          · have this : _ < 20 := this
            show _ < 29
            omega) (by omega) (ht.fr g2) (by
            rw [g2.i (by omega)]
            exact (hT.1 q).2.2)
        refine go _ g1 (fun R => ∃ m', R = some ((), S m') ∧ Fr (taP q) m m' ∧ TaS q (fN q nn r root size) (2 ^ nn) m') ?_
        exact nx m' ((g2.mo (fun b j h => Or.inl h)).tr j2) j3 _ j1
      · rw [if_neg (fun h => hi h.2.2)] at g1
        refine go _ g1 (fun R => ∃ m', R = some ((), S m') ∧ Fr (taP q) m m' ∧ TaS q (fN q nn r root size) (2 ^ nn) m') ?_
        exact none_ (by unfold fN; rw [if_neg (fun h => hi h.2)]) m1 g2
    · obtain ⟨m', g1, g2, g3⟩ := none_ (by unfold fN; rw [if_neg (fun h => hp h.1)]) m Fr.rf
      refine ⟨m', ?_, g2, g3⟩
      unfold H_X1_tally_34
      refine e_ldIV o h1 ?_
      refine e_f (by rw [shl1 _ (by omega), nI_leI (by omega) (by omega)]; omega) ?_
      refine e_bnd (c_bits (by omega)) ?_
      refine e_f (by rw [nI_eq (by omega) (by omega)]; exact hp) ?_
      exact g1
theorem c_tally {q : Bool} {nn size : Nat} {r : Nat → Nat} {root : Option Nat} (hN : 1000 ≤ N) (hT : Tab m) (hn : NetIs m 286 nn r) (hq : q = root.isSome) (hr : ∀ x, root = some x → x < nn) (hs1 : sh_ q ≤ size) (hs2 : size ≤ 4) :
    ∃ m', F_X1_tally N (fo q) 286 (rt root) (nI size) (S m) = some ((), S m') ∧ Fr (taP q) m m' ∧ TaS q (fN q nn r root size) (2 ^ nn) m' := by
  have ha := adr q
  obtain ⟨h1, h2, h3⟩ := id hn
  have h8 : (2 : Nat) ^ nn ≤ 2 ^ 8 := Nat.pow_le_pow_right (by decide) h2
  have hm : rI (wI m (fo q) 12 0) (fo q) 2 = nI (mny q) := by rw [rI_n _ _ (by omega)]; exact (hT.1 q).2.2
  obtain ⟨m1, g1, g2, g3⟩ := c_tally_0 (N := N) (root := root) (x := nI size) hm (mny q) 0 N (wI m (fo q) 12 0) (by omega) (by omega) hm (fun k hk => absurd hk (Nat.not_lt_zero _))
  have f1 : Fr (taP q) m m1 := (Fr.rf.sI (Or.inr (Or.inr (Or.inr ⟨rfl, rfl⟩)))).tr (g2.mo (fun b j h => Or.inr (Or.inl h)))
  obtain ⟨m', j1, j2, j3⟩ := c_tally_l (N := N) (by omega) hq hr hs1 hs2 (2 ^ nn) 0 N m1 (by omega) (by omega) (hT.fr (fun b j hb => f1 b j (taP_tab hb))) ⟨by rw [f1.i (by unfold taP; omega)]; exact h1, h2, fun i hi => by rw [f1.i (by unfold taP; omega)]; exact h3 i hi⟩ ⟨fun k hk => g3 k hk, by rw [g2.i (by omega), rI_s]; rfl, fun j hj => absurd hj (Nat.not_lt_zero _)⟩
  refine ⟨m', ?_, f1.tr j2, j3⟩
  unfold F_X1_tally
  refine e_rcv gO ?_
  refine e_stI gO ?_
  refine Eq.trans g1 ?_
  exact j1
theorem c_setsIn {q : Bool} {p c : Nat} (hT : Tab m) (hN : 100 ≤ N) (hp : p ≤ 8) (hc : c ≤ p) (hs : sh_ q ≤ c) : F_X1_setsIn N (fo q) (nI p) (nI c) (S m) = some (nI (wyc (p - sh_ q) (c - sh_ q)), S m) := by
  have h1 := (hT.1 q).2.1
  unfold F_X1_setsIn
  refine e_rcv gO ?_
  refine e_ldIV gO h1 ?_
  refine e_ldIV gO h1 ?_
  rw [pk_sub (by omega), pk_sub (by omega)]
  refine e_bnd (c_ways (by omega) (by omega) hN) ?_
  rfl
theorem wyc_lt : ∀ p, p < 9 → ∀ c, c < 9 → wyc p c < 100 := by decide +kernel
theorem nI_l' {k : Nat} (h : k < 2 ^ 31) : (nI k).toInt64 = lN k := nI_l h
theorem lN_pos {k : Nat} (h0 : 0 < k) (h : k < 2 ^ 31) : 0 < (lN k).toInt := by rw [lN_toInt h]; omega
/-- the fraction of a share -/
def shr_ (q : Bool) (nn : Nat) (r : Nat → Nat) (root : Option Nat) (size k : Nat) : Int64 × Int64 := red (lN (tl (fN q nn r root size) k (2 ^ nn))) (lN (alls nn root size))
theorem c_shareOf {q : Bool} {nn k f : Nat} {r : Nat → Nat} {root : Option Nat} (hN : 1000 ≤ N) (hT : Tab m) (hn : NetIs m 286 nn r) (hq : q = root.isSome) (hr : ∀ x, root = some x → x < nn) (hk : k < mny q) (hs : sz_ q k ≤ nn) (hf : isOc f 2 = true) :
    ∃ m', F_X1_shareOf N (fo q) (nI k) 286 (rt root) f (S m) = some ((), S (wF m' f (shr_ q nn r root (sz_ q k) k))) ∧ Fr (taP q) m m' := by
  obtain ⟨h1, h2, h3⟩ := id hn
  have hz := szc q k hk
  have ha := adr q
  have h8 : (2 : Nat) ^ nn ≤ 2 ^ 8 := Nat.pow_le_pow_right (by decide) h2
  obtain ⟨m', g1, g2, g3⟩ := c_tally (N := N) (size := sz_ q k) hN hT hn hq hr hz.2.1 hz.1
  have hT' : Tab m' := hT.fr (fun b j hb => g2 b j (taP_tab hb))
  have hsz := (hT.2.1 q k hk).1
  have hsz' := (hT'.2.1 q k hk).1
  have hal := alls_wyc (q := q) h2 hz.2.1 hz.1 hs hq hr
  have hwl := wyc_lt (nn - sh_ q) (by omega) (sz_ q k - sh_ q) (by omega)
  have htl := tl_le (fN q nn r root (sz_ q k)) k (2 ^ nn)
  have hb := c_become (N := N) (m := m') (f := f) (a := lN (tl (fN q nn r root (sz_ q k)) k (2 ^ nn))) (b := lN (alls nn root (sz_ q k))) hf (by omega) (lN_pos hal.2 (by omega))
  refine ⟨m', ?_, g2⟩
  unfold F_X1_shareOf
  refine e_rcv gO ?_
  refine e_ldR gO gR3 ?_
  refine e_alIV gA3 rfl (by omega) hsz ?_
  refine e_bnd g1 ?_
  refine e_ldR gO gR10 ?_
  refine e_alIV gA10 rfl (by omega) (g3.1 k hk) ?_
  refine e_ldIV net286.o (show rI m' 286 0 = nI nn by rw [g2.i (by unfold taP; omega)]; exact h1) ?_
  refine e_ldR gO gR3 ?_
  refine e_alIV gA3 rfl (by omega) hsz' ?_
  refine e_bnd (c_setsIn hT' (by omega) h2 hs hz.2.1) ?_
  rw [nI_l (by omega), nI_l (by omega), ← hal.1]
  refine e_bnd hb ?_
  rfl
end TALLY2
