section UNITE2
variable {N : Nat} {m : vM}
theorem c_unite {a b : Nat} (ha : SumAt a) (hb : SumAt b) (haa : a + 2 < 226 ∨ 231 ≤ a) (hbb : b + 2 < 226 ∨ 231 ≤ b) {less : Prop} [Decidable less] (hN : 100 ≤ N) (hla : Lows (rowC m a)) (hlb : Lows (rowC m b)) :
    ∃ (m' : vM) (r : Int32), F_X0_unite N 223 a b (b2 less) (S m) = some (r, S m') ∧ (∀ c j, ¬ (c = 226 ∧ j = 0) → rI m' c j = rI m c j) ∧ (∀ c j, ¬ ((c = 227 ∨ c = 228) ∧ j < 29) → c ≠ 230 → rJ m' c j = rJ m c j) ∧ match sumF (rowC m b) less 29 0 (rowC m a) with
      | some row' => r = 1 ∧ ∀ k, k < 29 → rowC m' 226 k = row' k
      | none => r = 0 := by
  obtain ⟨m1, h1, h2, h3, h4⟩ := c_copy (N := N) (m := m) sum226 ha (by omega) hN
  have e : rowC m1 b = rowC m b := by
    funext k
    show (rJ m1 (b + 1) k, rJ m1 (b + 2) k) = (rJ m (b + 1) k, rJ m (b + 2) k)
    rw [h4 _ _ (by omega), h4 _ _ (by omega)]
  obtain ⟨m', r, g1, g2, g3, g4⟩ := c_unite_l (N := N) hb hbb (less := less) hN 29 0 N m1 (rowC m a) rfl (by omega) (fun k hk => by
    show (rJ m1 (226 + 1) k, rJ m1 (226 + 2) k) = (rJ m (a + 1) k, rJ m (a + 2) k)
    rw [(h3 k hk).1, (h3 k hk).2]) hla (by rw [e]; exact hlb)
  refine ⟨m', r, ?_, fun c j hc => ?_, fun c j hc hc2 => ?_, ?_⟩
  · unfold F_X0_unite
    repeat (first | ((with_reducible refine e_nm ?_)) | ((with_reducible refine e_rcv ?hO ?_); (case hO => (with_reducible first | assumption | exact faO))) | ((with_reducible refine e_ldI ?hO ?_); (case hO => (with_reducible first | assumption | exact faO))) | ((with_reducible refine e_ldJ ?hO ?_); (case hO => (with_reducible first | assumption | exact faO))) | ((with_reducible refine e_ldR (r := ?_) ?hO ?hR ?_); (case hO => (with_reducible first | assumption | exact faO)); (case hR => (with_reducible first | assumption | exact faR0 | exact faR1 | exact faR2 | exact faR3 | exact faR4 | exact faR5 | exact faR6 | exact faR7))) | ((with_reducible refine e_stI ?hO ?_); (case hO => (with_reducible first | assumption | exact faO))) | ((with_reducible refine e_stJ ?hO ?_); (case hO => (with_reducible first | assumption | exact faO))) | ((with_reducible refine e_alI (j := ?_) (n := ?_) ?hA ?hI ?hB ?_); (case hA => (with_reducible first | assumption | exact faA2 | exact faA3)); (case hI => (first | with_reducible rfl | with_reducible exact litn _ | (simp only [mulL, addR, nI_add, pk_mul, nI_1]; with_reducible rfl) | (simp (disch := omega) only [mulL, addR, subR, nI_add, pk_mul, pk_sub, nI_1]; with_reducible rfl))); (case hB => (omega))) | ((with_reducible refine e_alJ (j := ?_) (n := ?_) ?hA ?hI ?hB ?_); (case hA => (with_reducible first | assumption | exact faA2 | exact faA3)); (case hI => (first | with_reducible rfl | with_reducible exact litn _ | (simp only [mulL, addR, nI_add, pk_mul, nI_1]; with_reducible rfl) | (simp (disch := omega) only [mulL, addR, subR, nI_add, pk_mul, pk_sub, nI_1]; with_reducible rfl))); (case hB => (omega))) | ((with_reducible refine e_alZ (j := ?_) (n := ?_) ?hA ?hI ?hB ?_); (case hA => (with_reducible first | assumption | exact faA2 | exact faA3)); (case hI => (first | with_reducible rfl | with_reducible exact litn _ | (simp only [mulL, addR, nI_add, pk_mul, nI_1]; with_reducible rfl) | (simp (disch := omega) only [mulL, addR, subR, nI_add, pk_mul, pk_sub, nI_1]; with_reducible rfl))); (case hB => (omega))) | ((with_reducible refine e_asI (j := ?_) (n := ?_) ?hA ?hI ?hB ?_); (case hA => (with_reducible first | assumption | exact faA2 | exact faA3)); (case hI => (first | with_reducible rfl | with_reducible exact litn _ | (simp only [mulL, addR, nI_add, pk_mul, nI_1]; with_reducible rfl) | (simp (disch := omega) only [mulL, addR, subR, nI_add, pk_mul, pk_sub, nI_1]; with_reducible rfl))); (case hB => (omega))) | ((with_reducible refine e_asJ (j := ?_) (n := ?_) ?hA ?hI ?hB ?_); (case hA => (with_reducible first | assumption | exact faA2 | exact faA3)); (case hI => (first | with_reducible rfl | with_reducible exact litn _ | (simp only [mulL, addR, nI_add, pk_mul, nI_1]; with_reducible rfl) | (simp (disch := omega) only [mulL, addR, subR, nI_add, pk_mul, pk_sub, nI_1]; with_reducible rfl))); (case hB => (omega))) | ((with_reducible refine e_nzI ?hZ ?_); (case hZ => (decide))) | ((with_reducible refine e_nzJ ?hZ ?_); (case hZ => (assumption))))
    refine e_bnd h1 ?_
    exact g1
  · rw [g2, h2, if_neg hc]
  · rw [g3 c j hc hc2, h4 c j (by omega)]
  · rw [e] at g4
    exact g4
end UNITE2
