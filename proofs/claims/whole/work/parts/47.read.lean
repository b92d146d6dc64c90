/-! the reader of a text -/
section READ
variable {A : xAb} {M : xM} {h : xH} {Φ : xO → xM → xH → Prop} {S : xSr} {nid : Int}
set_option maxHeartbeats 1000000
theorem cR_isLetter {v : Int} (k : Φ (.inl (some (xI (b01 (97 ≤ v ∧ v ≤ 122))))) M h) : x_Cal zR_isLetter [xI v] M h Φ := by
  refine x_met0 kR_isLetter (Nat.le_of_ble_eq_true rfl) ?_
  simp only [wq_g3, wq_gc, wq_g, wq_g1, wq_g2, eR_isLetter, iR_isLetter_0, iR_isLetter_16, iR_isLetter_17, vR_isLetter, wps, x_cnd, reduceIte, Nat.reduceAdd, Nat.reduceSub, Nat.reduceEqDiff, Nat.reduceLeDiff, Nat.lt_irrefl, Nat.reduceLT, Int.cast_ofNat_Int, wq_c0, wq_c1, true_and, and_true, and_self, true_implies, forall_const, ne_eq, Decidable.not_not, not_true_eq_false, not_false_eq_true, List.map_nil, List.map_cons, List.sum_nil, List.sum_cons, List.length_cons, List.length_nil, Nat.le_refl, Nat.zero_le, reduceCtorEq, true_or, or_true, false_or, or_false, false_and, and_false, false_implies, Nat.zero_add, Nat.add_zero, Int.reduceEq, Int.reduceNe, Int.reduceLT, Int.reduceLE, Int.reduceNeg, Int.reduceToNat, Nat.not_lt_zero, Int.reduceAdd]
  refine ⟨fun c0 => kr k (b01_f (by omega)), fun c0 => ⟨fun c1 => kr k (b01_f (by omega)), fun c1 => kr k (b01_t (by omega))⟩⟩
theorem cR_isDigit {v : Int} (k : Φ (.inl (some (xI (b01 (48 ≤ v ∧ v ≤ 57))))) M h) : x_Cal zR_isDigit [xI v] M h Φ := by
  refine x_met0 kR_isDigit (Nat.le_of_ble_eq_true rfl) ?_
  simp only [wq_g3, wq_gc, wq_g, wq_g1, wq_g2, eR_isDigit, iR_isDigit_0, iR_isDigit_16, iR_isDigit_17, vR_isDigit, wps, x_cnd, reduceIte, Nat.reduceAdd, Nat.reduceSub, Nat.reduceEqDiff, Nat.reduceLeDiff, Nat.lt_irrefl, Nat.reduceLT, Int.cast_ofNat_Int, wq_c0, wq_c1, true_and, and_true, and_self, true_implies, forall_const, ne_eq, Decidable.not_not, not_true_eq_false, not_false_eq_true, List.map_nil, List.map_cons, List.sum_nil, List.sum_cons, List.length_cons, List.length_nil, Nat.le_refl, Nat.zero_le, reduceCtorEq, true_or, or_true, false_or, or_false, false_and, and_false, false_implies, Nat.zero_add, Nat.add_zero, Int.reduceEq, Int.reduceNe, Int.reduceLT, Int.reduceLE, Int.reduceNeg, Int.reduceToNat, Nat.not_lt_zero, Int.reduceAdd]
  refine ⟨fun c0 => kr k (b01_f (by omega)), fun c0 => ⟨fun c1 => kr k (b01_f (by omega)), fun c1 => kr k (b01_t (by omega))⟩⟩
theorem cR_isSpace {v : Int} (k : Φ (.inl (some (xI (b01 (v = 32 ∨ v = 10))))) M h) : x_Cal zR_isSpace [xI v] M h Φ := by
  refine x_met0 kR_isSpace (Nat.le_of_ble_eq_true rfl) ?_
  simp only [wq_g3, wq_gc, wq_g, wq_g1, wq_g2, eR_isSpace, iR_isSpace_0, iR_isSpace_12, iR_isSpace_16, iR_isSpace_17, vR_isSpace, wps, x_cnd, reduceIte, Nat.reduceAdd, Nat.reduceSub, Nat.reduceEqDiff, Nat.reduceLeDiff, Nat.lt_irrefl, Nat.reduceLT, Int.cast_ofNat_Int, wq_c0, wq_c1, true_and, and_true, and_self, true_implies, forall_const, ne_eq, Decidable.not_not, not_true_eq_false, not_false_eq_true, List.map_nil, List.map_cons, List.sum_nil, List.sum_cons, List.length_cons, List.length_nil, Nat.le_refl, Nat.zero_le, reduceCtorEq, true_or, or_true, false_or, or_false, false_and, and_false, false_implies, Nat.zero_add, Nat.add_zero, Int.reduceEq, Int.reduceNe, Int.reduceLT, Int.reduceLE, Int.reduceNeg, Int.reduceToNat, Nat.not_lt_zero, Int.reduceAdd]
  exact ⟨fun c0 => kr k (b01_t (Or.inl c0)), fun c0 => ⟨fun c1 => kr k (b01_f (by omega)), fun c1 => kr k (b01_t (Or.inr c1))⟩⟩
end READ
