/-! the reader of a text -/
section READ
variable {A : xAb} {M : xM} {h : xH} {Φ : xO → xM → xH → Prop} {S : xSr} {nid : Int}
set_option maxHeartbeats 1000000
theorem cR_isLetter {v : Int} (k : Φ (.inl (some (xI (b01 (97 ≤ v ∧ v ≤ 122))))) M h) : x_Cal zR_isLetter [xI v] M h Φ := by
  refine x_met0 kR_isLetter (Nat.le_of_ble_eq_true rfl) ?_
  simp only [wq_g3, wq_gc, wq_g, wq_g1, wq_g2, eR_isLetter, iR_isLetter_0, iR_isLetter_16, iR_isLetter_17, vR_isLetter, wps, x_cnd, reduceIte, Nat.reduceAdd, Nat.reduceSub, Nat.reduceEqDiff, Nat.reduceLeDiff, Nat.lt_irrefl, Nat.reduceLT, Int.cast_ofNat_Int, wq_c0, wq_c1, true_and, and_true, and_self, true_implies, forall_const, ne_eq, Decidable.not_not, not_true_eq_false, not_false_eq_true, List.map_nil, List.map_cons, List.sum_nil, List.sum_cons, List.length_cons, List.length_nil, Nat.le_refl, Nat.zero_le, reduceCtorEq, true_or, or_true, false_or, or_false, false_and, and_false, false_implies, Nat.zero_add, Nat.add_zero, Int.reduceEq, Int.reduceNe, Int.reduceLT, Int.reduceLE, Int.reduceNeg, Int.reduceToNat, Nat.not_lt_zero, Int.reduceAdd]
  refine ⟨fun c0 => kr k (b01_f (by omega)), fun c0 => ⟨fun c1 => kr k (b01_f (by omega)), fun c1 => kr k (b01_t (by omega))⟩⟩
theorem cR_isDigit {v : Int} (k : Φ (.inl (some (xI (b01 (48 ≤ v ∧ v ≤ 57))))) M h) : x_Cal zR_isDigit [xI v] M h Φ := by
  refine x_met0 kR_isDigit (Nat.le_of_ble_eq_true rfl) ?_
  simp only [wq_g3, wq_gc, wq_g, wq_g1, wq_g2, eR_isDigit, iR_isDigit_0, iR_isDigit_16, iR_isDigit_17, vR_isDigit, wps, x_cnd, reduceIte, Nat.reduceAdd, Nat.reduceSub, Nat.reduceEqDiff, Nat.reduceLeDiff, Nat.lt_irrefl, Nat.reduceLT, Int.cast_ofNat_Int, wq_c0, wq_c1, true_and, and_true, and_self, true_implies, forall_const, ne_eq, Decidable.not_not, not_true_eq_false, not_false_eq_true, List.map_nil, List.map_cons, List.sum_nil, List.sum_cons, List.length_cons, List.length_nil, Nat.le_refl, Nat.zero_le, reduceCtorEq, true_or, or_true, false_or, or_false, false_and, and_false, false_implies, Nat.zero_add, Nat.add_zero, Int.reduceEq, Int.reduceNe, Int.reduceLT, Int.reduceLE, Int.reduceNeg, Int.reduceToNat, Nat.not_lt_zero, Int.reduceAdd]
  refine ⟨fun c0 => kr k (b01_f (by omega)), fun c0 => ⟨fun c1 => kr k (b01_f (by omega)), fun c1 => kr k (b01_t (by omega))⟩⟩
theorem cR_isSpace {v : Int} (k : Φ (.inl (some (xI (b01 (v = 32 ∨ v = 10))))) M h) : x_Cal zR_isSpace [xI v] M h Φ := by
  refine x_met0 kR_isSpace (Nat.le_of_ble_eq_true rfl) ?_
  simp only [wq_g3, wq_gc, wq_g, wq_g1, wq_g2, eR_isSpace, iR_isSpace_0, iR_isSpace_12, iR_isSpace_16, iR_isSpace_17, vR_isSpace, wps, x_cnd, reduceIte, Nat.reduceAdd, Nat.reduceSub, Nat.reduceEqDiff, Nat.reduceLeDiff, Nat.lt_irrefl, Nat.reduceLT, Int.cast_ofNat_Int, wq_c0, wq_c1, true_and, and_true, and_self, true_implies, forall_const, ne_eq, Decidable.not_not, not_true_eq_false, not_false_eq_true, List.map_nil, List.map_cons, List.sum_nil, List.sum_cons, List.length_cons, List.length_nil, Nat.le_refl, Nat.zero_le, reduceCtorEq, true_or, or_true, false_or, or_false, false_and, and_false, false_implies, Nat.zero_add, Nat.add_zero, Int.reduceEq, Int.reduceNe, Int.reduceLT, Int.reduceLE, Int.reduceNeg, Int.reduceToNat, Nat.not_lt_zero, Int.reduceAdd]
  exact ⟨fun c0 => kr k (b01_t (Or.inl c0)), fun c0 => ⟨fun c1 => kr k (b01_f (by omega)), fun c1 => kr k (b01_t (Or.inr c1))⟩⟩
theorem cR_takeWord (F : Fx h) {n a : Nat} {B : Int → Int} (hn0 : M 2 5 = n) (hn1 : n ≤ 800) (ha : M 2 10 = a) (ha1 : a ≤ n) (hB : ∀ i : Nat, i < n → M 14 i = w8 (B i)) (k : ∀ e : Nat, a ≤ e → e ≤ n → (∀ q : Nat, a ≤ q → q < e → 97 ≤ w8 (B q) ∧ w8 (B q) ≤ 122) → (e < n → ¬ (97 ≤ w8 (B e) ∧ w8 (B e) ≤ 122)) → Φ (.inl none) (x_w (x_w M 2 8 1) 2 10 e) h) : x_Cal zR_takeWord [xA 2] M h Φ := by
  refine x_metI kR_takeWord (Nat.le_of_ble_eq_true rfl) (fun t m ls st M' h' c n2 => t = 5 ∧ st = [] ∧ h' = h ∧ c = 0 ∧ n2 = 0 ∧ ls 0 = some (xA 2) ∧ ∃ p : Nat, a ≤ p ∧ p ≤ n ∧ m = n - p ∧ M' = x_w (x_w M 2 8 1) 2 10 p ∧ ∀ q : Nat, a ≤ q → q < p → 97 ≤ w8 (B q) ∧ w8 (B q) ≤ 122) 20 ?_ ?_
  · simp only [wq_g3, wq_gc, wq_g, wq_g1, wq_g2, eR_takeWord, iR_takeWord_0, iR_takeWord_5, iR_takeWord_44, vR_takeWord, wps, x_cnd, reduceIte, Nat.reduceAdd, Nat.reduceSub, Nat.reduceEqDiff, Nat.reduceLeDiff, Nat.lt_irrefl, Nat.reduceLT, Int.cast_ofNat_Int, wq_c0, wq_c1, true_and, and_true, and_self, true_implies, forall_const, ne_eq, Decidable.not_not, not_true_eq_false, not_false_eq_true, List.map_nil, List.map_cons, List.sum_nil, List.sum_cons, List.length_cons, List.length_nil, Nat.le_refl, Nat.zero_le, reduceCtorEq, true_or, or_true, false_or, or_false, false_and, and_false, false_implies, Nat.zero_add, Nat.add_zero, Int.reduceEq, Int.reduceNe, Int.reduceLT, Int.reduceLE, Int.reduceNeg, Int.reduceToNat, Nat.not_lt_zero, Int.reduceAdd, fxs F]
    refine ⟨n - a, a, by omega, ha1, rfl, ?_, fun q h1 h2 => by omega⟩
    funext b j
    by_cases hc : b = 2 ∧ j = 10
    · rw [hc.1, hc.2, w_eq, w_nj (by decide), ha]
    · exact (if_neg hc).symm
  · rintro t m ls st M' h' c n2 ⟨rfl, rfl, rfl, rfl, rfl, l0, p, q1, q2, q3, rfl, q4⟩
    have e1 : x_w (x_w M 2 8 1) 2 10 p 2 5 = n := by rw [w_nj (by decide), w_nj (by decide)]; exact hn0
    have e2 : x_w (x_w M 2 8 1) 2 10 p 2 10 = p := w_eq
    simp only [wq_g3, wq_gc, wq_g, wq_g1, wq_g2, eR_takeWord, iR_takeWord_0, iR_takeWord_5, iR_takeWord_44, vR_takeWord, wps, x_cnd, reduceIte, Nat.reduceAdd, Nat.reduceSub, Nat.reduceEqDiff, Nat.reduceLeDiff, Nat.lt_irrefl, Nat.reduceLT, Int.cast_ofNat_Int, wq_c0, wq_c1, true_and, and_true, and_self, true_implies, forall_const, ne_eq, Decidable.not_not, not_true_eq_false, not_false_eq_true, List.map_nil, List.map_cons, List.sum_nil, List.sum_cons, List.length_cons, List.length_nil, Nat.le_refl, Nat.zero_le, reduceCtorEq, true_or, or_true, false_or, or_false, false_and, and_false, false_implies, Nat.zero_add, Nat.add_zero, Int.reduceEq, Int.reduceNe, Int.reduceLT, Int.reduceLE, Int.reduceNeg, Int.reduceToNat, Nat.not_lt_zero, Int.reduceAdd, fxs F, l0, e1, e2]
    refine ⟨fun c0 => ?_, fun c0 => ⟨by omega, cR_isLetter ?_⟩⟩
    · exact k p q1 q2 q4 (fun hp => by omega)
    · have e3 : x_w (x_w M 2 8 1) 2 10 p 14 p = w8 (B p) := by rw [w_ne (by decide), w_ne (by decide)]; exact hB p (by omega)
      rw [e3]
      simp only [wq_g3, wq_gc, wq_g, wq_g1, wq_g2, eR_takeWord, iR_takeWord_0, iR_takeWord_5, iR_takeWord_44, vR_takeWord, wps, x_cnd, reduceIte, Nat.reduceAdd, Nat.reduceSub, Nat.reduceEqDiff, Nat.reduceLeDiff, Nat.lt_irrefl, Nat.reduceLT, Int.cast_ofNat_Int, wq_c0, wq_c1, true_and, and_true, and_self, true_implies, forall_const, ne_eq, Decidable.not_not, not_true_eq_false, not_false_eq_true, List.map_nil, List.map_cons, List.sum_nil, List.sum_cons, List.length_cons, List.length_nil, Nat.le_refl, Nat.zero_le, reduceCtorEq, true_or, or_true, false_or, or_false, false_and, and_false, false_implies, Nat.zero_add, Nat.add_zero, Int.reduceEq, Int.reduceNe, Int.reduceLT, Int.reduceLE, Int.reduceNeg, Int.reduceToNat, Nat.not_lt_zero, Int.reduceAdd, fxs F, l0, e1, e2, b01_0]
      simp (disch := omega) only [w32_of]
      refine ⟨fun c1 => k p q1 q2 q4 (fun _ => by omega), fun c1 => ⟨n - (p + 1), by omega, p + 1, by omega, by omega, rfl, ?_, fun q h1 h2 => ?_⟩⟩
      · funext b j
        unfold x_w
        by_cases hc : b = 2 ∧ j = 10
        · rw [if_pos hc, if_pos hc]
          rfl
        · rw [if_neg hc, if_neg hc, if_neg hc]
      · by_cases hq : q = p
        · subst hq
          omega
        · exact q4 q h1 (by omega)
end READ
