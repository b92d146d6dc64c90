/-! the model's output -/
def OM (M0 : xM) (L : List Int) (M : xM) : Prop := M 41 33 = (L.length : Nat) ∧ (∀ i : Nat, i < L.length → M 56 i = L.getD i 0) ∧ ∀ a j, ¬ ((a = 41 ∧ j = 33) ∨ a = 56) → M a j = M0 a j
/-- the letters of a word, the first p of six places -/
def wdm (its : Int) : Nat → List Int
  | 0 => []
  | p + 1 => wdm its p ++ (if 0 < w32 (x_landL (x_shrL its (25 - 5 * (p : Int))) 31) then [w32 (96 + w32 (x_landL (x_shrL its (25 - 5 * (p : Int))) 31))] else [])
section MWRITE
variable {A : xAb} {M M' M0 : xM} {h : xH} {Φ : xO → xM → xH → Prop} {S : xSr} {nid : Int} {L : List Int}
set_option maxHeartbeats 1000000
theorem wdm_e : wdm 536633 6 = wd 9 ∧ wdm 3749 6 = wd 10 ∧ wdm 595572 6 ++ [32] = wd 11 := by decide +kernel
theorem OM.push {v : Int} (O : OM M0 L M) : OM M0 (L ++ [v]) (x_w (x_w M 56 (L.length : Nat) v) 41 33 ((L.length : Nat) + 1)) := by
  obtain ⟨o1, o2, o3⟩ := O
  refine ⟨?_, fun i hi => ?_, fun a j ha => ?_⟩
  · rw [w_eq, List.length_append]
    simp
  · rw [List.length_append] at hi
    simp only [List.length_cons, List.length_nil] at hi
    rw [w_ne (by decide)]
    by_cases h1 : i = L.length
    · subst h1
      rw [w_eq]
      simp
    · rw [w_nj (by omega), o2 i (by omega), List.getD_eq_getElem?_getD, List.getD_eq_getElem?_getD, List.getElem?_append_left (by omega)]
  · rw [← o3 a j ha]
    unfold x_w
    rw [if_neg (by omega), if_neg (by omega)]
theorem cM_says (F : Fx h) (O : OM M0 L M) {v : Int} (hl : L.length < 2550) (k : ∀ M', OM M0 (L ++ [v]) M' → Φ (.inl none) M' h) : x_Cal zM_says [xA 41, xI v] M h Φ := by
  refine x_met0 kM_says (Nat.le_of_ble_eq_true rfl) ?_
  simp only [wq_g3, wq_gc, wq_g, wq_g1, wq_g2, eM_says, iM_says_0, vM_says, wps, x_cnd, reduceIte, Nat.reduceAdd, Nat.reduceSub, Nat.reduceEqDiff, Nat.reduceLeDiff, Nat.lt_irrefl, Nat.reduceLT, Int.cast_ofNat_Int, wq_c0, wq_c1, true_and, and_true, and_self, true_implies, forall_const, ne_eq, Decidable.not_not, not_true_eq_false, not_false_eq_true, List.map_nil, List.map_cons, List.sum_nil, List.sum_cons, List.length_cons, List.length_nil, Nat.le_refl, Nat.zero_le, reduceCtorEq, true_or, or_true, false_or, or_false, false_and, and_false, false_implies, Nat.zero_add, Nat.add_zero, Int.reduceEq, Int.reduceNe, Int.reduceLT, Int.reduceLE, Int.reduceNeg, Int.reduceToNat, Nat.not_lt_zero, Int.reduceAdd, fxs F, O.1]
  simp (disch := decide) only [w_ne, w_eq, w_nj]
  rw [O.1]
  simp (disch := omega) only [w32_of]
  exact ⟨by omega, k _ O.push⟩
theorem dg_3 {v : Int} (h : 100 ≤ v) : dg v = [48 + v / 100] ++ ([48 + v / 10 % 10] ++ [48 + v % 10]) := by
  unfold dg
  rw [if_pos h, if_pos (by omega)]
theorem dg_2 {v : Int} (h : ¬ 100 ≤ v) (h2 : 10 ≤ v) : dg v = [48 + v / 10 % 10] ++ [48 + v % 10] := by
  unfold dg
  rw [if_neg h, if_pos h2]
  rfl
theorem dg_1 {v : Int} (h2 : ¬ 10 ≤ v) : dg v = [48 + v % 10] := by
  unfold dg
  rw [if_neg (by omega), if_neg h2]
  rfl
theorem cM_saysNumber (F : Fx h) (O : OM M0 L M) {v : Int} (hl : L.length + 3 ≤ 2550) (hv : 0 ≤ v ∧ v < 1000) (k : ∀ M', OM M0 (L ++ dg v) M' → Φ (.inl none) M' h) : x_Cal zM_saysNumber [xA 41, xI v] M h Φ := by
  have d0 : x_div v 1 = v / 1 := x_div_of (by omega)
  have d1 : x_div v 100 = v / 100 := x_div_of (by omega)
  have d2 : x_div v 10 = v / 10 := x_div_of (by omega)
  have d3 : x_rem (v / 100) 10 = v / 100 % 10 := x_rem_of (by omega)
  have d4 : x_rem (v / 10) 10 = v / 10 % 10 := x_rem_of (by omega)
  have d5 : x_rem (v / 1) 10 = v / 1 % 10 := x_rem_of (by omega)
  have q1 : x_div 100 10 = 10 := by decide
  have q2 : x_div 10 10 = 1 := by decide
  have q3 : x_div 1 10 = 0 := by decide
  refine x_metI kM_saysNumber (Nat.le_of_ble_eq_true rfl) (fun t m ls st M' h' c n => st = [] ∧ h' = h ∧ c = 0 ∧ n = 0 ∧ ls 0 = some (xA 41) ∧ ls 1 = some (xI v) ∧ ((t = 2 ∧ M' = M ∧ ((ls 2 = some (xI 1) ∧ m = 9) ∨ (ls 2 = some (xI 10) ∧ m = 8 ∧ 10 ≤ v) ∨ (ls 2 = some (xI 100) ∧ m = 7 ∧ 100 ≤ v))) ∨ (t = 18 ∧ ((ls 2 = some (xI 100) ∧ m = 4 ∧ 100 ≤ v ∧ OM M0 L M') ∨ (ls 2 = some (xI 10) ∧ m = 3 ∧ ∃ L1, L.length ≤ L1.length ∧ L1.length ≤ L.length + 1 ∧ OM M0 L1 M' ∧ L ++ dg v = L1 ++ ([48 + v / 10 % 10] ++ [48 + v % 10])) ∨ (ls 2 = some (xI 1) ∧ m = 2 ∧ ∃ L1, L.length ≤ L1.length ∧ L1.length ≤ L.length + 2 ∧ OM M0 L1 M' ∧ L ++ dg v = L1 ++ [48 + v % 10]) ∨ (ls 2 = some (xI 0) ∧ m = 1 ∧ OM M0 (L ++ dg v) M'))))) 20 ?_ ?_
  · simp only [wq_g3, wq_gc, wq_g, wq_g1, wq_g2, eM_saysNumber, iM_saysNumber_0, iM_saysNumber_2, iM_saysNumber_18, iM_saysNumber_43, vM_saysNumber, wps, x_cnd, reduceIte, Nat.reduceAdd, Nat.reduceSub, Nat.reduceEqDiff, Nat.reduceLeDiff, Nat.lt_irrefl, Nat.reduceLT, Int.cast_ofNat_Int, wq_c0, wq_c1, true_and, and_true, and_self, true_implies, forall_const, ne_eq, Decidable.not_not, not_true_eq_false, not_false_eq_true, List.map_nil, List.map_cons, List.sum_nil, List.sum_cons, List.length_cons, List.length_nil, Nat.le_refl, Nat.zero_le, reduceCtorEq, true_or, or_true, false_or, or_false, false_and, and_false, false_implies, Nat.zero_add, Nat.add_zero, Int.reduceEq, Int.reduceNe, Int.reduceLT, Int.reduceLE, Int.reduceNeg, Int.reduceToNat, Nat.not_lt_zero, Int.reduceAdd, fxs F]
    exact ⟨9, Or.inl rfl⟩
  · rintro t m ls st M1 h' c n ⟨rfl, rfl, rfl, rfl, l0, l1, ⟨rfl, rfl, ⟨l2, hm⟩ | ⟨l2, hm, h1⟩ | ⟨l2, hm, h1⟩⟩ | ⟨rfl, ⟨l2, hm, h1, O1⟩ | ⟨l2, hm, L1, e1, e2, O1, e3⟩ | ⟨l2, hm, L1, e1, e2, O1, e3⟩ | ⟨l2, hm, O1⟩⟩⟩
    · simp only [wq_g3, wq_gc, wq_g, wq_g1, wq_g2, eM_saysNumber, iM_saysNumber_0, iM_saysNumber_2, iM_saysNumber_18, iM_saysNumber_43, vM_saysNumber, wps, x_cnd, reduceIte, Nat.reduceAdd, Nat.reduceSub, Nat.reduceEqDiff, Nat.reduceLeDiff, Nat.lt_irrefl, Nat.reduceLT, Int.cast_ofNat_Int, wq_c0, wq_c1, true_and, and_true, and_self, true_implies, forall_const, ne_eq, Decidable.not_not, not_true_eq_false, not_false_eq_true, List.map_nil, List.map_cons, List.sum_nil, List.sum_cons, List.length_cons, List.length_nil, Nat.le_refl, Nat.zero_le, reduceCtorEq, true_or, or_true, false_or, or_false, false_and, and_false, false_implies, Nat.zero_add, Nat.add_zero, Int.reduceEq, Int.reduceNe, Int.reduceLT, Int.reduceLE, Int.reduceNeg, Int.reduceToNat, Nat.not_lt_zero, Int.reduceAdd, fxs F, l0, l1, l2, d0]
      simp (disch := omega) only [w32_of]
      exact ⟨fun c0 => ⟨2, by omega, Or.inr (Or.inr (Or.inl ⟨rfl, L, Nat.le_refl _, by omega, O, by rw [dg_1 (by omega)]⟩))⟩, fun c0 => ⟨8, by omega, Or.inr (Or.inl ⟨rfl, rfl, by omega⟩)⟩⟩
    · simp only [wq_g3, wq_gc, wq_g, wq_g1, wq_g2, eM_saysNumber, iM_saysNumber_0, iM_saysNumber_2, iM_saysNumber_18, iM_saysNumber_43, vM_saysNumber, wps, x_cnd, reduceIte, Nat.reduceAdd, Nat.reduceSub, Nat.reduceEqDiff, Nat.reduceLeDiff, Nat.lt_irrefl, Nat.reduceLT, Int.cast_ofNat_Int, wq_c0, wq_c1, true_and, and_true, and_self, true_implies, forall_const, ne_eq, Decidable.not_not, not_true_eq_false, not_false_eq_true, List.map_nil, List.map_cons, List.sum_nil, List.sum_cons, List.length_cons, List.length_nil, Nat.le_refl, Nat.zero_le, reduceCtorEq, true_or, or_true, false_or, or_false, false_and, and_false, false_implies, Nat.zero_add, Nat.add_zero, Int.reduceEq, Int.reduceNe, Int.reduceLT, Int.reduceLE, Int.reduceNeg, Int.reduceToNat, Nat.not_lt_zero, Int.reduceAdd, fxs F, l0, l1, l2, d2]
      simp (disch := omega) only [w32_of]
      exact ⟨fun c0 => ⟨3, by omega, Or.inr (Or.inl ⟨rfl, L, Nat.le_refl _, by omega, O, by rw [dg_2 (by omega) h1]⟩)⟩, fun c0 => ⟨7, by omega, Or.inr (Or.inr ⟨rfl, rfl, by omega⟩)⟩⟩
    · simp only [wq_g3, wq_gc, wq_g, wq_g1, wq_g2, eM_saysNumber, iM_saysNumber_0, iM_saysNumber_2, iM_saysNumber_18, iM_saysNumber_43, vM_saysNumber, wps, x_cnd, reduceIte, Nat.reduceAdd, Nat.reduceSub, Nat.reduceEqDiff, Nat.reduceLeDiff, Nat.lt_irrefl, Nat.reduceLT, Int.cast_ofNat_Int, wq_c0, wq_c1, true_and, and_true, and_self, true_implies, forall_const, ne_eq, Decidable.not_not, not_true_eq_false, not_false_eq_true, List.map_nil, List.map_cons, List.sum_nil, List.sum_cons, List.length_cons, List.length_nil, Nat.le_refl, Nat.zero_le, reduceCtorEq, true_or, or_true, false_or, or_false, false_and, and_false, false_implies, Nat.zero_add, Nat.add_zero, Int.reduceEq, Int.reduceNe, Int.reduceLT, Int.reduceLE, Int.reduceNeg, Int.reduceToNat, Nat.not_lt_zero, Int.reduceAdd, fxs F, l0, l1, l2, d1]
      simp (disch := omega) only [w32_of]
      exact ⟨fun c0 => ⟨4, by omega, Or.inl ⟨rfl, h1, O⟩⟩, fun c0 => by omega⟩
    · simp only [wq_g3, wq_gc, wq_g, wq_g1, wq_g2, eM_saysNumber, iM_saysNumber_0, iM_saysNumber_2, iM_saysNumber_18, iM_saysNumber_43, vM_saysNumber, wps, x_cnd, reduceIte, Nat.reduceAdd, Nat.reduceSub, Nat.reduceEqDiff, Nat.reduceLeDiff, Nat.lt_irrefl, Nat.reduceLT, Int.cast_ofNat_Int, wq_c0, wq_c1, true_and, and_true, and_self, true_implies, forall_const, ne_eq, Decidable.not_not, not_true_eq_false, not_false_eq_true, List.map_nil, List.map_cons, List.sum_nil, List.sum_cons, List.length_cons, List.length_nil, Nat.le_refl, Nat.zero_le, reduceCtorEq, true_or, or_true, false_or, or_false, false_and, and_false, false_implies, Nat.zero_add, Nat.add_zero, Int.reduceEq, Int.reduceNe, Int.reduceLT, Int.reduceLE, Int.reduceNeg, Int.reduceToNat, Nat.not_lt_zero, Int.reduceAdd, fxs F, l0, l1, l2, d1, d3]
      simp (disch := omega) only [w32_of]
      refine cM_says F O1 (by omega) (fun M2 O2 => ?_)
      simp only [wq_g3, wq_gc, wq_g, wq_g1, wq_g2, eM_saysNumber, iM_saysNumber_0, iM_saysNumber_2, iM_saysNumber_18, iM_saysNumber_43, vM_saysNumber, wps, x_cnd, reduceIte, Nat.reduceAdd, Nat.reduceSub, Nat.reduceEqDiff, Nat.reduceLeDiff, Nat.lt_irrefl, Nat.reduceLT, Int.cast_ofNat_Int, wq_c0, wq_c1, true_and, and_true, and_self, true_implies, forall_const, ne_eq, Decidable.not_not, not_true_eq_false, not_false_eq_true, List.map_nil, List.map_cons, List.sum_nil, List.sum_cons, List.length_cons, List.length_nil, Nat.le_refl, Nat.zero_le, reduceCtorEq, true_or, or_true, false_or, or_false, false_and, and_false, false_implies, Nat.zero_add, Nat.add_zero, Int.reduceEq, Int.reduceNe, Int.reduceLT, Int.reduceLE, Int.reduceNeg, Int.reduceToNat, Nat.not_lt_zero, Int.reduceAdd, fxs F, l0, l1, l2, q1]
      exact ⟨3, by omega, Or.inr (Or.inl ⟨rfl, L ++ [48 + v / 100 % 10], by simp, by simp, O2, by rw [dg_3 h1, show v / 100 % 10 = v / 100 by omega, List.append_assoc]⟩)⟩
    · simp only [wq_g3, wq_gc, wq_g, wq_g1, wq_g2, eM_saysNumber, iM_saysNumber_0, iM_saysNumber_2, iM_saysNumber_18, iM_saysNumber_43, vM_saysNumber, wps, x_cnd, reduceIte, Nat.reduceAdd, Nat.reduceSub, Nat.reduceEqDiff, Nat.reduceLeDiff, Nat.lt_irrefl, Nat.reduceLT, Int.cast_ofNat_Int, wq_c0, wq_c1, true_and, and_true, and_self, true_implies, forall_const, ne_eq, Decidable.not_not, not_true_eq_false, not_false_eq_true, List.map_nil, List.map_cons, List.sum_nil, List.sum_cons, List.length_cons, List.length_nil, Nat.le_refl, Nat.zero_le, reduceCtorEq, true_or, or_true, false_or, or_false, false_and, and_false, false_implies, Nat.zero_add, Nat.add_zero, Int.reduceEq, Int.reduceNe, Int.reduceLT, Int.reduceLE, Int.reduceNeg, Int.reduceToNat, Nat.not_lt_zero, Int.reduceAdd, fxs F, l0, l1, l2, d2, d4]
      simp (disch := omega) only [w32_of]
      refine cM_says F O1 (by omega) (fun M2 O2 => ?_)
      simp only [wq_g3, wq_gc, wq_g, wq_g1, wq_g2, eM_saysNumber, iM_saysNumber_0, iM_saysNumber_2, iM_saysNumber_18, iM_saysNumber_43, vM_saysNumber, wps, x_cnd, reduceIte, Nat.reduceAdd, Nat.reduceSub, Nat.reduceEqDiff, Nat.reduceLeDiff, Nat.lt_irrefl, Nat.reduceLT, Int.cast_ofNat_Int, wq_c0, wq_c1, true_and, and_true, and_self, true_implies, forall_const, ne_eq, Decidable.not_not, not_true_eq_false, not_false_eq_true, List.map_nil, List.map_cons, List.sum_nil, List.sum_cons, List.length_cons, List.length_nil, Nat.le_refl, Nat.zero_le, reduceCtorEq, true_or, or_true, false_or, or_false, false_and, and_false, false_implies, Nat.zero_add, Nat.add_zero, Int.reduceEq, Int.reduceNe, Int.reduceLT, Int.reduceLE, Int.reduceNeg, Int.reduceToNat, Nat.not_lt_zero, Int.reduceAdd, fxs F, l0, l1, l2, q2]
      exact ⟨2, by omega, Or.inr (Or.inr (Or.inl ⟨rfl, L1 ++ [48 + v / 10 % 10], by simp; omega, by simp; omega, O2, by rw [e3, List.append_assoc]⟩))⟩
    · simp only [wq_g3, wq_gc, wq_g, wq_g1, wq_g2, eM_saysNumber, iM_saysNumber_0, iM_saysNumber_2, iM_saysNumber_18, iM_saysNumber_43, vM_saysNumber, wps, x_cnd, reduceIte, Nat.reduceAdd, Nat.reduceSub, Nat.reduceEqDiff, Nat.reduceLeDiff, Nat.lt_irrefl, Nat.reduceLT, Int.cast_ofNat_Int, wq_c0, wq_c1, true_and, and_true, and_self, true_implies, forall_const, ne_eq, Decidable.not_not, not_true_eq_false, not_false_eq_true, List.map_nil, List.map_cons, List.sum_nil, List.sum_cons, List.length_cons, List.length_nil, Nat.le_refl, Nat.zero_le, reduceCtorEq, true_or, or_true, false_or, or_false, false_and, and_false, false_implies, Nat.zero_add, Nat.add_zero, Int.reduceEq, Int.reduceNe, Int.reduceLT, Int.reduceLE, Int.reduceNeg, Int.reduceToNat, Nat.not_lt_zero, Int.reduceAdd, fxs F, l0, l1, l2, d0, d5]
      simp (disch := omega) only [w32_of]
      refine cM_says F O1 (by omega) (fun M2 O2 => ?_)
      simp only [wq_g3, wq_gc, wq_g, wq_g1, wq_g2, eM_saysNumber, iM_saysNumber_0, iM_saysNumber_2, iM_saysNumber_18, iM_saysNumber_43, vM_saysNumber, wps, x_cnd, reduceIte, Nat.reduceAdd, Nat.reduceSub, Nat.reduceEqDiff, Nat.reduceLeDiff, Nat.lt_irrefl, Nat.reduceLT, Int.cast_ofNat_Int, wq_c0, wq_c1, true_and, and_true, and_self, true_implies, forall_const, ne_eq, Decidable.not_not, not_true_eq_false, not_false_eq_true, List.map_nil, List.map_cons, List.sum_nil, List.sum_cons, List.length_cons, List.length_nil, Nat.le_refl, Nat.zero_le, reduceCtorEq, true_or, or_true, false_or, or_false, false_and, and_false, false_implies, Nat.zero_add, Nat.add_zero, Int.reduceEq, Int.reduceNe, Int.reduceLT, Int.reduceLE, Int.reduceNeg, Int.reduceToNat, Nat.not_lt_zero, Int.reduceAdd, fxs F, l0, l1, l2, q3]
      exact ⟨1, by omega, Or.inr (Or.inr (Or.inr ⟨rfl, by rw [e3, show v % 10 = v / 1 % 10 by omega]; exact O2⟩))⟩
    · simp only [wq_g3, wq_gc, wq_g, wq_g1, wq_g2, eM_saysNumber, iM_saysNumber_0, iM_saysNumber_2, iM_saysNumber_18, iM_saysNumber_43, vM_saysNumber, wps, x_cnd, reduceIte, Nat.reduceAdd, Nat.reduceSub, Nat.reduceEqDiff, Nat.reduceLeDiff, Nat.lt_irrefl, Nat.reduceLT, Int.cast_ofNat_Int, wq_c0, wq_c1, true_and, and_true, and_self, true_implies, forall_const, ne_eq, Decidable.not_not, not_true_eq_false, not_false_eq_true, List.map_nil, List.map_cons, List.sum_nil, List.sum_cons, List.length_cons, List.length_nil, Nat.le_refl, Nat.zero_le, reduceCtorEq, true_or, or_true, false_or, or_false, false_and, and_false, false_implies, Nat.zero_add, Nat.add_zero, Int.reduceEq, Int.reduceNe, Int.reduceLT, Int.reduceLE, Int.reduceNeg, Int.reduceToNat, Nat.not_lt_zero, Int.reduceAdd, fxs F, l0, l1, l2]
      exact k M1 O1
theorem cM_saysLetter (F : Fx h) (O : OM M0 L M) {l : Int} (hl : L.length + 3 ≤ 2550) (hv : 1 ≤ l ∧ l ≤ 40) (k : ∀ M', OM M0 (L ++ ltr l) M' → Φ (.inl none) M' h) : x_Cal zM_saysLetter [xA 41, xI l] M h Φ := by
  refine x_met0 kM_saysLetter (Nat.le_of_ble_eq_true rfl) ?_
  by_cases h2 : l ≤ 26
  · simp only [wq_g3, wq_gc, wq_g, wq_g1, wq_g2, eM_saysLetter, iM_saysLetter_0, iM_saysLetter_31, iM_saysLetter_39, vM_saysLetter, wps, x_cnd, reduceIte, Nat.reduceAdd, Nat.reduceSub, Nat.reduceEqDiff, Nat.reduceLeDiff, Nat.lt_irrefl, Nat.reduceLT, Int.cast_ofNat_Int, wq_c0, wq_c1, true_and, and_true, and_self, true_implies, forall_const, ne_eq, Decidable.not_not, not_true_eq_false, not_false_eq_true, List.map_nil, List.map_cons, List.sum_nil, List.sum_cons, List.length_cons, List.length_nil, Nat.le_refl, Nat.zero_le, reduceCtorEq, true_or, or_true, false_or, or_false, false_and, and_false, false_implies, Nat.zero_add, Nat.add_zero, Int.reduceEq, Int.reduceNe, Int.reduceLT, Int.reduceLE, Int.reduceNeg, Int.reduceToNat, Nat.not_lt_zero, Int.reduceAdd, fxs F, h2]
    simp (disch := omega) only [w32_of]
    refine cM_says F O (by omega) (fun M1 O1 => ?_)
    simp only [wq_g3, wq_gc, wq_g, wq_g1, wq_g2, eM_saysLetter, iM_saysLetter_0, iM_saysLetter_31, iM_saysLetter_39, vM_saysLetter, wps, x_cnd, reduceIte, Nat.reduceAdd, Nat.reduceSub, Nat.reduceEqDiff, Nat.reduceLeDiff, Nat.lt_irrefl, Nat.reduceLT, Int.cast_ofNat_Int, wq_c0, wq_c1, true_and, and_true, and_self, true_implies, forall_const, ne_eq, Decidable.not_not, not_true_eq_false, not_false_eq_true, List.map_nil, List.map_cons, List.sum_nil, List.sum_cons, List.length_cons, List.length_nil, Nat.le_refl, Nat.zero_le, reduceCtorEq, true_or, or_true, false_or, or_false, false_and, and_false, false_implies, Nat.zero_add, Nat.add_zero, Int.reduceEq, Int.reduceNe, Int.reduceLT, Int.reduceLE, Int.reduceNeg, Int.reduceToNat, Nat.not_lt_zero, Int.reduceAdd, fxs F]
    refine cM_says F O1 (by rw [List.length_append]; simp only [List.length_cons, List.length_nil]; omega) (fun M2 O2 => ?_)
    simp only [wq_g3, wq_gc, wq_g, wq_g1, wq_g2, eM_saysLetter, iM_saysLetter_0, iM_saysLetter_31, iM_saysLetter_39, vM_saysLetter, wps, x_cnd, reduceIte, Nat.reduceAdd, Nat.reduceSub, Nat.reduceEqDiff, Nat.reduceLeDiff, Nat.lt_irrefl, Nat.reduceLT, Int.cast_ofNat_Int, wq_c0, wq_c1, true_and, and_true, and_self, true_implies, forall_const, ne_eq, Decidable.not_not, not_true_eq_false, not_false_eq_true, List.map_nil, List.map_cons, List.sum_nil, List.sum_cons, List.length_cons, List.length_nil, Nat.le_refl, Nat.zero_le, reduceCtorEq, true_or, or_true, false_or, or_false, false_and, and_false, false_implies, Nat.zero_add, Nat.add_zero, Int.reduceEq, Int.reduceNe, Int.reduceLT, Int.reduceLE, Int.reduceNeg, Int.reduceToNat, Nat.not_lt_zero, Int.reduceAdd, fxs F]
    refine k M2 ?_
    unfold ltr
    rw [if_neg (by omega), if_pos h2, show [64 + l, 32] = [64 + l] ++ [32] from rfl, ← List.append_assoc]
    exact O2
  · have h3 : ¬ l ≤ 26 := by omega
    simp only [wq_g3, wq_gc, wq_g, wq_g1, wq_g2, eM_saysLetter, iM_saysLetter_0, iM_saysLetter_31, iM_saysLetter_39, vM_saysLetter, wps, x_cnd, reduceIte, Nat.reduceAdd, Nat.reduceSub, Nat.reduceEqDiff, Nat.reduceLeDiff, Nat.lt_irrefl, Nat.reduceLT, Int.cast_ofNat_Int, wq_c0, wq_c1, true_and, and_true, and_self, true_implies, forall_const, ne_eq, Decidable.not_not, not_true_eq_false, not_false_eq_true, List.map_nil, List.map_cons, List.sum_nil, List.sum_cons, List.length_cons, List.length_nil, Nat.le_refl, Nat.zero_le, reduceCtorEq, true_or, or_true, false_or, or_false, false_and, and_false, false_implies, Nat.zero_add, Nat.add_zero, Int.reduceEq, Int.reduceNe, Int.reduceLT, Int.reduceLE, Int.reduceNeg, Int.reduceToNat, Nat.not_lt_zero, Int.reduceAdd, fxs F, h3]
    simp (disch := omega) only [w32_of]
    rw [show 64 + l - 26 = 38 + l by omega]
    refine cM_says F O (by omega) (fun M1 O1 => ?_)
    simp only [wq_g3, wq_gc, wq_g, wq_g1, wq_g2, eM_saysLetter, iM_saysLetter_0, iM_saysLetter_31, iM_saysLetter_39, vM_saysLetter, wps, x_cnd, reduceIte, Nat.reduceAdd, Nat.reduceSub, Nat.reduceEqDiff, Nat.reduceLeDiff, Nat.lt_irrefl, Nat.reduceLT, Int.cast_ofNat_Int, wq_c0, wq_c1, true_and, and_true, and_self, true_implies, forall_const, ne_eq, Decidable.not_not, not_true_eq_false, not_false_eq_true, List.map_nil, List.map_cons, List.sum_nil, List.sum_cons, List.length_cons, List.length_nil, Nat.le_refl, Nat.zero_le, reduceCtorEq, true_or, or_true, false_or, or_false, false_and, and_false, false_implies, Nat.zero_add, Nat.add_zero, Int.reduceEq, Int.reduceNe, Int.reduceLT, Int.reduceLE, Int.reduceNeg, Int.reduceToNat, Nat.not_lt_zero, Int.reduceAdd, fxs F]
    simp (disch := omega) only [w32_of]
    rw [show 64 + l - 26 = 38 + l by omega]
    refine cM_says F O1 (by rw [List.length_append]; simp only [List.length_cons, List.length_nil]; omega) (fun M2 O2 => ?_)
    simp only [wq_g3, wq_gc, wq_g, wq_g1, wq_g2, eM_saysLetter, iM_saysLetter_0, iM_saysLetter_31, iM_saysLetter_39, vM_saysLetter, wps, x_cnd, reduceIte, Nat.reduceAdd, Nat.reduceSub, Nat.reduceEqDiff, Nat.reduceLeDiff, Nat.lt_irrefl, Nat.reduceLT, Int.cast_ofNat_Int, wq_c0, wq_c1, true_and, and_true, and_self, true_implies, forall_const, ne_eq, Decidable.not_not, not_true_eq_false, not_false_eq_true, List.map_nil, List.map_cons, List.sum_nil, List.sum_cons, List.length_cons, List.length_nil, Nat.le_refl, Nat.zero_le, reduceCtorEq, true_or, or_true, false_or, or_false, false_and, and_false, false_implies, Nat.zero_add, Nat.add_zero, Int.reduceEq, Int.reduceNe, Int.reduceLT, Int.reduceLE, Int.reduceNeg, Int.reduceToNat, Nat.not_lt_zero, Int.reduceAdd, fxs F]
    refine cM_says F O2 (by rw [List.length_append, List.length_append]; simp only [List.length_cons, List.length_nil]; omega) (fun M3 O3 => ?_)
    simp only [wq_g3, wq_gc, wq_g, wq_g1, wq_g2, eM_saysLetter, iM_saysLetter_0, iM_saysLetter_31, iM_saysLetter_39, vM_saysLetter, wps, x_cnd, reduceIte, Nat.reduceAdd, Nat.reduceSub, Nat.reduceEqDiff, Nat.reduceLeDiff, Nat.lt_irrefl, Nat.reduceLT, Int.cast_ofNat_Int, wq_c0, wq_c1, true_and, and_true, and_self, true_implies, forall_const, ne_eq, Decidable.not_not, not_true_eq_false, not_false_eq_true, List.map_nil, List.map_cons, List.sum_nil, List.sum_cons, List.length_cons, List.length_nil, Nat.le_refl, Nat.zero_le, reduceCtorEq, true_or, or_true, false_or, or_false, false_and, and_false, false_implies, Nat.zero_add, Nat.add_zero, Int.reduceEq, Int.reduceNe, Int.reduceLT, Int.reduceLE, Int.reduceNeg, Int.reduceToNat, Nat.not_lt_zero, Int.reduceAdd, fxs F]
    refine k M3 ?_
    unfold ltr
    rw [if_neg (by omega), if_neg h2, show [38 + l, 38 + l, 32] = [38 + l] ++ ([38 + l] ++ [32]) from rfl, ← List.append_assoc, ← List.append_assoc]
    exact O3
theorem wdm_len {its : Int} : ∀ p : Nat, (wdm its p).length ≤ p
  | 0 => Nat.le_refl _
  | p + 1 => by
    have := wdm_len (its := its) p
    unfold wdm
    rw [List.length_append]
    split
    · simp; omega
    · simp; omega
theorem cM_saysWord (F : Fx h) (O : OM M0 L M) {its : Int} (hl : L.length + 6 ≤ 2550) (k : ∀ M', OM M0 (L ++ wdm its 6) M' → Φ (.inl none) M' h) : x_Cal zM_saysWord [xA 41, xJ its] M h Φ := by
  refine x_metI kM_saysWord (Nat.le_of_ble_eq_true rfl) (fun t m ls st M' h' c n => t = 3 ∧ st = [] ∧ h' = h ∧ c = 0 ∧ n = 0 ∧ ls 0 = some (xA 41) ∧ ls 1 = some (xJ its) ∧ ∃ p : Nat, p ≤ 6 ∧ ls 3 = some (xI (25 - 5 * (p : Int))) ∧ m = 6 - p ∧ OM M0 (L ++ wdm its p) M') 20 ?_ ?_
  · simp only [wq_g3, wq_gc, wq_g, wq_g1, wq_g2, eM_saysWord, iM_saysWord_0, iM_saysWord_3, iM_saysWord_31, iM_saysWord_38, vM_saysWord, wps, x_cnd, reduceIte, Nat.reduceAdd, Nat.reduceSub, Nat.reduceEqDiff, Nat.reduceLeDiff, Nat.lt_irrefl, Nat.reduceLT, Int.cast_ofNat_Int, wq_c0, wq_c1, true_and, and_true, and_self, true_implies, forall_const, ne_eq, Decidable.not_not, not_true_eq_false, not_false_eq_true, List.map_nil, List.map_cons, List.sum_nil, List.sum_cons, List.length_cons, List.length_nil, Nat.le_refl, Nat.zero_le, reduceCtorEq, true_or, or_true, false_or, or_false, false_and, and_false, false_implies, Nat.zero_add, Nat.add_zero, Int.reduceEq, Int.reduceNe, Int.reduceLT, Int.reduceLE, Int.reduceNeg, Int.reduceToNat, Nat.not_lt_zero, Int.reduceAdd, fxs F]
    refine ⟨6 - 0, 0, by omega, by rw [Int.natCast_zero]; rfl, rfl, ?_⟩
    rw [wdm, List.append_nil]
    exact O
  · rintro t m ls st M1 h' c n ⟨rfl, rfl, rfl, rfl, rfl, l0, l1, p, p1, l3, p2, O1⟩
    have hw := wdm_len (its := its) p
    have hs : ∀ b : Prop, [Decidable b] → ∀ x y : List Int, b → (if b then x else y) = x := fun b _ x y hb => if_pos hb
    simp only [wq_g3, wq_gc, wq_g, wq_g1, wq_g2, eM_saysWord, iM_saysWord_0, iM_saysWord_3, iM_saysWord_31, iM_saysWord_38, vM_saysWord, wps, x_cnd, reduceIte, Nat.reduceAdd, Nat.reduceSub, Nat.reduceEqDiff, Nat.reduceLeDiff, Nat.lt_irrefl, Nat.reduceLT, Int.cast_ofNat_Int, wq_c0, wq_c1, true_and, and_true, and_self, true_implies, forall_const, ne_eq, Decidable.not_not, not_true_eq_false, not_false_eq_true, List.map_nil, List.map_cons, List.sum_nil, List.sum_cons, List.length_cons, List.length_nil, Nat.le_refl, Nat.zero_le, reduceCtorEq, true_or, or_true, false_or, or_false, false_and, and_false, false_implies, Nat.zero_add, Nat.add_zero, Int.reduceEq, Int.reduceNe, Int.reduceLT, Int.reduceLE, Int.reduceNeg, Int.reduceToNat, Nat.not_lt_zero, Int.reduceAdd, fxs F, l0, l1, l3]
    refine ⟨fun c0 => ?_, fun c0 => ?_⟩
    · rw [show p = 6 by omega] at O1
      exact k M1 O1
    · rw [w32_of (x := 25 - 5 * (p : Int) - 5) (by omega)]
      refine ⟨fun c1 => ⟨6 - (p + 1), by omega, p + 1, by omega, congrArg (fun z => some (xI z)) (by omega), rfl, ?_⟩, fun c1 => cM_says F O1 (by rw [List.length_append]; omega) (fun M2 O2 => ?_)⟩
      · rw [wdm, if_neg (by omega), List.append_nil]
        exact O1
      · simp only [wq_g3, wq_gc, wq_g, wq_g1, wq_g2, eM_saysWord, iM_saysWord_0, iM_saysWord_3, iM_saysWord_31, iM_saysWord_38, vM_saysWord, wps, x_cnd, reduceIte, Nat.reduceAdd, Nat.reduceSub, Nat.reduceEqDiff, Nat.reduceLeDiff, Nat.lt_irrefl, Nat.reduceLT, Int.cast_ofNat_Int, wq_c0, wq_c1, true_and, and_true, and_self, true_implies, forall_const, ne_eq, Decidable.not_not, not_true_eq_false, not_false_eq_true, List.map_nil, List.map_cons, List.sum_nil, List.sum_cons, List.length_cons, List.length_nil, Nat.le_refl, Nat.zero_le, reduceCtorEq, true_or, or_true, false_or, or_false, false_and, and_false, false_implies, Nat.zero_add, Nat.add_zero, Int.reduceEq, Int.reduceNe, Int.reduceLT, Int.reduceLE, Int.reduceNeg, Int.reduceToNat, Nat.not_lt_zero, Int.reduceAdd, fxs F, l0, l1, l3]
        rw [w32_of (x := 25 - 5 * (p : Int) - 5) (by omega)]
        refine ⟨6 - (p + 1), by omega, p + 1, by omega, congrArg (fun z => some (xI z)) (by omega), rfl, ?_⟩
        rw [wdm, if_pos (by omega), ← List.append_assoc]
        exact O2
/-- the lines item by item -/
def linI (S : xSr) (part : Int) : Nat → List Int
  | 0 => []
  | j + 1 => linI S part j ++ line S part (itS S part j).toNat
theorem lines_I {part : Int} : ∀ {k : Nat}, k ≤ (pN S).toNat → lines S part k = linI S part (cn (stt S part) k).toNat
  | 0, _ => rfl
  | k + 1, hk => by
    have hr := cn_rng (P := stt S part) (n := k)
    rw [lines_s, lines_I (show k ≤ (pN S).toNat by omega)]
    cases hst : stt S part k with
    | false => rw [if_neg (by decide), List.append_nil, cn_s0 hst]
    | true =>
      rw [if_pos rfl, cn_s1 hst, show (cn (stt S part) k + 1).toNat = (cn (stt S part) k).toNat + 1 by omega, linI]
      congr 1
      have h1 : itS S part ((cn (stt S part) k).toNat : Int) = k := by
        unfold itS
        rw [show (((cn (stt S part) k).toNat : Nat) : Int) = cn (stt S part) k by omega]
        exact nth_at (by omega) hst
      rw [h1, Int.toNat_natCast]
theorem linI_len {part : Int} : ∀ j : Nat, (linI S part j).length ≤ 17 * j
  | 0 => Nat.le_refl _
  | j + 1 => by
    have h1 := linI_len (part := part) j
    have h2 := line_len S part (itS S part j).toNat
    rw [linI, List.length_append]
    omega
theorem cM_saysItem (F : Fx h) (G : SG S (M 42)) (w : wfS S nid) (LL : LK S M) {part : Nat} (h6 : part < 6) (I : LI S part M) (O : OM M0 L M) {j : Nat} (hj : (j : Int) < itN S part) (hl : L.length + 17 ≤ 2550) (k : ∀ M', OM M0 (L ++ line S part (itS S part j).toNat) M' → Φ (.inl none) M' h) : x_Cal zM_saysItem [xA 41, xI part, xI j] M h Φ := by
  have hN := w.N
  have hpn := pN_rng (S := S)
  refine x_met0 kM_saysItem (Nat.le_of_ble_eq_true rfl) ?_
  simp only [wq_g3, wq_gc, wq_g, wq_g1, wq_g2, eM_saysItem, iM_saysItem_0, iM_saysItem_33, iM_saysItem_79, iM_saysItem_81, iM_saysItem_85, iM_saysItem_103, iM_saysItem_115, iM_saysItem_118, iM_saysItem_141, vM_saysItem, wps, x_cnd, reduceIte, Nat.reduceAdd, Nat.reduceSub, Nat.reduceEqDiff, Nat.reduceLeDiff, Nat.lt_irrefl, Nat.reduceLT, Int.cast_ofNat_Int, wq_c0, wq_c1, true_and, and_true, and_self, true_implies, forall_const, ne_eq, Decidable.not_not, not_true_eq_false, not_false_eq_true, List.map_nil, List.map_cons, List.sum_nil, List.sum_cons, List.length_cons, List.length_nil, Nat.le_refl, Nat.zero_le, reduceCtorEq, true_or, or_true, false_or, or_false, false_and, and_false, false_implies, Nat.zero_add, Nat.add_zero, Int.reduceEq, Int.reduceNe, Int.reduceLT, Int.reduceLE, Int.reduceNeg, Int.reduceToNat, Nat.not_lt_zero, Int.reduceAdd, fxs F]
  refine cM_firstPlace F LL I hN hj (fun a r a1 r1 r2 a2 => ?_)
  simp only [wq_g3, wq_gc, wq_g, wq_g1, wq_g2, eM_saysItem, iM_saysItem_0, iM_saysItem_33, iM_saysItem_79, iM_saysItem_81, iM_saysItem_85, iM_saysItem_103, iM_saysItem_115, iM_saysItem_118, iM_saysItem_141, vM_saysItem, wps, x_cnd, reduceIte, Nat.reduceAdd, Nat.reduceSub, Nat.reduceEqDiff, Nat.reduceLeDiff, Nat.lt_irrefl, Nat.reduceLT, Int.cast_ofNat_Int, wq_c0, wq_c1, true_and, and_true, and_self, true_implies, forall_const, ne_eq, Decidable.not_not, not_true_eq_false, not_false_eq_true, List.map_nil, List.map_cons, List.sum_nil, List.sum_cons, List.length_cons, List.length_nil, Nat.le_refl, Nat.zero_le, reduceCtorEq, true_or, or_true, false_or, or_false, false_and, and_false, false_implies, Nat.zero_add, Nat.add_zero, Int.reduceEq, Int.reduceNe, Int.reduceLT, Int.reduceLE, Int.reduceNeg, Int.reduceToNat, Nat.not_lt_zero, Int.reduceAdd, fxs F]
  refine cM_contentAt F G w r2 h6 ?_
  have hlt : 0 ≤ lt S r ∧ lt S r ≤ 40 := lt_rng
  have hlab := lab_rng r2 w
  have hcc := w.c r2 h6
  simp only [wq_g3, wq_gc, wq_g, wq_g1, wq_g2, eM_saysItem, iM_saysItem_0, iM_saysItem_33, iM_saysItem_79, iM_saysItem_81, iM_saysItem_85, iM_saysItem_103, iM_saysItem_115, iM_saysItem_118, iM_saysItem_141, vM_saysItem, wps, x_cnd, reduceIte, Nat.reduceAdd, Nat.reduceSub, Nat.reduceEqDiff, Nat.reduceLeDiff, Nat.lt_irrefl, Nat.reduceLT, Int.cast_ofNat_Int, wq_c0, wq_c1, true_and, and_true, and_self, true_implies, forall_const, ne_eq, Decidable.not_not, not_true_eq_false, not_false_eq_true, List.map_nil, List.map_cons, List.sum_nil, List.sum_cons, List.length_cons, List.length_nil, Nat.le_refl, Nat.zero_le, reduceCtorEq, true_or, or_true, false_or, or_false, false_and, and_false, false_implies, Nat.zero_add, Nat.add_zero, Int.reduceEq, Int.reduceNe, Int.reduceLT, Int.reduceLE, Int.reduceNeg, Int.reduceToNat, Nat.not_lt_zero, Int.reduceAdd, fxs F]
  have elb : M 47 r = lab S r := LL.lab r2
  have d1 : x_div (lab S r) 1000 = lab S r / 1000 := x_div_of (by omega)
  have d2 : x_rem (lab S r) 1000 = lab S r % 1000 := x_rem_of (by omega)
  have hfr : ∀ L1 M1, OM M0 L1 M1 → ∀ a j, ¬ ((a = 41 ∧ j = 33) ∨ a = 56) → M1 a j = M a j := fun L1 M1 O1 a j ha => (O1.2.2 a j ha).trans (O.2.2 a j ha).symm
  obtain ⟨a', e, g1, g2, g3, g4, g5, g6, -⟩ := LI_at I hj
  have haa : a' = a := by omega
  subst haa
  have hline : line S part (itS S part j).toNat = ltr (lt S r) ++ (lbl (lab S r) ++ (cw (sC S part r) ((e : Int) - a') ++ [10])) := by
    have g2' : nx (stt S part) a' (pN S).toNat = e := by
      have := g2
      unfold itE at this
      rw [g1, Int.toNat_natCast] at this
      omega
    unfold line
    rw [g1, Int.toNat_natCast, r1, g2', Int.toNat_natCast]
  rw [hline] at k
  have tail3 : ∀ (c its : Int) (ls : xL) (f : Nat) (L1 : List Int) (M1 : xM), ls 0 = some (xA 41) → ls 2 = some (xI j) → ls 4 = some (xI c) → sC S part r = c → (c = 0 ∧ its = 595572 ∨ c = 1 ∧ its = 536633 ∨ c = 2 ∧ its = 3749) → OM M0 L1 M1 → L1.length ≤ L.length + 8 → L ++ (ltr (lt S r) ++ (lbl (lab S r) ++ (cw (sC S part r) ((e : Int) - a') ++ [10]))) = L1 ++ (cw c ((e : Int) - a') ++ [10]) → x_Cal zM_saysWord [xA 41, xJ its] M1 h (x_k x_Cal (0, 0, 0, x_sc0) (wpG x_Cal (0, 0, 0, x_sc0) bM_saysItem (fun _ _ _ _ _ _ _ => False) Φ (f + 6)) Φ (iM_saysItem_118.drop 1) ls [] 0 0) := by
    intro c its ls f L1 M1 l0 l2 l4 hc hi O1 hL he
    have hw := wdm_len (its := its) 6
    rw [he] at k
    refine cM_saysWord F O1 (by omega) (fun M2 O2 => ?_)
    simp only [iM_saysItem_118, List.drop_succ_cons, List.drop_zero]
    have fin : ∀ (L2 : List Int) (M3 : xM) (Ψ : xO → xM → xH → Prop), OM M0 L2 M3 → L2 ++ [10] = L1 ++ (cw c ((e : Int) - a') ++ [10]) → L2.length < 2550 → (∀ M4, Φ (.inl none) M4 h → Ψ (.inl none) M4 h) → x_Cal zM_says [xA 41, xI 10] M3 h Ψ := fun L2 M3 Ψ O3 e2 hl2 kk => cM_says F O3 hl2 (fun M4 O4 => kk M4 (k M4 (by rw [← e2]; exact O4)))
    by_cases h0 : c = 0
    · have hits : its = 595572 := by omega
      subst h0 hits
      have h4 : (wdm 595572 6).length = 4 := by decide +kernel
      simp only [wq_g3, wq_gc, wq_g, wq_g1, wq_g2, eM_saysItem, iM_saysItem_0, iM_saysItem_33, iM_saysItem_79, iM_saysItem_81, iM_saysItem_85, iM_saysItem_103, iM_saysItem_115, iM_saysItem_118, iM_saysItem_141, vM_saysItem, wps, x_cnd, reduceIte, Nat.reduceAdd, Nat.reduceSub, Nat.reduceEqDiff, Nat.reduceLeDiff, Nat.lt_irrefl, Nat.reduceLT, Int.cast_ofNat_Int, wq_c0, wq_c1, true_and, and_true, and_self, true_implies, forall_const, ne_eq, Decidable.not_not, not_true_eq_false, not_false_eq_true, List.map_nil, List.map_cons, List.sum_nil, List.sum_cons, List.length_cons, List.length_nil, Nat.le_refl, Nat.zero_le, reduceCtorEq, true_or, or_true, false_or, or_false, false_and, and_false, false_implies, Nat.zero_add, Nat.add_zero, Int.reduceEq, Int.reduceNe, Int.reduceLT, Int.reduceLE, Int.reduceNeg, Int.reduceToNat, Nat.not_lt_zero, Int.reduceAdd, fxs F, l0, l2, l4]
      refine cM_says F O2 (by rw [List.length_append]; omega) (fun M3 O3 => ?_)
      simp only [wq_g3, wq_gc, wq_g, wq_g1, wq_g2, eM_saysItem, iM_saysItem_0, iM_saysItem_33, iM_saysItem_79, iM_saysItem_81, iM_saysItem_85, iM_saysItem_103, iM_saysItem_115, iM_saysItem_118, iM_saysItem_141, vM_saysItem, wps, x_cnd, reduceIte, Nat.reduceAdd, Nat.reduceSub, Nat.reduceEqDiff, Nat.reduceLeDiff, Nat.lt_irrefl, Nat.reduceLT, Int.cast_ofNat_Int, wq_c0, wq_c1, true_and, and_true, and_self, true_implies, forall_const, ne_eq, Decidable.not_not, not_true_eq_false, not_false_eq_true, List.map_nil, List.map_cons, List.sum_nil, List.sum_cons, List.length_cons, List.length_nil, Nat.le_refl, Nat.zero_le, reduceCtorEq, true_or, or_true, false_or, or_false, false_and, and_false, false_implies, Nat.zero_add, Nat.add_zero, Int.reduceEq, Int.reduceNe, Int.reduceLT, Int.reduceLE, Int.reduceNeg, Int.reduceToNat, Nat.not_lt_zero, Int.reduceAdd, fxs F, l0, l2, l4]
      have I3 : LI S part M3 := ⟨(hfr _ _ O3 41 28 (by decide)).trans I.1, fun q hq => (hfr _ _ O3 53 q (by omega)).trans (I.2.1 q hq), (hfr _ _ O3 53 _ (by omega)).trans I.2.2⟩
      refine cM_sizeOf F I3 (by omega) hj ?_
      rw [g1, g2]
      simp only [wq_g3, wq_gc, wq_g, wq_g1, wq_g2, eM_saysItem, iM_saysItem_0, iM_saysItem_33, iM_saysItem_79, iM_saysItem_81, iM_saysItem_85, iM_saysItem_103, iM_saysItem_115, iM_saysItem_118, iM_saysItem_141, vM_saysItem, wps, x_cnd, reduceIte, Nat.reduceAdd, Nat.reduceSub, Nat.reduceEqDiff, Nat.reduceLeDiff, Nat.lt_irrefl, Nat.reduceLT, Int.cast_ofNat_Int, wq_c0, wq_c1, true_and, and_true, and_self, true_implies, forall_const, ne_eq, Decidable.not_not, not_true_eq_false, not_false_eq_true, List.map_nil, List.map_cons, List.sum_nil, List.sum_cons, List.length_cons, List.length_nil, Nat.le_refl, Nat.zero_le, reduceCtorEq, true_or, or_true, false_or, or_false, false_and, and_false, false_implies, Nat.zero_add, Nat.add_zero, Int.reduceEq, Int.reduceNe, Int.reduceLT, Int.reduceLE, Int.reduceNeg, Int.reduceToNat, Nat.not_lt_zero, Int.reduceAdd, fxs F, l0, l2, l4]
      refine cM_saysNumber F O3 (by rw [List.length_append, List.length_append]; simp only [List.length_cons, List.length_nil]; omega) (by omega) (fun M4 O4 => ?_)
      have hdl := dg_len ((e : Int) - a')
      simp only [wq_g3, wq_gc, wq_g, wq_g1, wq_g2, eM_saysItem, iM_saysItem_0, iM_saysItem_33, iM_saysItem_79, iM_saysItem_81, iM_saysItem_85, iM_saysItem_103, iM_saysItem_115, iM_saysItem_118, iM_saysItem_141, vM_saysItem, wps, x_cnd, reduceIte, Nat.reduceAdd, Nat.reduceSub, Nat.reduceEqDiff, Nat.reduceLeDiff, Nat.lt_irrefl, Nat.reduceLT, Int.cast_ofNat_Int, wq_c0, wq_c1, true_and, and_true, and_self, true_implies, forall_const, ne_eq, Decidable.not_not, not_true_eq_false, not_false_eq_true, List.map_nil, List.map_cons, List.sum_nil, List.sum_cons, List.length_cons, List.length_nil, Nat.le_refl, Nat.zero_le, reduceCtorEq, true_or, or_true, false_or, or_false, false_and, and_false, false_implies, Nat.zero_add, Nat.add_zero, Int.reduceEq, Int.reduceNe, Int.reduceLT, Int.reduceLE, Int.reduceNeg, Int.reduceToNat, Nat.not_lt_zero, Int.reduceAdd, fxs F, l0, l2, l4]
      refine fin _ M4 _ O4 ?_ (by rw [List.length_append, List.length_append, List.length_append]; simp only [List.length_cons, List.length_nil]; omega) (fun M5 q => ?_)
      · unfold cw
        rw [if_neg (by decide), if_neg (by decide), ← wdm_e.2.2]
        simp only [List.append_assoc]
      · simp only [wq_g3, wq_gc, wq_g, wq_g1, wq_g2, eM_saysItem, iM_saysItem_0, iM_saysItem_33, iM_saysItem_79, iM_saysItem_81, iM_saysItem_85, iM_saysItem_103, iM_saysItem_115, iM_saysItem_118, iM_saysItem_141, vM_saysItem, wps, x_cnd, reduceIte, Nat.reduceAdd, Nat.reduceSub, Nat.reduceEqDiff, Nat.reduceLeDiff, Nat.lt_irrefl, Nat.reduceLT, Int.cast_ofNat_Int, wq_c0, wq_c1, true_and, and_true, and_self, true_implies, forall_const, ne_eq, Decidable.not_not, not_true_eq_false, not_false_eq_true, List.map_nil, List.map_cons, List.sum_nil, List.sum_cons, List.length_cons, List.length_nil, Nat.le_refl, Nat.zero_le, reduceCtorEq, true_or, or_true, false_or, or_false, false_and, and_false, false_implies, Nat.zero_add, Nat.add_zero, Int.reduceEq, Int.reduceNe, Int.reduceLT, Int.reduceLE, Int.reduceNeg, Int.reduceToNat, Nat.not_lt_zero, Int.reduceAdd, fxs F]
        exact q
    · simp only [wq_g3, wq_gc, wq_g, wq_g1, wq_g2, eM_saysItem, iM_saysItem_0, iM_saysItem_33, iM_saysItem_79, iM_saysItem_81, iM_saysItem_85, iM_saysItem_103, iM_saysItem_115, iM_saysItem_118, iM_saysItem_141, vM_saysItem, wps, x_cnd, reduceIte, Nat.reduceAdd, Nat.reduceSub, Nat.reduceEqDiff, Nat.reduceLeDiff, Nat.lt_irrefl, Nat.reduceLT, Int.cast_ofNat_Int, wq_c0, wq_c1, true_and, and_true, and_self, true_implies, forall_const, ne_eq, Decidable.not_not, not_true_eq_false, not_false_eq_true, List.map_nil, List.map_cons, List.sum_nil, List.sum_cons, List.length_cons, List.length_nil, Nat.le_refl, Nat.zero_le, reduceCtorEq, true_or, or_true, false_or, or_false, false_and, and_false, false_implies, Nat.zero_add, Nat.add_zero, Int.reduceEq, Int.reduceNe, Int.reduceLT, Int.reduceLE, Int.reduceNeg, Int.reduceToNat, Nat.not_lt_zero, Int.reduceAdd, fxs F, l0, l2, l4]
      refine ⟨fun _ => ?_, fun q => absurd q h0⟩
      refine fin _ M2 _ O2 ?_ (by rw [List.length_append]; omega) (fun M5 q => ?_)
      · rcases hi with ⟨hc0, -⟩ | ⟨hc1, hi1⟩ | ⟨hc2, hi2⟩
        · exact absurd hc0 h0
        · subst hc1 hi1
          unfold cw
          rw [if_pos rfl, ← wdm_e.1, List.append_assoc]
        · subst hc2 hi2
          unfold cw
          rw [if_neg (by decide), if_pos rfl, ← wdm_e.2.1, List.append_assoc]
      · simp only [wq_g3, wq_gc, wq_g, wq_g1, wq_g2, eM_saysItem, iM_saysItem_0, iM_saysItem_33, iM_saysItem_79, iM_saysItem_81, iM_saysItem_85, iM_saysItem_103, iM_saysItem_115, iM_saysItem_118, iM_saysItem_141, vM_saysItem, wps, x_cnd, reduceIte, Nat.reduceAdd, Nat.reduceSub, Nat.reduceEqDiff, Nat.reduceLeDiff, Nat.lt_irrefl, Nat.reduceLT, Int.cast_ofNat_Int, wq_c0, wq_c1, true_and, and_true, and_self, true_implies, forall_const, ne_eq, Decidable.not_not, not_true_eq_false, not_false_eq_true, List.map_nil, List.map_cons, List.sum_nil, List.sum_cons, List.length_cons, List.length_nil, Nat.le_refl, Nat.zero_le, reduceCtorEq, true_or, or_true, false_or, or_false, false_and, and_false, false_implies, Nat.zero_add, Nat.add_zero, Int.reduceEq, Int.reduceNe, Int.reduceLT, Int.reduceLE, Int.reduceNeg, Int.reduceToNat, Nat.not_lt_zero, Int.reduceAdd, fxs F]
        exact q
  have tail2 : ∀ (ls : xL) (f : Nat) (L1 : List Int) (M1 : xM), ls 0 = some (xA 41) → ls 2 = some (xI j) → ls 4 = some (xI (sC S part r)) → OM M0 L1 M1 → L1.length ≤ L.length + 7 → L ++ (ltr (lt S r) ++ (lbl (lab S r) ++ (cw (sC S part r) ((e : Int) - a') ++ [10]))) = L1 ++ ([32] ++ (cw (sC S part r) ((e : Int) - a') ++ [10])) → x_Cal zM_says [xA 41, xI 32] M1 h (x_k x_Cal (0, 0, 0, x_sc0) (wpG x_Cal (0, 0, 0, x_sc0) bM_saysItem (fun _ _ _ _ _ _ _ => False) Φ (f + 10)) Φ (iM_saysItem_85.drop 3) ls [] 0 0) := by
    intro ls f L1 M1 l0 l2 l4 O1 hL he
    refine cM_says F O1 (by omega) (fun M2 O2 => ?_)
    simp only [iM_saysItem_85, List.drop_succ_cons, List.drop_zero]
    have hL2 : (L1 ++ [32]).length ≤ L.length + 8 := by rw [List.length_append]; simp only [List.length_cons, List.length_nil]; omega
    have he2 : L ++ (ltr (lt S r) ++ (lbl (lab S r) ++ (cw (sC S part r) ((e : Int) - a') ++ [10]))) = (L1 ++ [32]) ++ (cw (sC S part r) ((e : Int) - a') ++ [10]) := by rw [he, List.append_assoc]
    by_cases h0 : sC S part r = 0
    · rw [h0] at l4
      simp only [wq_g3, wq_gc, wq_g, wq_g1, wq_g2, eM_saysItem, iM_saysItem_0, iM_saysItem_33, iM_saysItem_79, iM_saysItem_81, iM_saysItem_85, iM_saysItem_103, iM_saysItem_115, iM_saysItem_118, iM_saysItem_141, vM_saysItem, wps, x_cnd, reduceIte, Nat.reduceAdd, Nat.reduceSub, Nat.reduceEqDiff, Nat.reduceLeDiff, Nat.lt_irrefl, Nat.reduceLT, Int.cast_ofNat_Int, wq_c0, wq_c1, true_and, and_true, and_self, true_implies, forall_const, ne_eq, Decidable.not_not, not_true_eq_false, not_false_eq_true, List.map_nil, List.map_cons, List.sum_nil, List.sum_cons, List.length_cons, List.length_nil, Nat.le_refl, Nat.zero_le, reduceCtorEq, true_or, or_true, false_or, or_false, false_and, and_false, false_implies, Nat.zero_add, Nat.add_zero, Int.reduceEq, Int.reduceNe, Int.reduceLT, Int.reduceLE, Int.reduceNeg, Int.reduceToNat, Nat.not_lt_zero, Int.reduceAdd, fxs F, l0, l2, l4]
      rw [h0] at he2
      exact tail3 0 _ _ (f + 3) _ M2 l0 l2 l4 h0 (Or.inl ⟨rfl, rfl⟩) O2 hL2 (by rw [h0]; exact he2)
    · by_cases h1 : sC S part r = 1
      · rw [h1] at l4
        simp only [wq_g3, wq_gc, wq_g, wq_g1, wq_g2, eM_saysItem, iM_saysItem_0, iM_saysItem_33, iM_saysItem_79, iM_saysItem_81, iM_saysItem_85, iM_saysItem_103, iM_saysItem_115, iM_saysItem_118, iM_saysItem_141, vM_saysItem, wps, x_cnd, reduceIte, Nat.reduceAdd, Nat.reduceSub, Nat.reduceEqDiff, Nat.reduceLeDiff, Nat.lt_irrefl, Nat.reduceLT, Int.cast_ofNat_Int, wq_c0, wq_c1, true_and, and_true, and_self, true_implies, forall_const, ne_eq, Decidable.not_not, not_true_eq_false, not_false_eq_true, List.map_nil, List.map_cons, List.sum_nil, List.sum_cons, List.length_cons, List.length_nil, Nat.le_refl, Nat.zero_le, reduceCtorEq, true_or, or_true, false_or, or_false, false_and, and_false, false_implies, Nat.zero_add, Nat.add_zero, Int.reduceEq, Int.reduceNe, Int.reduceLT, Int.reduceLE, Int.reduceNeg, Int.reduceToNat, Nat.not_lt_zero, Int.reduceAdd, fxs F, l0, l2, l4]
        rw [h1] at he2
        exact tail3 1 _ _ (f + 2) _ M2 l0 l2 l4 h1 (Or.inr (Or.inl ⟨rfl, rfl⟩)) O2 hL2 (by rw [h1]; exact he2)
      · have h2 : sC S part r = 2 := by omega
        rw [h2] at l4
        simp only [wq_g3, wq_gc, wq_g, wq_g1, wq_g2, eM_saysItem, iM_saysItem_0, iM_saysItem_33, iM_saysItem_79, iM_saysItem_81, iM_saysItem_85, iM_saysItem_103, iM_saysItem_115, iM_saysItem_118, iM_saysItem_141, vM_saysItem, wps, x_cnd, reduceIte, Nat.reduceAdd, Nat.reduceSub, Nat.reduceEqDiff, Nat.reduceLeDiff, Nat.lt_irrefl, Nat.reduceLT, Int.cast_ofNat_Int, wq_c0, wq_c1, true_and, and_true, and_self, true_implies, forall_const, ne_eq, Decidable.not_not, not_true_eq_false, not_false_eq_true, List.map_nil, List.map_cons, List.sum_nil, List.sum_cons, List.length_cons, List.length_nil, Nat.le_refl, Nat.zero_le, reduceCtorEq, true_or, or_true, false_or, or_false, false_and, and_false, false_implies, Nat.zero_add, Nat.add_zero, Int.reduceEq, Int.reduceNe, Int.reduceLT, Int.reduceLE, Int.reduceNeg, Int.reduceToNat, Nat.not_lt_zero, Int.reduceAdd, fxs F, l0, l2, l4]
        rw [h2] at he2
        exact tail3 2 _ _ (f + 1) _ M2 l0 l2 l4 h2 (Or.inr (Or.inr ⟨rfl, rfl⟩)) O2 hL2 (by rw [h2]; exact he2)
  have tail1 : ∀ (ls : xL) (f : Nat) (L1 : List Int) (M1 : xM), ls 0 = some (xA 41) → ls 2 = some (xI j) → ls 3 = some (xI r) → ls 4 = some (xI (sC S part r)) → OM M0 L1 M1 → L1.length ≤ L.length + 3 → L ++ (ltr (lt S r) ++ (lbl (lab S r) ++ (cw (sC S part r) ((e : Int) - a') ++ [10]))) = L1 ++ (lbl (lab S r) ++ (cw (sC S part r) ((e : Int) - a') ++ [10])) → x_Cal zM_saysNumber [xA 41, xI (lab S r / 1000)] M1 h (x_k x_Cal (0, 0, 0, x_sc0) (wpG x_Cal (0, 0, 0, x_sc0) bM_saysItem (fun _ _ _ _ _ _ _ => False) Φ (f + 15)) Φ (iM_saysItem_33.drop 8) ls [] 0 0) := by
    intro ls f L1 M1 l0 l2 l3 l4 O1 hL he
    have hdl := dg_len (lab S r / 1000)
    refine cM_saysNumber F O1 (by omega) (by omega) (fun M2 O2 => ?_)
    have e47 : M2 47 r = lab S r := (hfr _ _ O2 47 r (by omega)).trans elb
    simp only [iM_saysItem_33, List.drop_succ_cons, List.drop_zero]
    unfold lbl at he
    have u4 : ∀ v : Int, x_up ls 5 (xI v) 4 = some (xI (sC S part r)) := fun v => by
      show x_nl (ls 4) = _
      rw [l4]
      rfl
    by_cases h0 : lab S r % 1000 = 0
    · simp only [wq_g3, wq_gc, wq_g, wq_g1, wq_g2, eM_saysItem, iM_saysItem_0, iM_saysItem_33, iM_saysItem_79, iM_saysItem_81, iM_saysItem_85, iM_saysItem_103, iM_saysItem_115, iM_saysItem_118, iM_saysItem_141, vM_saysItem, wps, x_cnd, reduceIte, Nat.reduceAdd, Nat.reduceSub, Nat.reduceEqDiff, Nat.reduceLeDiff, Nat.lt_irrefl, Nat.reduceLT, Int.cast_ofNat_Int, wq_c0, wq_c1, true_and, and_true, and_self, true_implies, forall_const, ne_eq, Decidable.not_not, not_true_eq_false, not_false_eq_true, List.map_nil, List.map_cons, List.sum_nil, List.sum_cons, List.length_cons, List.length_nil, Nat.le_refl, Nat.zero_le, reduceCtorEq, true_or, or_true, false_or, or_false, false_and, and_false, false_implies, Nat.zero_add, Nat.add_zero, Int.reduceEq, Int.reduceNe, Int.reduceLT, Int.reduceLE, Int.reduceNeg, Int.reduceToNat, Nat.not_lt_zero, Int.reduceAdd, fxs F, l0, l2, l3, l4, e47, d2, h0]
      rw [if_pos h0, List.nil_append] at he
      refine ⟨by omega, tail2 _ (f + 4) _ M2 l0 l2 (u4 _) O2 (by rw [List.length_append]; omega) ?_⟩
      unfold lbl
      rw [if_pos h0, List.nil_append, he]
      simp only [List.append_assoc]
    · by_cases h1 : lab S r % 1000 ≤ 26
      · have h2 : ¬ lab S r % 1000 ≤ 0 := by omega
        simp only [wq_g3, wq_gc, wq_g, wq_g1, wq_g2, eM_saysItem, iM_saysItem_0, iM_saysItem_33, iM_saysItem_79, iM_saysItem_81, iM_saysItem_85, iM_saysItem_103, iM_saysItem_115, iM_saysItem_118, iM_saysItem_141, vM_saysItem, wps, x_cnd, reduceIte, Nat.reduceAdd, Nat.reduceSub, Nat.reduceEqDiff, Nat.reduceLeDiff, Nat.lt_irrefl, Nat.reduceLT, Int.cast_ofNat_Int, wq_c0, wq_c1, true_and, and_true, and_self, true_implies, forall_const, ne_eq, Decidable.not_not, not_true_eq_false, not_false_eq_true, List.map_nil, List.map_cons, List.sum_nil, List.sum_cons, List.length_cons, List.length_nil, Nat.le_refl, Nat.zero_le, reduceCtorEq, true_or, or_true, false_or, or_false, false_and, and_false, false_implies, Nat.zero_add, Nat.add_zero, Int.reduceEq, Int.reduceNe, Int.reduceLT, Int.reduceLE, Int.reduceNeg, Int.reduceToNat, Nat.not_lt_zero, Int.reduceAdd, fxs F, l0, l2, l3, l4, e47, d2, h2, h1]
        rw [if_neg h0] at he
        rw [show min (lab S r % 1000) 26 = lab S r % 1000 by omega] at he
        rw [w32_of (by omega)]
        refine ⟨by omega, cM_says F O2 (by rw [List.length_append]; omega) (fun M3 O3 => ?_)⟩
        simp only [wq_g3, wq_gc, wq_g, wq_g1, wq_g2, eM_saysItem, iM_saysItem_0, iM_saysItem_33, iM_saysItem_79, iM_saysItem_81, iM_saysItem_85, iM_saysItem_103, iM_saysItem_115, iM_saysItem_118, iM_saysItem_141, vM_saysItem, wps, x_cnd, reduceIte, Nat.reduceAdd, Nat.reduceSub, Nat.reduceEqDiff, Nat.reduceLeDiff, Nat.lt_irrefl, Nat.reduceLT, Int.cast_ofNat_Int, wq_c0, wq_c1, true_and, and_true, and_self, true_implies, forall_const, ne_eq, Decidable.not_not, not_true_eq_false, not_false_eq_true, List.map_nil, List.map_cons, List.sum_nil, List.sum_cons, List.length_cons, List.length_nil, Nat.le_refl, Nat.zero_le, reduceCtorEq, true_or, or_true, false_or, or_false, false_and, and_false, false_implies, Nat.zero_add, Nat.add_zero, Int.reduceEq, Int.reduceNe, Int.reduceLT, Int.reduceLE, Int.reduceNeg, Int.reduceToNat, Nat.not_lt_zero, Int.reduceAdd, fxs F, l0, l2, l3, l4]
        refine tail2 _ (f + 2) _ M3 l0 l2 (u4 _) O3 (by rw [List.length_append, List.length_append]; simp only [List.length_cons, List.length_nil]; omega) ?_
        unfold lbl
        rw [if_neg h0, show min (lab S r % 1000) 26 = lab S r % 1000 by omega, he]
        simp only [List.append_assoc]
      · have h2 : ¬ lab S r % 1000 ≤ 0 := by omega
        simp only [wq_g3, wq_gc, wq_g, wq_g1, wq_g2, eM_saysItem, iM_saysItem_0, iM_saysItem_33, iM_saysItem_79, iM_saysItem_81, iM_saysItem_85, iM_saysItem_103, iM_saysItem_115, iM_saysItem_118, iM_saysItem_141, vM_saysItem, wps, x_cnd, reduceIte, Nat.reduceAdd, Nat.reduceSub, Nat.reduceEqDiff, Nat.reduceLeDiff, Nat.lt_irrefl, Nat.reduceLT, Int.cast_ofNat_Int, wq_c0, wq_c1, true_and, and_true, and_self, true_implies, forall_const, ne_eq, Decidable.not_not, not_true_eq_false, not_false_eq_true, List.map_nil, List.map_cons, List.sum_nil, List.sum_cons, List.length_cons, List.length_nil, Nat.le_refl, Nat.zero_le, reduceCtorEq, true_or, or_true, false_or, or_false, false_and, and_false, false_implies, Nat.zero_add, Nat.add_zero, Int.reduceEq, Int.reduceNe, Int.reduceLT, Int.reduceLE, Int.reduceNeg, Int.reduceToNat, Nat.not_lt_zero, Int.reduceAdd, fxs F, l0, l2, l3, l4, e47, d2, h2, h1]
        rw [if_neg h0, show min (lab S r % 1000) 26 = 26 by omega] at he
        rw [w32_of (by omega)]
        refine ⟨by omega, cM_says F O2 (by rw [List.length_append]; omega) (fun M3 O3 => ?_)⟩
        simp only [wq_g3, wq_gc, wq_g, wq_g1, wq_g2, eM_saysItem, iM_saysItem_0, iM_saysItem_33, iM_saysItem_79, iM_saysItem_81, iM_saysItem_85, iM_saysItem_103, iM_saysItem_115, iM_saysItem_118, iM_saysItem_141, vM_saysItem, wps, x_cnd, reduceIte, Nat.reduceAdd, Nat.reduceSub, Nat.reduceEqDiff, Nat.reduceLeDiff, Nat.lt_irrefl, Nat.reduceLT, Int.cast_ofNat_Int, wq_c0, wq_c1, true_and, and_true, and_self, true_implies, forall_const, ne_eq, Decidable.not_not, not_true_eq_false, not_false_eq_true, List.map_nil, List.map_cons, List.sum_nil, List.sum_cons, List.length_cons, List.length_nil, Nat.le_refl, Nat.zero_le, reduceCtorEq, true_or, or_true, false_or, or_false, false_and, and_false, false_implies, Nat.zero_add, Nat.add_zero, Int.reduceEq, Int.reduceNe, Int.reduceLT, Int.reduceLE, Int.reduceNeg, Int.reduceToNat, Nat.not_lt_zero, Int.reduceAdd, fxs F, l0, l2, l3, l4]
        refine tail2 _ (f + 3) _ M3 l0 l2 (u4 _) O3 (by rw [List.length_append, List.length_append]; simp only [List.length_cons, List.length_nil]; omega) ?_
        unfold lbl
        rw [if_neg h0, show min (lab S r % 1000) 26 = 26 by omega, he]
        simp only [List.append_assoc]
        rfl
  rw [LL.lt r2, elb, d1]
  refine ⟨by omega, fun c0 => ⟨by omega, ?_⟩, fun c0 => ⟨by omega, cM_saysLetter F O (by omega) (by omega) (fun M1 O1 => ?_)⟩⟩
  · have hz : ltr (lt S r) = [] := if_pos (by omega)
    exact tail1 _ 3 L M rfl rfl rfl rfl O (by omega) (by rw [hz, List.nil_append])
  · have e47 : M1 47 r = lab S r := (hfr _ _ O1 47 r (by omega)).trans elb
    have hll := ltr_len (lt S r)
    simp only [wq_g3, wq_gc, wq_g, wq_g1, wq_g2, eM_saysItem, iM_saysItem_0, iM_saysItem_33, iM_saysItem_79, iM_saysItem_81, iM_saysItem_85, iM_saysItem_103, iM_saysItem_115, iM_saysItem_118, iM_saysItem_141, vM_saysItem, wps, x_cnd, reduceIte, Nat.reduceAdd, Nat.reduceSub, Nat.reduceEqDiff, Nat.reduceLeDiff, Nat.lt_irrefl, Nat.reduceLT, Int.cast_ofNat_Int, wq_c0, wq_c1, true_and, and_true, and_self, true_implies, forall_const, ne_eq, Decidable.not_not, not_true_eq_false, not_false_eq_true, List.map_nil, List.map_cons, List.sum_nil, List.sum_cons, List.length_cons, List.length_nil, Nat.le_refl, Nat.zero_le, reduceCtorEq, true_or, or_true, false_or, or_false, false_and, and_false, false_implies, Nat.zero_add, Nat.add_zero, Int.reduceEq, Int.reduceNe, Int.reduceLT, Int.reduceLE, Int.reduceNeg, Int.reduceToNat, Nat.not_lt_zero, Int.reduceAdd, fxs F, e47, d1]
    exact ⟨by omega, tail1 _ 3 _ M1 rfl rfl rfl rfl O1 (by rw [List.length_append]; omega) (by rw [List.append_assoc])⟩
theorem cM_writePart (W : MW A M h) {part : Int} (k : ∀ u M', MW (dWrite A part).2 M' h → FM M M' → MA (xk [2]) (dWrite A part).1 u M' → Φ (.inl (some (xI u))) M' h) : x_Cal zM_writePart [xA 41, xI part] M h Φ := by
  have F := W.F
  have hN := W.w.N
  have hP := W.w.P
  have hpn := pN_rng (S := aS A)
  have hit := itN_rng (S := aS A) (part := part)
  unfold dWrite at k
  refine x_metI kM_writePart (Nat.le_of_ble_eq_true rfl) (fun t m ls st M' h' c n2 => t = 34 ∧ st = [] ∧ h' = h ∧ c = 0 ∧ n2 = 0 ∧ ls 0 = some (xA 41) ∧ ls 1 = some (xI part) ∧ (0 ≤ part ∧ part < sP (aS A)) ∧ ∃ (j : Nat) (M2 : xM), (j : Int) ≤ itN (aS A) part ∧ m = (itN (aS A) part).toNat - j ∧ ls 2 = some (xI j) ∧ MW A M2 h ∧ LK (aS A) M2 ∧ LI (aS A) part M2 ∧ FM M M2 ∧ M2 41 0 = 0 ∧ OM M2 (linI (aS A) part j) M') 20 ?_ ?_
  · simp only [wq_g3, wq_gc, wq_g, wq_g1, wq_g2, eM_writePart, iM_writePart_0, iM_writePart_13, iM_writePart_14, iM_writePart_22, iM_writePart_34, iM_writePart_54, vM_writePart, wps, x_cnd, reduceIte, Nat.reduceAdd, Nat.reduceSub, Nat.reduceEqDiff, Nat.reduceLeDiff, Nat.lt_irrefl, Nat.reduceLT, Int.cast_ofNat_Int, wq_c0, wq_c1, true_and, and_true, and_self, true_implies, forall_const, ne_eq, Decidable.not_not, not_true_eq_false, not_false_eq_true, List.map_nil, List.map_cons, List.sum_nil, List.sum_cons, List.length_cons, List.length_nil, Nat.le_refl, Nat.zero_le, reduceCtorEq, true_or, or_true, false_or, or_false, false_and, and_false, false_implies, Nat.zero_add, Nat.add_zero, Int.reduceEq, Int.reduceNe, Int.reduceLT, Int.reduceLE, Int.reduceNeg, Int.reduceToNat, Nat.not_lt_zero, Int.reduceAdd, fxs F]
    refine cM_isPart F W.G W.w ?_
    simp only [wq_g3, wq_gc, wq_g, wq_g1, wq_g2, eM_writePart, iM_writePart_0, iM_writePart_13, iM_writePart_14, iM_writePart_22, iM_writePart_34, iM_writePart_54, vM_writePart, wps, x_cnd, reduceIte, Nat.reduceAdd, Nat.reduceSub, Nat.reduceEqDiff, Nat.reduceLeDiff, Nat.lt_irrefl, Nat.reduceLT, Int.cast_ofNat_Int, wq_c0, wq_c1, true_and, and_true, and_self, true_implies, forall_const, ne_eq, Decidable.not_not, not_true_eq_false, not_false_eq_true, List.map_nil, List.map_cons, List.sum_nil, List.sum_cons, List.length_cons, List.length_nil, Nat.le_refl, Nat.zero_le, reduceCtorEq, true_or, or_true, false_or, or_false, false_and, and_false, false_implies, Nat.zero_add, Nat.add_zero, Int.reduceEq, Int.reduceNe, Int.reduceLT, Int.reduceLE, Int.reduceNeg, Int.reduceToNat, Nat.not_lt_zero, Int.reduceAdd, fxs F, b01_0]
    refine ⟨fun c0 => cM_ref1 F (by decide) ?_, fun c0 => cM_ref0 F ?_⟩
    · simp only [wq_g3, wq_gc, wq_g, wq_g1, wq_g2, eM_writePart, iM_writePart_0, iM_writePart_13, iM_writePart_14, iM_writePart_22, iM_writePart_34, iM_writePart_54, vM_writePart, wps, x_cnd, reduceIte, Nat.reduceAdd, Nat.reduceSub, Nat.reduceEqDiff, Nat.reduceLeDiff, Nat.lt_irrefl, Nat.reduceLT, Int.cast_ofNat_Int, wq_c0, wq_c1, true_and, and_true, and_self, true_implies, forall_const, ne_eq, Decidable.not_not, not_true_eq_false, not_false_eq_true, List.map_nil, List.map_cons, List.sum_nil, List.sum_cons, List.length_cons, List.length_nil, Nat.le_refl, Nat.zero_le, reduceCtorEq, true_or, or_true, false_or, or_false, false_and, and_false, false_implies, Nat.zero_add, Nat.add_zero, Int.reduceEq, Int.reduceNe, Int.reduceLT, Int.reduceLE, Int.reduceNeg, Int.reduceToNat, Nat.not_lt_zero, Int.reduceAdd, fxs F]
      rw [if_neg c0] at k
      exact k _ _ W.thr (FM.r.w (by decide)) (ma_e w_eq rfl rfl)
    · simp only [wq_g3, wq_gc, wq_g, wq_g1, wq_g2, eM_writePart, iM_writePart_0, iM_writePart_13, iM_writePart_14, iM_writePart_22, iM_writePart_34, iM_writePart_54, vM_writePart, wps, x_cnd, reduceIte, Nat.reduceAdd, Nat.reduceSub, Nat.reduceEqDiff, Nat.reduceLeDiff, Nat.lt_irrefl, Nat.reduceLT, Int.cast_ofNat_Int, wq_c0, wq_c1, true_and, and_true, and_self, true_implies, forall_const, ne_eq, Decidable.not_not, not_true_eq_false, not_false_eq_true, List.map_nil, List.map_cons, List.sum_nil, List.sum_cons, List.length_cons, List.length_nil, Nat.le_refl, Nat.zero_le, reduceCtorEq, true_or, or_true, false_or, or_false, false_and, and_false, false_implies, Nat.zero_add, Nat.add_zero, Int.reduceEq, Int.reduceNe, Int.reduceLT, Int.reduceLE, Int.reduceNeg, Int.reduceToNat, Nat.not_lt_zero, Int.reduceAdd, fxs F]
      obtain ⟨q, rfl⟩ : ∃ q : Nat, part = q := ⟨part.toNat, by omega⟩
      refine cM_laysItems W.thr (by omega) (fun M2 W2 L2 I2 f2 t2 => ?_)
      simp only [wq_g3, wq_gc, wq_g, wq_g1, wq_g2, eM_writePart, iM_writePart_0, iM_writePart_13, iM_writePart_14, iM_writePart_22, iM_writePart_34, iM_writePart_54, vM_writePart, wps, x_cnd, reduceIte, Nat.reduceAdd, Nat.reduceSub, Nat.reduceEqDiff, Nat.reduceLeDiff, Nat.lt_irrefl, Nat.reduceLT, Int.cast_ofNat_Int, wq_c0, wq_c1, true_and, and_true, and_self, true_implies, forall_const, ne_eq, Decidable.not_not, not_true_eq_false, not_false_eq_true, List.map_nil, List.map_cons, List.sum_nil, List.sum_cons, List.length_cons, List.length_nil, Nat.le_refl, Nat.zero_le, reduceCtorEq, true_or, or_true, false_or, or_false, false_and, and_false, false_implies, Nat.zero_add, Nat.add_zero, Int.reduceEq, Int.reduceNe, Int.reduceLT, Int.reduceLE, Int.reduceNeg, Int.reduceToNat, Nat.not_lt_zero, Int.reduceAdd, fxs F]
      refine ⟨(itN (aS A) q).toNat - 0, c0, 0, M2, hit.1, rfl, rfl, W2, L2, I2, fun a j ha => (f2 a j ha).trans (w_ne (by omega)), t2.trans w_eq, w_eq, fun i hi => absurd hi (Nat.not_lt_zero i), fun a j ha => if_neg (by omega)⟩
  · rintro t m ls st M1 h' c n2 ⟨rfl, rfl, rfl, rfl, rfl, l0, l1, c0, j, M2, j1, j2, l2, W2, L2, I2, f2, t2, O⟩
    obtain ⟨q, rfl⟩ : ∃ q : Nat, part = q := ⟨part.toNat, by omega⟩
    have e28 : M1 41 28 = itN (aS A) q := (O.2.2 41 28 (by decide)).trans I2.1
    have hll := linI_len (S := aS A) (part := q) j
    simp only [wq_g3, wq_gc, wq_g, wq_g1, wq_g2, eM_writePart, iM_writePart_0, iM_writePart_13, iM_writePart_14, iM_writePart_22, iM_writePart_34, iM_writePart_54, vM_writePart, wps, x_cnd, reduceIte, Nat.reduceAdd, Nat.reduceSub, Nat.reduceEqDiff, Nat.reduceLeDiff, Nat.lt_irrefl, Nat.reduceLT, Int.cast_ofNat_Int, wq_c0, wq_c1, true_and, and_true, and_self, true_implies, forall_const, ne_eq, Decidable.not_not, not_true_eq_false, not_false_eq_true, List.map_nil, List.map_cons, List.sum_nil, List.sum_cons, List.length_cons, List.length_nil, Nat.le_refl, Nat.zero_le, reduceCtorEq, true_or, or_true, false_or, or_false, false_and, and_false, false_implies, Nat.zero_add, Nat.add_zero, Int.reduceEq, Int.reduceNe, Int.reduceLT, Int.reduceLE, Int.reduceNeg, Int.reduceToNat, Nat.not_lt_zero, Int.reduceAdd, fxs F, l0, l1, l2, e28]
    refine ⟨fun c1 => ?_, fun c1 => ?_⟩
    · have hj : j = (itN (aS A) q).toNat := by omega
      have he : lines (aS A) q (pN (aS A)).toNat = linI (aS A) q j := by
        rw [lines_I (Nat.le_refl _), hj]
        rfl
      rw [if_pos c0, he] at k
      obtain ⟨w1, w2, w3, ⟨w4, w5, w6⟩, ⟨w7, w8⟩, ⟨g1, g2, g3, g4, g5⟩, -⟩ := W2
      have e42 : M1 42 = M2 42 := funext (fun i => O.2.2 42 i (by omega))
      have e44 : M1 44 = M2 44 := funext (fun i => O.2.2 44 i (by omega))
      rw [O.1]
      refine k _ M1 ⟨F, by rw [e42]; exact w2, w3, ⟨(O.2.2 41 5 (by decide)).trans w4, w5, fun i hi => by rw [e44]; exact w6 i hi⟩, ⟨(O.2.2 41 6 (by decide)).trans w7, w8⟩, ⟨(O.2.2 41 8 (by decide)).trans g1, g2, fun i hi => ⟨(O.2.2 46 i (by omega)).trans (g3 i hi).1, (g3 i hi).2⟩, (O.2.2 41 15 (by decide)).trans g4, (O.2.2 41 16 (by decide)).trans g5⟩, O.1, ?_, O.2.1⟩ (fun a i ha => (O.2.2 a i (by omega)).trans (f2 a i ha)) (ma_v ((O.2.2 41 0 (by decide)).trans t2) rfl)
      show (linI (aS A) q j).length ≤ 2550
      omega
    · have hfr : ∀ a i, ¬ ((a = 41 ∧ i = 33) ∨ a = 56) → M1 a i = M2 a i := O.2.2
      have G1 : SG (aS A) (M1 42) := by rw [show M1 42 = M2 42 from funext (fun i => O.2.2 42 i (by omega))]; exact W2.G
      have L1 : LK (aS A) M1 := L2.frame (fun a i h1 h2 => O.2.2 a i (by omega)) (O.2.2 41 26 (by decide))
      have I1 : LI (aS A) q M1 := ⟨e28, fun r hr => (O.2.2 53 r (by omega)).trans (I2.2.1 r hr), (O.2.2 53 _ (by omega)).trans I2.2.2⟩
      refine cM_saysItem F G1 W2.w L1 (by omega) I1 O (by omega) (by omega) (fun M3 O3 => ?_)
      simp only [wq_g3, wq_gc, wq_g, wq_g1, wq_g2, eM_writePart, iM_writePart_0, iM_writePart_13, iM_writePart_14, iM_writePart_22, iM_writePart_34, iM_writePart_54, vM_writePart, wps, x_cnd, reduceIte, Nat.reduceAdd, Nat.reduceSub, Nat.reduceEqDiff, Nat.reduceLeDiff, Nat.lt_irrefl, Nat.reduceLT, Int.cast_ofNat_Int, wq_c0, wq_c1, true_and, and_true, and_self, true_implies, forall_const, ne_eq, Decidable.not_not, not_true_eq_false, not_false_eq_true, List.map_nil, List.map_cons, List.sum_nil, List.sum_cons, List.length_cons, List.length_nil, Nat.le_refl, Nat.zero_le, reduceCtorEq, true_or, or_true, false_or, or_false, false_and, and_false, false_implies, Nat.zero_add, Nat.add_zero, Int.reduceEq, Int.reduceNe, Int.reduceLT, Int.reduceLE, Int.reduceNeg, Int.reduceToNat, Nat.not_lt_zero, Int.reduceAdd, fxs F, l0, l1, l2, e28]
      simp (disch := omega) only [w32_of]
      exact ⟨(itN (aS A) q).toNat - (j + 1), by omega, c0, j + 1, M2, by omega, rfl, congrArg (fun z => some (xI z)) (by omega), W2, L2, I2, f2, t2, O3⟩
end MWRITE
