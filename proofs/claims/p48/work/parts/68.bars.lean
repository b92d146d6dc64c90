/-! the law's look at the bars -/
theorem fin0 : ((((0 : Fin 2)) : Nat) : Int) = 0 := rfl
theorem fin1 : ((((1 : Fin 2)) : Nat) : Int) = 1 := rfl
section LAW8
variable {A : xAb} {M M' : xM} {h h' : xH} {Φ : xO → xM → xH → Prop}
set_option maxHeartbeats 4000000
theorem cl_bars (C : CW A M h) (hN : sN (aS A) ≤ 64) (k : Φ (.inl (some (xI 1))) M h) : x_Cal zL_bars [xA 1] M h Φ := by
  have k1 := C.k1
  have hN2 := C.w.N
  refine x_metI kL_bars (Nat.le_of_ble_eq_true rfl) (fun t m ls st M' h' c n => st = [] ∧ M' = M ∧ h' = h ∧ ls 0 = some (xA 1) ∧ t = 15 ∧ ∃ (q i : Nat) (last seen : Int), m = 200 - q ∧ q ≤ sN (aS A) ∧ pb (aS A) q = i ∧ ls 1 = some (xI last) ∧ ls 2 = some (xI i) ∧ ls 3 = some (xI (bts (aS A) 0 i)) ∧ ls 4 = some (xJ seen) ∧ ls 6 = some (xI 1) ∧ ls 7 = some (xI q) ∧ (q < sN (aS A) → last < lab (aS A) q) ∧ (∀ l : Nat, l ≤ 40 → (∀ p : Nat, p < q → lt (aS A) p ≠ l) → bt seen l = 0) ∧ c ≤ 17 * q ∧ n ≤ 102 * q) 40 ?_ ?_
  · simp only [wq_g3, wq_gc, wq_g, wq_g1, wq_g2, eL_bars, iL_bars_0, iL_bars_15, iL_bars_63, iL_bars_64, iL_bars_162, iL_bars_166, iL_bars_167, iL_bars_191, iL_bars_192, iL_bars_231, iL_bars_235, iL_bars_260, iL_bars_261, iL_bars_276, iL_bars_282, iL_bars_307, iL_bars_308, vL_bars, wps, x_cnd, reduceIte, Nat.reduceAdd, Nat.reduceSub, Nat.reduceEqDiff, Nat.reduceLeDiff, Nat.lt_irrefl, Nat.reduceLT, Int.cast_ofNat_Int, wq_c0, wq_c1, true_and, and_true, and_self, true_implies, forall_const, ne_eq, Decidable.not_not, not_true_eq_false, not_false_eq_true, List.map_nil, List.map_cons, List.sum_nil, List.sum_cons, List.length_cons, List.length_nil, Nat.le_refl, Nat.zero_le, reduceCtorEq, true_or, or_true, false_or, or_false, false_and, and_false, false_implies, Nat.zero_add, Nat.add_zero, Int.reduceEq, Int.reduceNe, Int.reduceLT, Int.reduceLE, Int.reduceNeg, Int.reduceToNat, Nat.not_lt_zero, Int.reduceAdd, k1]
    refine ⟨_, 0, 0, 0, 0, rfl, by omega, rfl, rfl, rfl, rfl, rfl, rfl, fun _ => lab_0, fun l hl _ => bt_0 hl⟩
  · rintro t m ls st M' h' c n ⟨rfl, rfl, rfl, l0, rfl, q, i, last, seen, m1, q1, hi, l1, l2, l3, l4, l6, l7, hlast, hseen, c1, n1⟩
    have e1 : (q : Int) + 1 = ((q + 1 : Nat) : Int) := by omega
    have hpb : ((i : Nat) : Int) ≤ q := by
      have := (pb_rng (S := aS A) (p := q)).2
      omega
    simp only [wq_g3, wq_gc, wq_g, wq_g1, wq_g2, eL_bars, iL_bars_0, iL_bars_15, iL_bars_63, iL_bars_64, iL_bars_162, iL_bars_166, iL_bars_167, iL_bars_191, iL_bars_192, iL_bars_231, iL_bars_235, iL_bars_260, iL_bars_261, iL_bars_276, iL_bars_282, iL_bars_307, iL_bars_308, vL_bars, wps, x_cnd, reduceIte, Nat.reduceAdd, Nat.reduceSub, Nat.reduceEqDiff, Nat.reduceLeDiff, Nat.lt_irrefl, Nat.reduceLT, Int.cast_ofNat_Int, wq_c0, wq_c1, true_and, and_true, and_self, true_implies, forall_const, ne_eq, Decidable.not_not, not_true_eq_false, not_false_eq_true, List.map_nil, List.map_cons, List.sum_nil, List.sum_cons, List.length_cons, List.length_nil, Nat.le_refl, Nat.zero_le, reduceCtorEq, true_or, or_true, false_or, or_false, false_and, and_false, false_implies, Nat.zero_add, Nat.add_zero, Int.reduceEq, Int.reduceNe, Int.reduceLT, Int.reduceLE, Int.reduceNeg, Int.reduceToNat, Nat.not_lt_zero, Int.reduceAdd, k1, l0, l1, l2, l3, l4, l6, l7]
    (repeat refine ⟨by omega, ?_⟩)
    refine cP_bars C ?_
    simp only [wq_g3, wq_gc, wq_g, wq_g1, wq_g2, eL_bars, iL_bars_0, iL_bars_15, iL_bars_63, iL_bars_64, iL_bars_162, iL_bars_166, iL_bars_167, iL_bars_191, iL_bars_192, iL_bars_231, iL_bars_235, iL_bars_260, iL_bars_261, iL_bars_276, iL_bars_282, iL_bars_307, iL_bars_308, vL_bars, wps, x_cnd, reduceIte, Nat.reduceAdd, Nat.reduceSub, Nat.reduceEqDiff, Nat.reduceLeDiff, Nat.lt_irrefl, Nat.reduceLT, Int.cast_ofNat_Int, wq_c0, wq_c1, true_and, and_true, and_self, true_implies, forall_const, ne_eq, Decidable.not_not, not_true_eq_false, not_false_eq_true, List.map_nil, List.map_cons, List.sum_nil, List.sum_cons, List.length_cons, List.length_nil, Nat.le_refl, Nat.zero_le, reduceCtorEq, true_or, or_true, false_or, or_false, false_and, and_false, false_implies, Nat.zero_add, Nat.add_zero, Int.reduceEq, Int.reduceNe, Int.reduceLT, Int.reduceLE, Int.reduceNeg, Int.reduceToNat, Nat.not_lt_zero, Int.reduceAdd, k1, l0, l1, l2, l3, l4, l6, l7]
    refine ⟨fun c0 => ?_, fun c0 => ?_⟩
    · have hq : q = sN (aS A) := by omega
      subst hq
      have hi2 : pN (aS A) = i := hi
      (repeat refine ⟨by omega, ?_⟩)
      refine cP_played C ?_
      rw [hi2]
      simp only [wq_g3, wq_gc, wq_g, wq_g1, wq_g2, eL_bars, iL_bars_0, iL_bars_15, iL_bars_63, iL_bars_64, iL_bars_162, iL_bars_166, iL_bars_167, iL_bars_191, iL_bars_192, iL_bars_231, iL_bars_235, iL_bars_260, iL_bars_261, iL_bars_276, iL_bars_282, iL_bars_307, iL_bars_308, vL_bars, wps, x_cnd, reduceIte, Nat.reduceAdd, Nat.reduceSub, Nat.reduceEqDiff, Nat.reduceLeDiff, Nat.lt_irrefl, Nat.reduceLT, Int.cast_ofNat_Int, wq_c0, wq_c1, true_and, and_true, and_self, true_implies, forall_const, ne_eq, Decidable.not_not, not_true_eq_false, not_false_eq_true, List.map_nil, List.map_cons, List.sum_nil, List.sum_cons, List.length_cons, List.length_nil, Nat.le_refl, Nat.zero_le, reduceCtorEq, true_or, or_true, false_or, or_false, false_and, and_false, false_implies, Nat.zero_add, Nat.add_zero, Int.reduceEq, Int.reduceNe, Int.reduceLT, Int.reduceLE, Int.reduceNeg, Int.reduceToNat, Nat.not_lt_zero, Int.reduceAdd, k1, l0, l1, l2, l3, l4, l6, l7]
      (repeat refine ⟨by omega, ?_⟩)
      refine cP_beats C ?_
      rw [hi2, Int.toNat_natCast]
      simp only [wq_g3, wq_gc, wq_g, wq_g1, wq_g2, eL_bars, iL_bars_0, iL_bars_15, iL_bars_63, iL_bars_64, iL_bars_162, iL_bars_166, iL_bars_167, iL_bars_191, iL_bars_192, iL_bars_231, iL_bars_235, iL_bars_260, iL_bars_261, iL_bars_276, iL_bars_282, iL_bars_307, iL_bars_308, vL_bars, wps, x_cnd, reduceIte, Nat.reduceAdd, Nat.reduceSub, Nat.reduceEqDiff, Nat.reduceLeDiff, Nat.lt_irrefl, Nat.reduceLT, Int.cast_ofNat_Int, wq_c0, wq_c1, true_and, and_true, and_self, true_implies, forall_const, ne_eq, Decidable.not_not, not_true_eq_false, not_false_eq_true, List.map_nil, List.map_cons, List.sum_nil, List.sum_cons, List.length_cons, List.length_nil, Nat.le_refl, Nat.zero_le, reduceCtorEq, true_or, or_true, false_or, or_false, false_and, and_false, false_implies, Nat.zero_add, Nat.add_zero, Int.reduceEq, Int.reduceNe, Int.reduceLT, Int.reduceLE, Int.reduceNeg, Int.reduceToNat, Nat.not_lt_zero, Int.reduceAdd, k1, l0, l1, l2, l3, l4, l6, l7]
      exact k
    · have hq : q < sN (aS A) := by omega
      have f1 := hlast hq
      have f2 := lab_rng hq C.w
      have f3 := C.w.b hq
      have f4 : ¬ (lab (aS A) q ≤ last) := by omega
      have b7 : bv (aS A) q 7 = lt (aS A) q := rfl
      have b0 : bv (aS A) q 0 = q := rfl
      have b1 : bv (aS A) q 1 = lab (aS A) q := rfl
      have b2 : bv (aS A) q 2 = sB (aS A) q := rfl
      have f5 : q + 1 < sN (aS A) → lab (aS A) q < lab (aS A) (q + 1) := fun h9 => lab_s C.w h9
      have f6 : ∀ {l : Nat}, (∀ p : Nat, p < q + 1 → lt (aS A) p ≠ l) → ∀ p : Nat, p < q → lt (aS A) p ≠ l := fun h9 p hp => h9 p (by omega)
      (repeat refine ⟨by omega, ?_⟩)
      refine cP_barAtV C hq ?_
      simp only [wq_g3, wq_gc, wq_g, wq_g1, wq_g2, eL_bars, iL_bars_0, iL_bars_15, iL_bars_63, iL_bars_64, iL_bars_162, iL_bars_166, iL_bars_167, iL_bars_191, iL_bars_192, iL_bars_231, iL_bars_235, iL_bars_260, iL_bars_261, iL_bars_276, iL_bars_282, iL_bars_307, iL_bars_308, vL_bars, wps, x_cnd, reduceIte, Nat.reduceAdd, Nat.reduceSub, Nat.reduceEqDiff, Nat.reduceLeDiff, Nat.lt_irrefl, Nat.reduceLT, Int.cast_ofNat_Int, wq_c0, wq_c1, true_and, and_true, and_self, true_implies, forall_const, ne_eq, Decidable.not_not, not_true_eq_false, not_false_eq_true, List.map_nil, List.map_cons, List.sum_nil, List.sum_cons, List.length_cons, List.length_nil, Nat.le_refl, Nat.zero_le, reduceCtorEq, true_or, or_true, false_or, or_false, false_and, and_false, false_implies, Nat.zero_add, Nat.add_zero, Int.reduceEq, Int.reduceNe, Int.reduceLT, Int.reduceLE, Int.reduceNeg, Int.reduceToNat, Nat.not_lt_zero, Int.reduceAdd, k1, l0, l1, l2, l3, l4, l6, l7]
      (repeat refine ⟨by omega, ?_⟩)
      refine cP_barV C hq (by omega) ?_
      rw [b7]
      by_cases hp : cov (aS A) q = 0
      · have b6 : bv (aS A) q 6 = 1 := b01_t hp
        have hP1 : isP (aS A) q = true := isP_iff.mpr hp
        have hi1 : pb (aS A) (q + 1) = ((i + 1 : Nat) : Int) := by
          have := cn_s1 (P := isP (aS A)) (n := q) hP1
          unfold pb at hi ⊢
          omega
        have e2 : (i : Int) + 1 = ((i + 1 : Nat) : Int) := by omega
        have g1 : pp (aS A) i = q := by rw [← hi]; exact pp_at hq hP1
        have g2 : bts (aS A) 0 (i + 1) = bts (aS A) 0 i + sB (aS A) q := by
          unfold bts
          rw [sm_s (Nat.zero_le _), g1]
        have g3 : 0 ≤ bts (aS A) 0 i ∧ bts (aS A) 0 i ≤ 12 * (i : Nat) := sm_rng (by omega) (fun p _ hpi => by
          obtain ⟨p0, p1, p2, p3, p4⟩ := pp_some (S := aS A) (k := (p : Int)) (by omega) (by have := pb_lt hq hP1; omega)
          rw [p4]
          have := C.w.b p1
          omega)
        obtain ⟨v, v1, v2⟩ := called_at C.w hq hP1 hi
        by_cases hl : lt (aS A) q = 0
        · rw [hl]
          simp only [wq_g3, wq_gc, wq_g, wq_g1, wq_g2, eL_bars, iL_bars_0, iL_bars_15, iL_bars_63, iL_bars_64, iL_bars_162, iL_bars_166, iL_bars_167, iL_bars_191, iL_bars_192, iL_bars_231, iL_bars_235, iL_bars_260, iL_bars_261, iL_bars_276, iL_bars_282, iL_bars_307, iL_bars_308, vL_bars, wps, x_cnd, reduceIte, Nat.reduceAdd, Nat.reduceSub, Nat.reduceEqDiff, Nat.reduceLeDiff, Nat.lt_irrefl, Nat.reduceLT, Int.cast_ofNat_Int, wq_c0, wq_c1, true_and, and_true, and_self, true_implies, forall_const, ne_eq, Decidable.not_not, not_true_eq_false, not_false_eq_true, List.map_nil, List.map_cons, List.sum_nil, List.sum_cons, List.length_cons, List.length_nil, Nat.le_refl, Nat.zero_le, reduceCtorEq, true_or, or_true, false_or, or_false, false_and, and_false, false_implies, Nat.zero_add, Nat.add_zero, Int.reduceEq, Int.reduceNe, Int.reduceLT, Int.reduceLE, Int.reduceNeg, Int.reduceToNat, Nat.not_lt_zero, Int.reduceAdd, k1, l0, l1, l2, l3, l4, l6, l7]
          (repeat refine ⟨by omega, ?_⟩)
          refine cP_barV C hq (by omega) ?_
          rw [b6]
          simp only [wq_g3, wq_gc, wq_g, wq_g1, wq_g2, eL_bars, iL_bars_0, iL_bars_15, iL_bars_63, iL_bars_64, iL_bars_162, iL_bars_166, iL_bars_167, iL_bars_191, iL_bars_192, iL_bars_231, iL_bars_235, iL_bars_260, iL_bars_261, iL_bars_276, iL_bars_282, iL_bars_307, iL_bars_308, vL_bars, wps, x_cnd, reduceIte, Nat.reduceAdd, Nat.reduceSub, Nat.reduceEqDiff, Nat.reduceLeDiff, Nat.lt_irrefl, Nat.reduceLT, Int.cast_ofNat_Int, wq_c0, wq_c1, true_and, and_true, and_self, true_implies, forall_const, ne_eq, Decidable.not_not, not_true_eq_false, not_false_eq_true, List.map_nil, List.map_cons, List.sum_nil, List.sum_cons, List.length_cons, List.length_nil, Nat.le_refl, Nat.zero_le, reduceCtorEq, true_or, or_true, false_or, or_false, false_and, and_false, false_implies, Nat.zero_add, Nat.add_zero, Int.reduceEq, Int.reduceNe, Int.reduceLT, Int.reduceLE, Int.reduceNeg, Int.reduceToNat, Nat.not_lt_zero, Int.reduceAdd, k1, l0, l1, l2, l3, l4, l6, l7]
          (repeat refine ⟨by omega, ?_⟩)
          refine cP_barV C hq (by omega) ?_
          rw [b0]
          simp only [wq_g3, wq_gc, wq_g, wq_g1, wq_g2, eL_bars, iL_bars_0, iL_bars_15, iL_bars_63, iL_bars_64, iL_bars_162, iL_bars_166, iL_bars_167, iL_bars_191, iL_bars_192, iL_bars_231, iL_bars_235, iL_bars_260, iL_bars_261, iL_bars_276, iL_bars_282, iL_bars_307, iL_bars_308, vL_bars, wps, x_cnd, reduceIte, Nat.reduceAdd, Nat.reduceSub, Nat.reduceEqDiff, Nat.reduceLeDiff, Nat.lt_irrefl, Nat.reduceLT, Int.cast_ofNat_Int, wq_c0, wq_c1, true_and, and_true, and_self, true_implies, forall_const, ne_eq, Decidable.not_not, not_true_eq_false, not_false_eq_true, List.map_nil, List.map_cons, List.sum_nil, List.sum_cons, List.length_cons, List.length_nil, Nat.le_refl, Nat.zero_le, reduceCtorEq, true_or, or_true, false_or, or_false, false_and, and_false, false_implies, Nat.zero_add, Nat.add_zero, Int.reduceEq, Int.reduceNe, Int.reduceLT, Int.reduceLE, Int.reduceNeg, Int.reduceToNat, Nat.not_lt_zero, Int.reduceAdd, k1, l0, l1, l2, l3, l4, l6, l7]
          (repeat refine ⟨by omega, ?_⟩)
          refine cP_barV C hq (by omega) ?_
          rw [b1]
          simp only [wq_g3, wq_gc, wq_g, wq_g1, wq_g2, eL_bars, iL_bars_0, iL_bars_15, iL_bars_63, iL_bars_64, iL_bars_162, iL_bars_166, iL_bars_167, iL_bars_191, iL_bars_192, iL_bars_231, iL_bars_235, iL_bars_260, iL_bars_261, iL_bars_276, iL_bars_282, iL_bars_307, iL_bars_308, vL_bars, wps, x_cnd, reduceIte, Nat.reduceAdd, Nat.reduceSub, Nat.reduceEqDiff, Nat.reduceLeDiff, Nat.lt_irrefl, Nat.reduceLT, Int.cast_ofNat_Int, wq_c0, wq_c1, true_and, and_true, and_self, true_implies, forall_const, ne_eq, Decidable.not_not, not_true_eq_false, not_false_eq_true, List.map_nil, List.map_cons, List.sum_nil, List.sum_cons, List.length_cons, List.length_nil, Nat.le_refl, Nat.zero_le, reduceCtorEq, true_or, or_true, false_or, or_false, false_and, and_false, false_implies, Nat.zero_add, Nat.add_zero, Int.reduceEq, Int.reduceNe, Int.reduceLT, Int.reduceLE, Int.reduceNeg, Int.reduceToNat, Nat.not_lt_zero, Int.reduceAdd, k1, l0, l1, l2, l3, l4, l6, l7, f4]
          (repeat refine ⟨by omega, ?_⟩)
          refine cP_barV C hq (by omega) ?_
          rw [b1]
          simp only [wq_g3, wq_gc, wq_g, wq_g1, wq_g2, eL_bars, iL_bars_0, iL_bars_15, iL_bars_63, iL_bars_64, iL_bars_162, iL_bars_166, iL_bars_167, iL_bars_191, iL_bars_192, iL_bars_231, iL_bars_235, iL_bars_260, iL_bars_261, iL_bars_276, iL_bars_282, iL_bars_307, iL_bars_308, vL_bars, wps, x_cnd, reduceIte, Nat.reduceAdd, Nat.reduceSub, Nat.reduceEqDiff, Nat.reduceLeDiff, Nat.lt_irrefl, Nat.reduceLT, Int.cast_ofNat_Int, wq_c0, wq_c1, true_and, and_true, and_self, true_implies, forall_const, ne_eq, Decidable.not_not, not_true_eq_false, not_false_eq_true, List.map_nil, List.map_cons, List.sum_nil, List.sum_cons, List.length_cons, List.length_nil, Nat.le_refl, Nat.zero_le, reduceCtorEq, true_or, or_true, false_or, or_false, false_and, and_false, false_implies, Nat.zero_add, Nat.add_zero, Int.reduceEq, Int.reduceNe, Int.reduceLT, Int.reduceLE, Int.reduceNeg, Int.reduceToNat, Nat.not_lt_zero, Int.reduceAdd, k1, l0, l1, l2, l3, l4, l6, l7, f4]
          (repeat refine ⟨by omega, ?_⟩)
          refine kX (labelled_at C.w hq) (cP_labelled C) ?_
          simp only [wq_g3, wq_gc, wq_g, wq_g1, wq_g2, eL_bars, iL_bars_0, iL_bars_15, iL_bars_63, iL_bars_64, iL_bars_162, iL_bars_166, iL_bars_167, iL_bars_191, iL_bars_192, iL_bars_231, iL_bars_235, iL_bars_260, iL_bars_261, iL_bars_276, iL_bars_282, iL_bars_307, iL_bars_308, vL_bars, wps, x_cnd, reduceIte, Nat.reduceAdd, Nat.reduceSub, Nat.reduceEqDiff, Nat.reduceLeDiff, Nat.lt_irrefl, Nat.reduceLT, Int.cast_ofNat_Int, wq_c0, wq_c1, true_and, and_true, and_self, true_implies, forall_const, ne_eq, Decidable.not_not, not_true_eq_false, not_false_eq_true, List.map_nil, List.map_cons, List.sum_nil, List.sum_cons, List.length_cons, List.length_nil, Nat.le_refl, Nat.zero_le, reduceCtorEq, true_or, or_true, false_or, or_false, false_and, and_false, false_implies, Nat.zero_add, Nat.add_zero, Int.reduceEq, Int.reduceNe, Int.reduceLT, Int.reduceLE, Int.reduceNeg, Int.reduceToNat, Nat.not_lt_zero, Int.reduceAdd, k1, l0, l1, l2, l3, l4, l6, l7, f4]
          (repeat refine ⟨by omega, ?_⟩)
          refine cP_barV C hq (by omega) ?_
          rw [b1]
          simp only [wq_g3, wq_gc, wq_g, wq_g1, wq_g2, eL_bars, iL_bars_0, iL_bars_15, iL_bars_63, iL_bars_64, iL_bars_162, iL_bars_166, iL_bars_167, iL_bars_191, iL_bars_192, iL_bars_231, iL_bars_235, iL_bars_260, iL_bars_261, iL_bars_276, iL_bars_282, iL_bars_307, iL_bars_308, vL_bars, wps, x_cnd, reduceIte, Nat.reduceAdd, Nat.reduceSub, Nat.reduceEqDiff, Nat.reduceLeDiff, Nat.lt_irrefl, Nat.reduceLT, Int.cast_ofNat_Int, wq_c0, wq_c1, true_and, and_true, and_self, true_implies, forall_const, ne_eq, Decidable.not_not, not_true_eq_false, not_false_eq_true, List.map_nil, List.map_cons, List.sum_nil, List.sum_cons, List.length_cons, List.length_nil, Nat.le_refl, Nat.zero_le, reduceCtorEq, true_or, or_true, false_or, or_false, false_and, and_false, false_implies, Nat.zero_add, Nat.add_zero, Int.reduceEq, Int.reduceNe, Int.reduceLT, Int.reduceLE, Int.reduceNeg, Int.reduceToNat, Nat.not_lt_zero, Int.reduceAdd, k1, l0, l1, l2, l3, l4, l6, l7]
          (repeat refine ⟨by omega, ?_⟩)
          refine kX v1 (cP_called C) ?_
          rcases v2 with rfl | ⟨l9, d9, rfl, d1, d2, d3⟩
          · have h1000 : ¬ (1000 ≤ (i : Int)) := by omega
            simp only [wq_g3, wq_gc, wq_g, wq_g1, wq_g2, eL_bars, iL_bars_0, iL_bars_15, iL_bars_63, iL_bars_64, iL_bars_162, iL_bars_166, iL_bars_167, iL_bars_191, iL_bars_192, iL_bars_231, iL_bars_235, iL_bars_260, iL_bars_261, iL_bars_276, iL_bars_282, iL_bars_307, iL_bars_308, vL_bars, wps, x_cnd, reduceIte, Nat.reduceAdd, Nat.reduceSub, Nat.reduceEqDiff, Nat.reduceLeDiff, Nat.lt_irrefl, Nat.reduceLT, Int.cast_ofNat_Int, wq_c0, wq_c1, true_and, and_true, and_self, true_implies, forall_const, ne_eq, Decidable.not_not, not_true_eq_false, not_false_eq_true, List.map_nil, List.map_cons, List.sum_nil, List.sum_cons, List.length_cons, List.length_nil, Nat.le_refl, Nat.zero_le, reduceCtorEq, true_or, or_true, false_or, or_false, false_and, and_false, false_implies, Nat.zero_add, Nat.add_zero, Int.reduceEq, Int.reduceNe, Int.reduceLT, Int.reduceLE, Int.reduceNeg, Int.reduceToNat, Nat.not_lt_zero, Int.reduceAdd, k1, l0, l1, l2, l3, l4, l6, l7, h1000]
            (repeat refine ⟨by omega, ?_⟩)
            refine cP_barV C hq (by omega) ?_
            rw [b2]
            simp only [wq_g3, wq_gc, wq_g, wq_g1, wq_g2, eL_bars, iL_bars_0, iL_bars_15, iL_bars_63, iL_bars_64, iL_bars_162, iL_bars_166, iL_bars_167, iL_bars_191, iL_bars_192, iL_bars_231, iL_bars_235, iL_bars_260, iL_bars_261, iL_bars_276, iL_bars_282, iL_bars_307, iL_bars_308, vL_bars, wps, x_cnd, reduceIte, Nat.reduceAdd, Nat.reduceSub, Nat.reduceEqDiff, Nat.reduceLeDiff, Nat.lt_irrefl, Nat.reduceLT, Int.cast_ofNat_Int, wq_c0, wq_c1, true_and, and_true, and_self, true_implies, forall_const, ne_eq, Decidable.not_not, not_true_eq_false, not_false_eq_true, List.map_nil, List.map_cons, List.sum_nil, List.sum_cons, List.length_cons, List.length_nil, Nat.le_refl, Nat.zero_le, reduceCtorEq, true_or, or_true, false_or, or_false, false_and, and_false, false_implies, Nat.zero_add, Nat.add_zero, Int.reduceEq, Int.reduceNe, Int.reduceLT, Int.reduceLE, Int.reduceNeg, Int.reduceToNat, Nat.not_lt_zero, Int.reduceAdd, k1, l0, l1, l2, l3, l4, l6, l7]
            simp (disch := omega) only [w32_of]
            refine ⟨200 - (q + 1), by omega, q + 1, i + 1, lab (aS A) q, x_orL seen 0, rfl, by omega, hi1, rfl, by rw [e2], by rw [g2], rfl, by rw [e1], f5, fun l h9 h8 => ?_, by omega, by omega⟩
            rw [bt_or0]
            exact hseen l h9 (f6 h8)
          · have h1000 : 1000 ≤ 1000 * l9 + (d9 : Int) := by omega
            have q1 : x_div (1000 * l9 + (d9 : Int)) 1000 = l9 := by
              rw [x_div_of (by omega)]
              omega
            have q2 : x_rem (1000 * l9 + (d9 : Int)) 1000 = d9 := by
              rw [x_rem_of (by omega)]
              omega
            simp only [wq_g3, wq_gc, wq_g, wq_g1, wq_g2, eL_bars, iL_bars_0, iL_bars_15, iL_bars_63, iL_bars_64, iL_bars_162, iL_bars_166, iL_bars_167, iL_bars_191, iL_bars_192, iL_bars_231, iL_bars_235, iL_bars_260, iL_bars_261, iL_bars_276, iL_bars_282, iL_bars_307, iL_bars_308, vL_bars, wps, x_cnd, reduceIte, Nat.reduceAdd, Nat.reduceSub, Nat.reduceEqDiff, Nat.reduceLeDiff, Nat.lt_irrefl, Nat.reduceLT, Int.cast_ofNat_Int, wq_c0, wq_c1, true_and, and_true, and_self, true_implies, forall_const, ne_eq, Decidable.not_not, not_true_eq_false, not_false_eq_true, List.map_nil, List.map_cons, List.sum_nil, List.sum_cons, List.length_cons, List.length_nil, Nat.le_refl, Nat.zero_le, reduceCtorEq, true_or, or_true, false_or, or_false, false_and, and_false, false_implies, Nat.zero_add, Nat.add_zero, Int.reduceEq, Int.reduceNe, Int.reduceLT, Int.reduceLE, Int.reduceNeg, Int.reduceToNat, Nat.not_lt_zero, Int.reduceAdd, k1, l0, l1, l2, l3, l4, l6, l7, h1000, q1, q2]
            (repeat refine ⟨by omega, ?_⟩)
            refine cG_from C (by unfold x_i32; omega) (fun e he => by rw [d3] at he; cases he) ?_
            rw [d3]
            simp only [wq_g3, wq_gc, wq_g, wq_g1, wq_g2, eL_bars, iL_bars_0, iL_bars_15, iL_bars_63, iL_bars_64, iL_bars_162, iL_bars_166, iL_bars_167, iL_bars_191, iL_bars_192, iL_bars_231, iL_bars_235, iL_bars_260, iL_bars_261, iL_bars_276, iL_bars_282, iL_bars_307, iL_bars_308, vL_bars, wps, x_cnd, reduceIte, Nat.reduceAdd, Nat.reduceSub, Nat.reduceEqDiff, Nat.reduceLeDiff, Nat.lt_irrefl, Nat.reduceLT, Int.cast_ofNat_Int, wq_c0, wq_c1, true_and, and_true, and_self, true_implies, forall_const, ne_eq, Decidable.not_not, not_true_eq_false, not_false_eq_true, List.map_nil, List.map_cons, List.sum_nil, List.sum_cons, List.length_cons, List.length_nil, Nat.le_refl, Nat.zero_le, reduceCtorEq, true_or, or_true, false_or, or_false, false_and, and_false, false_implies, Nat.zero_add, Nat.add_zero, Int.reduceEq, Int.reduceNe, Int.reduceLT, Int.reduceLE, Int.reduceNeg, Int.reduceToNat, Nat.not_lt_zero, Int.reduceAdd, k1, l0, l1, l2, l3, l4, l6, l7, an2]
            (repeat refine ⟨by omega, ?_⟩)
            refine cP_barV C hq (by omega) ?_
            rw [b2]
            simp only [wq_g3, wq_gc, wq_g, wq_g1, wq_g2, eL_bars, iL_bars_0, iL_bars_15, iL_bars_63, iL_bars_64, iL_bars_162, iL_bars_166, iL_bars_167, iL_bars_191, iL_bars_192, iL_bars_231, iL_bars_235, iL_bars_260, iL_bars_261, iL_bars_276, iL_bars_282, iL_bars_307, iL_bars_308, vL_bars, wps, x_cnd, reduceIte, Nat.reduceAdd, Nat.reduceSub, Nat.reduceEqDiff, Nat.reduceLeDiff, Nat.lt_irrefl, Nat.reduceLT, Int.cast_ofNat_Int, wq_c0, wq_c1, true_and, and_true, and_self, true_implies, forall_const, ne_eq, Decidable.not_not, not_true_eq_false, not_false_eq_true, List.map_nil, List.map_cons, List.sum_nil, List.sum_cons, List.length_cons, List.length_nil, Nat.le_refl, Nat.zero_le, reduceCtorEq, true_or, or_true, false_or, or_false, false_and, and_false, false_implies, Nat.zero_add, Nat.add_zero, Int.reduceEq, Int.reduceNe, Int.reduceLT, Int.reduceLE, Int.reduceNeg, Int.reduceToNat, Nat.not_lt_zero, Int.reduceAdd, k1, l0, l1, l2, l3, l4, l6, l7]
            simp (disch := omega) only [w32_of]
            refine ⟨200 - (q + 1), by omega, q + 1, i + 1, lab (aS A) q, x_orL seen 0, rfl, by omega, hi1, rfl, by rw [e2], by rw [g2], rfl, by rw [e1], f5, fun l h9 h8 => ?_, by omega, by omega⟩
            rw [bt_or0]
            exact hseen l h9 (f6 h8)
        · have m1' := mark_at C.w hq hl
          obtain ⟨g4, -⟩ := lt_at C.w hq hl
          obtain ⟨ln, hln⟩ : ∃ ln : Nat, lt (aS A) q = ln := ⟨(lt (aS A) q).toNat, by omega⟩
          have g5 : bt seen (lt (aS A) q) = 0 := by
            rw [hln]
            exact hseen ln (by omega) (fun p hpq h9 => by
              have := lt_once C.w (p := p) hq (by omega) hl (by rw [h9, hln])
              omega)
          unfold bt at g5
          have g6 : ¬ (lt (aS A) q ≤ 0) := by omega
          simp only [wq_g3, wq_gc, wq_g, wq_g1, wq_g2, eL_bars, iL_bars_0, iL_bars_15, iL_bars_63, iL_bars_64, iL_bars_162, iL_bars_166, iL_bars_167, iL_bars_191, iL_bars_192, iL_bars_231, iL_bars_235, iL_bars_260, iL_bars_261, iL_bars_276, iL_bars_282, iL_bars_307, iL_bars_308, vL_bars, wps, x_cnd, reduceIte, Nat.reduceAdd, Nat.reduceSub, Nat.reduceEqDiff, Nat.reduceLeDiff, Nat.lt_irrefl, Nat.reduceLT, Int.cast_ofNat_Int, wq_c0, wq_c1, true_and, and_true, and_self, true_implies, forall_const, ne_eq, Decidable.not_not, not_true_eq_false, not_false_eq_true, List.map_nil, List.map_cons, List.sum_nil, List.sum_cons, List.length_cons, List.length_nil, Nat.le_refl, Nat.zero_le, reduceCtorEq, true_or, or_true, false_or, or_false, false_and, and_false, false_implies, Nat.zero_add, Nat.add_zero, Int.reduceEq, Int.reduceNe, Int.reduceLT, Int.reduceLE, Int.reduceNeg, Int.reduceToNat, Nat.not_lt_zero, Int.reduceAdd, k1, l0, l1, l2, l3, l4, l6, l7]
          (repeat refine ⟨by omega, ?_⟩)
          refine cP_barV C hq (by omega) ?_
          rw [b6]
          simp only [wq_g3, wq_gc, wq_g, wq_g1, wq_g2, eL_bars, iL_bars_0, iL_bars_15, iL_bars_63, iL_bars_64, iL_bars_162, iL_bars_166, iL_bars_167, iL_bars_191, iL_bars_192, iL_bars_231, iL_bars_235, iL_bars_260, iL_bars_261, iL_bars_276, iL_bars_282, iL_bars_307, iL_bars_308, vL_bars, wps, x_cnd, reduceIte, Nat.reduceAdd, Nat.reduceSub, Nat.reduceEqDiff, Nat.reduceLeDiff, Nat.lt_irrefl, Nat.reduceLT, Int.cast_ofNat_Int, wq_c0, wq_c1, true_and, and_true, and_self, true_implies, forall_const, ne_eq, Decidable.not_not, not_true_eq_false, not_false_eq_true, List.map_nil, List.map_cons, List.sum_nil, List.sum_cons, List.length_cons, List.length_nil, Nat.le_refl, Nat.zero_le, reduceCtorEq, true_or, or_true, false_or, or_false, false_and, and_false, false_implies, Nat.zero_add, Nat.add_zero, Int.reduceEq, Int.reduceNe, Int.reduceLT, Int.reduceLE, Int.reduceNeg, Int.reduceToNat, Nat.not_lt_zero, Int.reduceAdd, k1, l0, l1, l2, l3, l4, l6, l7]
          (repeat refine ⟨by omega, ?_⟩)
          refine cP_barV C hq (by omega) ?_
          rw [b0]
          simp only [wq_g3, wq_gc, wq_g, wq_g1, wq_g2, eL_bars, iL_bars_0, iL_bars_15, iL_bars_63, iL_bars_64, iL_bars_162, iL_bars_166, iL_bars_167, iL_bars_191, iL_bars_192, iL_bars_231, iL_bars_235, iL_bars_260, iL_bars_261, iL_bars_276, iL_bars_282, iL_bars_307, iL_bars_308, vL_bars, wps, x_cnd, reduceIte, Nat.reduceAdd, Nat.reduceSub, Nat.reduceEqDiff, Nat.reduceLeDiff, Nat.lt_irrefl, Nat.reduceLT, Int.cast_ofNat_Int, wq_c0, wq_c1, true_and, and_true, and_self, true_implies, forall_const, ne_eq, Decidable.not_not, not_true_eq_false, not_false_eq_true, List.map_nil, List.map_cons, List.sum_nil, List.sum_cons, List.length_cons, List.length_nil, Nat.le_refl, Nat.zero_le, reduceCtorEq, true_or, or_true, false_or, or_false, false_and, and_false, false_implies, Nat.zero_add, Nat.add_zero, Int.reduceEq, Int.reduceNe, Int.reduceLT, Int.reduceLE, Int.reduceNeg, Int.reduceToNat, Nat.not_lt_zero, Int.reduceAdd, k1, l0, l1, l2, l3, l4, l6, l7]
          (repeat refine ⟨by omega, ?_⟩)
          refine cP_barV C hq (by omega) ?_
          rw [b1]
          simp only [wq_g3, wq_gc, wq_g, wq_g1, wq_g2, eL_bars, iL_bars_0, iL_bars_15, iL_bars_63, iL_bars_64, iL_bars_162, iL_bars_166, iL_bars_167, iL_bars_191, iL_bars_192, iL_bars_231, iL_bars_235, iL_bars_260, iL_bars_261, iL_bars_276, iL_bars_282, iL_bars_307, iL_bars_308, vL_bars, wps, x_cnd, reduceIte, Nat.reduceAdd, Nat.reduceSub, Nat.reduceEqDiff, Nat.reduceLeDiff, Nat.lt_irrefl, Nat.reduceLT, Int.cast_ofNat_Int, wq_c0, wq_c1, true_and, and_true, and_self, true_implies, forall_const, ne_eq, Decidable.not_not, not_true_eq_false, not_false_eq_true, List.map_nil, List.map_cons, List.sum_nil, List.sum_cons, List.length_cons, List.length_nil, Nat.le_refl, Nat.zero_le, reduceCtorEq, true_or, or_true, false_or, or_false, false_and, and_false, false_implies, Nat.zero_add, Nat.add_zero, Int.reduceEq, Int.reduceNe, Int.reduceLT, Int.reduceLE, Int.reduceNeg, Int.reduceToNat, Nat.not_lt_zero, Int.reduceAdd, k1, l0, l1, l2, l3, l4, l6, l7, f4, hl, g5, cmp0, fin0, fin1]
          (repeat refine ⟨by omega, ?_⟩)
          refine cP_barV C hq (by omega) ?_
          rw [b1]
          simp only [wq_g3, wq_gc, wq_g, wq_g1, wq_g2, eL_bars, iL_bars_0, iL_bars_15, iL_bars_63, iL_bars_64, iL_bars_162, iL_bars_166, iL_bars_167, iL_bars_191, iL_bars_192, iL_bars_231, iL_bars_235, iL_bars_260, iL_bars_261, iL_bars_276, iL_bars_282, iL_bars_307, iL_bars_308, vL_bars, wps, x_cnd, reduceIte, Nat.reduceAdd, Nat.reduceSub, Nat.reduceEqDiff, Nat.reduceLeDiff, Nat.lt_irrefl, Nat.reduceLT, Int.cast_ofNat_Int, wq_c0, wq_c1, true_and, and_true, and_self, true_implies, forall_const, ne_eq, Decidable.not_not, not_true_eq_false, not_false_eq_true, List.map_nil, List.map_cons, List.sum_nil, List.sum_cons, List.length_cons, List.length_nil, Nat.le_refl, Nat.zero_le, reduceCtorEq, true_or, or_true, false_or, or_false, false_and, and_false, false_implies, Nat.zero_add, Nat.add_zero, Int.reduceEq, Int.reduceNe, Int.reduceLT, Int.reduceLE, Int.reduceNeg, Int.reduceToNat, Nat.not_lt_zero, Int.reduceAdd, k1, l0, l1, l2, l3, l4, l6, l7, f4, hl, g5, cmp0, fin0, fin1]
          (repeat refine ⟨by omega, ?_⟩)
          refine kX (labelled_at C.w hq) (cP_labelled C) ?_
          simp only [wq_g3, wq_gc, wq_g, wq_g1, wq_g2, eL_bars, iL_bars_0, iL_bars_15, iL_bars_63, iL_bars_64, iL_bars_162, iL_bars_166, iL_bars_167, iL_bars_191, iL_bars_192, iL_bars_231, iL_bars_235, iL_bars_260, iL_bars_261, iL_bars_276, iL_bars_282, iL_bars_307, iL_bars_308, vL_bars, wps, x_cnd, reduceIte, Nat.reduceAdd, Nat.reduceSub, Nat.reduceEqDiff, Nat.reduceLeDiff, Nat.lt_irrefl, Nat.reduceLT, Int.cast_ofNat_Int, wq_c0, wq_c1, true_and, and_true, and_self, true_implies, forall_const, ne_eq, Decidable.not_not, not_true_eq_false, not_false_eq_true, List.map_nil, List.map_cons, List.sum_nil, List.sum_cons, List.length_cons, List.length_nil, Nat.le_refl, Nat.zero_le, reduceCtorEq, true_or, or_true, false_or, or_false, false_and, and_false, false_implies, Nat.zero_add, Nat.add_zero, Int.reduceEq, Int.reduceNe, Int.reduceLT, Int.reduceLE, Int.reduceNeg, Int.reduceToNat, Nat.not_lt_zero, Int.reduceAdd, k1, l0, l1, l2, l3, l4, l6, l7, f4, hl, g5, cmp0, fin0, fin1]
          (repeat refine ⟨by omega, ?_⟩)
          refine cG_mark C (fun e he => by rw [m1'.1] at he; cases he) ?_
          rw [m1'.1]
          simp only [wq_g3, wq_gc, wq_g, wq_g1, wq_g2, eL_bars, iL_bars_0, iL_bars_15, iL_bars_63, iL_bars_64, iL_bars_162, iL_bars_166, iL_bars_167, iL_bars_191, iL_bars_192, iL_bars_231, iL_bars_235, iL_bars_260, iL_bars_261, iL_bars_276, iL_bars_282, iL_bars_307, iL_bars_308, vL_bars, wps, x_cnd, reduceIte, Nat.reduceAdd, Nat.reduceSub, Nat.reduceEqDiff, Nat.reduceLeDiff, Nat.lt_irrefl, Nat.reduceLT, Int.cast_ofNat_Int, wq_c0, wq_c1, true_and, and_true, and_self, true_implies, forall_const, ne_eq, Decidable.not_not, not_true_eq_false, not_false_eq_true, List.map_nil, List.map_cons, List.sum_nil, List.sum_cons, List.length_cons, List.length_nil, Nat.le_refl, Nat.zero_le, reduceCtorEq, true_or, or_true, false_or, or_false, false_and, and_false, false_implies, Nat.zero_add, Nat.add_zero, Int.reduceEq, Int.reduceNe, Int.reduceLT, Int.reduceLE, Int.reduceNeg, Int.reduceToNat, Nat.not_lt_zero, Int.reduceAdd, k1, l0, l1, l2, l3, l4, l6, l7, an2]
          (repeat refine ⟨by omega, ?_⟩)
          refine cG_mark C (fun e he => by rw [m1'.2.1] at he; cases he) ?_
          rw [m1'.2.1]
          simp only [wq_g3, wq_gc, wq_g, wq_g1, wq_g2, eL_bars, iL_bars_0, iL_bars_15, iL_bars_63, iL_bars_64, iL_bars_162, iL_bars_166, iL_bars_167, iL_bars_191, iL_bars_192, iL_bars_231, iL_bars_235, iL_bars_260, iL_bars_261, iL_bars_276, iL_bars_282, iL_bars_307, iL_bars_308, vL_bars, wps, x_cnd, reduceIte, Nat.reduceAdd, Nat.reduceSub, Nat.reduceEqDiff, Nat.reduceLeDiff, Nat.lt_irrefl, Nat.reduceLT, Int.cast_ofNat_Int, wq_c0, wq_c1, true_and, and_true, and_self, true_implies, forall_const, ne_eq, Decidable.not_not, not_true_eq_false, not_false_eq_true, List.map_nil, List.map_cons, List.sum_nil, List.sum_cons, List.length_cons, List.length_nil, Nat.le_refl, Nat.zero_le, reduceCtorEq, true_or, or_true, false_or, or_false, false_and, and_false, false_implies, Nat.zero_add, Nat.add_zero, Int.reduceEq, Int.reduceNe, Int.reduceLT, Int.reduceLE, Int.reduceNeg, Int.reduceToNat, Nat.not_lt_zero, Int.reduceAdd, k1, l0, l1, l2, l3, l4, l6, l7, an2]
          (repeat refine ⟨by omega, ?_⟩)
          refine cG_from C (by unfold x_i32; omega) (fun e he => by rw [m1'.2.2] at he; cases he) ?_
          rw [m1'.2.2]
          simp only [wq_g3, wq_gc, wq_g, wq_g1, wq_g2, eL_bars, iL_bars_0, iL_bars_15, iL_bars_63, iL_bars_64, iL_bars_162, iL_bars_166, iL_bars_167, iL_bars_191, iL_bars_192, iL_bars_231, iL_bars_235, iL_bars_260, iL_bars_261, iL_bars_276, iL_bars_282, iL_bars_307, iL_bars_308, vL_bars, wps, x_cnd, reduceIte, Nat.reduceAdd, Nat.reduceSub, Nat.reduceEqDiff, Nat.reduceLeDiff, Nat.lt_irrefl, Nat.reduceLT, Int.cast_ofNat_Int, wq_c0, wq_c1, true_and, and_true, and_self, true_implies, forall_const, ne_eq, Decidable.not_not, not_true_eq_false, not_false_eq_true, List.map_nil, List.map_cons, List.sum_nil, List.sum_cons, List.length_cons, List.length_nil, Nat.le_refl, Nat.zero_le, reduceCtorEq, true_or, or_true, false_or, or_false, false_and, and_false, false_implies, Nat.zero_add, Nat.add_zero, Int.reduceEq, Int.reduceNe, Int.reduceLT, Int.reduceLE, Int.reduceNeg, Int.reduceToNat, Nat.not_lt_zero, Int.reduceAdd, k1, l0, l1, l2, l3, l4, l6, l7, an2]
          (repeat refine ⟨by omega, ?_⟩)
          refine cP_barV C hq (by omega) ?_
          rw [b1]
          simp only [wq_g3, wq_gc, wq_g, wq_g1, wq_g2, eL_bars, iL_bars_0, iL_bars_15, iL_bars_63, iL_bars_64, iL_bars_162, iL_bars_166, iL_bars_167, iL_bars_191, iL_bars_192, iL_bars_231, iL_bars_235, iL_bars_260, iL_bars_261, iL_bars_276, iL_bars_282, iL_bars_307, iL_bars_308, vL_bars, wps, x_cnd, reduceIte, Nat.reduceAdd, Nat.reduceSub, Nat.reduceEqDiff, Nat.reduceLeDiff, Nat.lt_irrefl, Nat.reduceLT, Int.cast_ofNat_Int, wq_c0, wq_c1, true_and, and_true, and_self, true_implies, forall_const, ne_eq, Decidable.not_not, not_true_eq_false, not_false_eq_true, List.map_nil, List.map_cons, List.sum_nil, List.sum_cons, List.length_cons, List.length_nil, Nat.le_refl, Nat.zero_le, reduceCtorEq, true_or, or_true, false_or, or_false, false_and, and_false, false_implies, Nat.zero_add, Nat.add_zero, Int.reduceEq, Int.reduceNe, Int.reduceLT, Int.reduceLE, Int.reduceNeg, Int.reduceToNat, Nat.not_lt_zero, Int.reduceAdd, k1, l0, l1, l2, l3, l4, l6, l7, g6, fin1]
          (repeat refine ⟨by omega, ?_⟩)
          refine kX v1 (cP_called C) ?_
          rcases v2 with rfl | ⟨l9, d9, rfl, d1, d2, d3⟩
          · have h1000 : ¬ (1000 ≤ (i : Int)) := by omega
            simp only [wq_g3, wq_gc, wq_g, wq_g1, wq_g2, eL_bars, iL_bars_0, iL_bars_15, iL_bars_63, iL_bars_64, iL_bars_162, iL_bars_166, iL_bars_167, iL_bars_191, iL_bars_192, iL_bars_231, iL_bars_235, iL_bars_260, iL_bars_261, iL_bars_276, iL_bars_282, iL_bars_307, iL_bars_308, vL_bars, wps, x_cnd, reduceIte, Nat.reduceAdd, Nat.reduceSub, Nat.reduceEqDiff, Nat.reduceLeDiff, Nat.lt_irrefl, Nat.reduceLT, Int.cast_ofNat_Int, wq_c0, wq_c1, true_and, and_true, and_self, true_implies, forall_const, ne_eq, Decidable.not_not, not_true_eq_false, not_false_eq_true, List.map_nil, List.map_cons, List.sum_nil, List.sum_cons, List.length_cons, List.length_nil, Nat.le_refl, Nat.zero_le, reduceCtorEq, true_or, or_true, false_or, or_false, false_and, and_false, false_implies, Nat.zero_add, Nat.add_zero, Int.reduceEq, Int.reduceNe, Int.reduceLT, Int.reduceLE, Int.reduceNeg, Int.reduceToNat, Nat.not_lt_zero, Int.reduceAdd, k1, l0, l1, l2, l3, l4, l6, l7, h1000]
            (repeat refine ⟨by omega, ?_⟩)
            refine cP_barV C hq (by omega) ?_
            rw [b2]
            simp only [wq_g3, wq_gc, wq_g, wq_g1, wq_g2, eL_bars, iL_bars_0, iL_bars_15, iL_bars_63, iL_bars_64, iL_bars_162, iL_bars_166, iL_bars_167, iL_bars_191, iL_bars_192, iL_bars_231, iL_bars_235, iL_bars_260, iL_bars_261, iL_bars_276, iL_bars_282, iL_bars_307, iL_bars_308, vL_bars, wps, x_cnd, reduceIte, Nat.reduceAdd, Nat.reduceSub, Nat.reduceEqDiff, Nat.reduceLeDiff, Nat.lt_irrefl, Nat.reduceLT, Int.cast_ofNat_Int, wq_c0, wq_c1, true_and, and_true, and_self, true_implies, forall_const, ne_eq, Decidable.not_not, not_true_eq_false, not_false_eq_true, List.map_nil, List.map_cons, List.sum_nil, List.sum_cons, List.length_cons, List.length_nil, Nat.le_refl, Nat.zero_le, reduceCtorEq, true_or, or_true, false_or, or_false, false_and, and_false, false_implies, Nat.zero_add, Nat.add_zero, Int.reduceEq, Int.reduceNe, Int.reduceLT, Int.reduceLE, Int.reduceNeg, Int.reduceToNat, Nat.not_lt_zero, Int.reduceAdd, k1, l0, l1, l2, l3, l4, l6, l7]
            simp (disch := omega) only [w32_of]
            refine ⟨200 - (q + 1), by omega, q + 1, i + 1, lab (aS A) q, x_orL seen (x_shlL 1 (lt (aS A) q)), rfl, by omega, hi1, rfl, by rw [e2], by rw [g2], rfl, by rw [e1], f5, fun l h9 h8 => ?_, by omega, by omega⟩
            have h7 : ln ≠ l := fun e => h8 q (by omega) (by rw [hln, e])
            rw [hln, bt_or (by omega) h9 h7]
            exact hseen l h9 (f6 h8)
          · have h1000 : 1000 ≤ 1000 * l9 + (d9 : Int) := by omega
            have q1 : x_div (1000 * l9 + (d9 : Int)) 1000 = l9 := by
              rw [x_div_of (by omega)]
              omega
            have q2 : x_rem (1000 * l9 + (d9 : Int)) 1000 = d9 := by
              rw [x_rem_of (by omega)]
              omega
            simp only [wq_g3, wq_gc, wq_g, wq_g1, wq_g2, eL_bars, iL_bars_0, iL_bars_15, iL_bars_63, iL_bars_64, iL_bars_162, iL_bars_166, iL_bars_167, iL_bars_191, iL_bars_192, iL_bars_231, iL_bars_235, iL_bars_260, iL_bars_261, iL_bars_276, iL_bars_282, iL_bars_307, iL_bars_308, vL_bars, wps, x_cnd, reduceIte, Nat.reduceAdd, Nat.reduceSub, Nat.reduceEqDiff, Nat.reduceLeDiff, Nat.lt_irrefl, Nat.reduceLT, Int.cast_ofNat_Int, wq_c0, wq_c1, true_and, and_true, and_self, true_implies, forall_const, ne_eq, Decidable.not_not, not_true_eq_false, not_false_eq_true, List.map_nil, List.map_cons, List.sum_nil, List.sum_cons, List.length_cons, List.length_nil, Nat.le_refl, Nat.zero_le, reduceCtorEq, true_or, or_true, false_or, or_false, false_and, and_false, false_implies, Nat.zero_add, Nat.add_zero, Int.reduceEq, Int.reduceNe, Int.reduceLT, Int.reduceLE, Int.reduceNeg, Int.reduceToNat, Nat.not_lt_zero, Int.reduceAdd, k1, l0, l1, l2, l3, l4, l6, l7, h1000, q1, q2]
            (repeat refine ⟨by omega, ?_⟩)
            refine cG_from C (by unfold x_i32; omega) (fun e he => by rw [d3] at he; cases he) ?_
            rw [d3]
            simp only [wq_g3, wq_gc, wq_g, wq_g1, wq_g2, eL_bars, iL_bars_0, iL_bars_15, iL_bars_63, iL_bars_64, iL_bars_162, iL_bars_166, iL_bars_167, iL_bars_191, iL_bars_192, iL_bars_231, iL_bars_235, iL_bars_260, iL_bars_261, iL_bars_276, iL_bars_282, iL_bars_307, iL_bars_308, vL_bars, wps, x_cnd, reduceIte, Nat.reduceAdd, Nat.reduceSub, Nat.reduceEqDiff, Nat.reduceLeDiff, Nat.lt_irrefl, Nat.reduceLT, Int.cast_ofNat_Int, wq_c0, wq_c1, true_and, and_true, and_self, true_implies, forall_const, ne_eq, Decidable.not_not, not_true_eq_false, not_false_eq_true, List.map_nil, List.map_cons, List.sum_nil, List.sum_cons, List.length_cons, List.length_nil, Nat.le_refl, Nat.zero_le, reduceCtorEq, true_or, or_true, false_or, or_false, false_and, and_false, false_implies, Nat.zero_add, Nat.add_zero, Int.reduceEq, Int.reduceNe, Int.reduceLT, Int.reduceLE, Int.reduceNeg, Int.reduceToNat, Nat.not_lt_zero, Int.reduceAdd, k1, l0, l1, l2, l3, l4, l6, l7, an2]
            (repeat refine ⟨by omega, ?_⟩)
            refine cP_barV C hq (by omega) ?_
            rw [b2]
            simp only [wq_g3, wq_gc, wq_g, wq_g1, wq_g2, eL_bars, iL_bars_0, iL_bars_15, iL_bars_63, iL_bars_64, iL_bars_162, iL_bars_166, iL_bars_167, iL_bars_191, iL_bars_192, iL_bars_231, iL_bars_235, iL_bars_260, iL_bars_261, iL_bars_276, iL_bars_282, iL_bars_307, iL_bars_308, vL_bars, wps, x_cnd, reduceIte, Nat.reduceAdd, Nat.reduceSub, Nat.reduceEqDiff, Nat.reduceLeDiff, Nat.lt_irrefl, Nat.reduceLT, Int.cast_ofNat_Int, wq_c0, wq_c1, true_and, and_true, and_self, true_implies, forall_const, ne_eq, Decidable.not_not, not_true_eq_false, not_false_eq_true, List.map_nil, List.map_cons, List.sum_nil, List.sum_cons, List.length_cons, List.length_nil, Nat.le_refl, Nat.zero_le, reduceCtorEq, true_or, or_true, false_or, or_false, false_and, and_false, false_implies, Nat.zero_add, Nat.add_zero, Int.reduceEq, Int.reduceNe, Int.reduceLT, Int.reduceLE, Int.reduceNeg, Int.reduceToNat, Nat.not_lt_zero, Int.reduceAdd, k1, l0, l1, l2, l3, l4, l6, l7]
            simp (disch := omega) only [w32_of]
            refine ⟨200 - (q + 1), by omega, q + 1, i + 1, lab (aS A) q, x_orL seen (x_shlL 1 (lt (aS A) q)), rfl, by omega, hi1, rfl, by rw [e2], by rw [g2], rfl, by rw [e1], f5, fun l h9 h8 => ?_, by omega, by omega⟩
            have h7 : ln ≠ l := fun e => h8 q (by omega) (by rw [hln, e])
            rw [hln, bt_or (by omega) h9 h7]
            exact hseen l h9 (f6 h8)
      · have hP0 : isP (aS A) q = false := by
          cases hb : isP (aS A) q with
          | false => rfl
          | true => exact absurd (isP_iff.mp hb) hp
        have hi1 : pb (aS A) (q + 1) = (i : Int) := by
          have := cn_s0 (P := isP (aS A)) (n := q) hP0
          unfold pb at hi ⊢
          omega
        have b6 : bv (aS A) q 6 = 0 := b01_f hp
        have hl : lt (aS A) q = 0 := by
          by_cases h9 : lt (aS A) q = 0
          · exact h9
          · obtain ⟨-, h8, -⟩ := lt_at C.w hq h9
            rw [h8] at hP0
            cases hP0
        rw [hl]
        simp only [wq_g3, wq_gc, wq_g, wq_g1, wq_g2, eL_bars, iL_bars_0, iL_bars_15, iL_bars_63, iL_bars_64, iL_bars_162, iL_bars_166, iL_bars_167, iL_bars_191, iL_bars_192, iL_bars_231, iL_bars_235, iL_bars_260, iL_bars_261, iL_bars_276, iL_bars_282, iL_bars_307, iL_bars_308, vL_bars, wps, x_cnd, reduceIte, Nat.reduceAdd, Nat.reduceSub, Nat.reduceEqDiff, Nat.reduceLeDiff, Nat.lt_irrefl, Nat.reduceLT, Int.cast_ofNat_Int, wq_c0, wq_c1, true_and, and_true, and_self, true_implies, forall_const, ne_eq, Decidable.not_not, not_true_eq_false, not_false_eq_true, List.map_nil, List.map_cons, List.sum_nil, List.sum_cons, List.length_cons, List.length_nil, Nat.le_refl, Nat.zero_le, reduceCtorEq, true_or, or_true, false_or, or_false, false_and, and_false, false_implies, Nat.zero_add, Nat.add_zero, Int.reduceEq, Int.reduceNe, Int.reduceLT, Int.reduceLE, Int.reduceNeg, Int.reduceToNat, Nat.not_lt_zero, Int.reduceAdd, k1, l0, l1, l2, l3, l4, l6, l7]
        (repeat refine ⟨by omega, ?_⟩)
        refine cP_barV C hq (by omega) ?_
        rw [b6]
        simp only [wq_g3, wq_gc, wq_g, wq_g1, wq_g2, eL_bars, iL_bars_0, iL_bars_15, iL_bars_63, iL_bars_64, iL_bars_162, iL_bars_166, iL_bars_167, iL_bars_191, iL_bars_192, iL_bars_231, iL_bars_235, iL_bars_260, iL_bars_261, iL_bars_276, iL_bars_282, iL_bars_307, iL_bars_308, vL_bars, wps, x_cnd, reduceIte, Nat.reduceAdd, Nat.reduceSub, Nat.reduceEqDiff, Nat.reduceLeDiff, Nat.lt_irrefl, Nat.reduceLT, Int.cast_ofNat_Int, wq_c0, wq_c1, true_and, and_true, and_self, true_implies, forall_const, ne_eq, Decidable.not_not, not_true_eq_false, not_false_eq_true, List.map_nil, List.map_cons, List.sum_nil, List.sum_cons, List.length_cons, List.length_nil, Nat.le_refl, Nat.zero_le, reduceCtorEq, true_or, or_true, false_or, or_false, false_and, and_false, false_implies, Nat.zero_add, Nat.add_zero, Int.reduceEq, Int.reduceNe, Int.reduceLT, Int.reduceLE, Int.reduceNeg, Int.reduceToNat, Nat.not_lt_zero, Int.reduceAdd, k1, l0, l1, l2, l3, l4, l6, l7]
        (repeat refine ⟨by omega, ?_⟩)
        refine cP_barV C hq (by omega) ?_
        rw [b0]
        simp only [wq_g3, wq_gc, wq_g, wq_g1, wq_g2, eL_bars, iL_bars_0, iL_bars_15, iL_bars_63, iL_bars_64, iL_bars_162, iL_bars_166, iL_bars_167, iL_bars_191, iL_bars_192, iL_bars_231, iL_bars_235, iL_bars_260, iL_bars_261, iL_bars_276, iL_bars_282, iL_bars_307, iL_bars_308, vL_bars, wps, x_cnd, reduceIte, Nat.reduceAdd, Nat.reduceSub, Nat.reduceEqDiff, Nat.reduceLeDiff, Nat.lt_irrefl, Nat.reduceLT, Int.cast_ofNat_Int, wq_c0, wq_c1, true_and, and_true, and_self, true_implies, forall_const, ne_eq, Decidable.not_not, not_true_eq_false, not_false_eq_true, List.map_nil, List.map_cons, List.sum_nil, List.sum_cons, List.length_cons, List.length_nil, Nat.le_refl, Nat.zero_le, reduceCtorEq, true_or, or_true, false_or, or_false, false_and, and_false, false_implies, Nat.zero_add, Nat.add_zero, Int.reduceEq, Int.reduceNe, Int.reduceLT, Int.reduceLE, Int.reduceNeg, Int.reduceToNat, Nat.not_lt_zero, Int.reduceAdd, k1, l0, l1, l2, l3, l4, l6, l7]
        (repeat refine ⟨by omega, ?_⟩)
        refine cP_barV C hq (by omega) ?_
        rw [b1]
        simp only [wq_g3, wq_gc, wq_g, wq_g1, wq_g2, eL_bars, iL_bars_0, iL_bars_15, iL_bars_63, iL_bars_64, iL_bars_162, iL_bars_166, iL_bars_167, iL_bars_191, iL_bars_192, iL_bars_231, iL_bars_235, iL_bars_260, iL_bars_261, iL_bars_276, iL_bars_282, iL_bars_307, iL_bars_308, vL_bars, wps, x_cnd, reduceIte, Nat.reduceAdd, Nat.reduceSub, Nat.reduceEqDiff, Nat.reduceLeDiff, Nat.lt_irrefl, Nat.reduceLT, Int.cast_ofNat_Int, wq_c0, wq_c1, true_and, and_true, and_self, true_implies, forall_const, ne_eq, Decidable.not_not, not_true_eq_false, not_false_eq_true, List.map_nil, List.map_cons, List.sum_nil, List.sum_cons, List.length_cons, List.length_nil, Nat.le_refl, Nat.zero_le, reduceCtorEq, true_or, or_true, false_or, or_false, false_and, and_false, false_implies, Nat.zero_add, Nat.add_zero, Int.reduceEq, Int.reduceNe, Int.reduceLT, Int.reduceLE, Int.reduceNeg, Int.reduceToNat, Nat.not_lt_zero, Int.reduceAdd, k1, l0, l1, l2, l3, l4, l6, l7, f4]
        (repeat refine ⟨by omega, ?_⟩)
        refine cP_barV C hq (by omega) ?_
        rw [b1]
        simp only [wq_g3, wq_gc, wq_g, wq_g1, wq_g2, eL_bars, iL_bars_0, iL_bars_15, iL_bars_63, iL_bars_64, iL_bars_162, iL_bars_166, iL_bars_167, iL_bars_191, iL_bars_192, iL_bars_231, iL_bars_235, iL_bars_260, iL_bars_261, iL_bars_276, iL_bars_282, iL_bars_307, iL_bars_308, vL_bars, wps, x_cnd, reduceIte, Nat.reduceAdd, Nat.reduceSub, Nat.reduceEqDiff, Nat.reduceLeDiff, Nat.lt_irrefl, Nat.reduceLT, Int.cast_ofNat_Int, wq_c0, wq_c1, true_and, and_true, and_self, true_implies, forall_const, ne_eq, Decidable.not_not, not_true_eq_false, not_false_eq_true, List.map_nil, List.map_cons, List.sum_nil, List.sum_cons, List.length_cons, List.length_nil, Nat.le_refl, Nat.zero_le, reduceCtorEq, true_or, or_true, false_or, or_false, false_and, and_false, false_implies, Nat.zero_add, Nat.add_zero, Int.reduceEq, Int.reduceNe, Int.reduceLT, Int.reduceLE, Int.reduceNeg, Int.reduceToNat, Nat.not_lt_zero, Int.reduceAdd, k1, l0, l1, l2, l3, l4, l6, l7, f4]
        (repeat refine ⟨by omega, ?_⟩)
        refine kX (labelled_at C.w hq) (cP_labelled C) ?_
        simp only [wq_g3, wq_gc, wq_g, wq_g1, wq_g2, eL_bars, iL_bars_0, iL_bars_15, iL_bars_63, iL_bars_64, iL_bars_162, iL_bars_166, iL_bars_167, iL_bars_191, iL_bars_192, iL_bars_231, iL_bars_235, iL_bars_260, iL_bars_261, iL_bars_276, iL_bars_282, iL_bars_307, iL_bars_308, vL_bars, wps, x_cnd, reduceIte, Nat.reduceAdd, Nat.reduceSub, Nat.reduceEqDiff, Nat.reduceLeDiff, Nat.lt_irrefl, Nat.reduceLT, Int.cast_ofNat_Int, wq_c0, wq_c1, true_and, and_true, and_self, true_implies, forall_const, ne_eq, Decidable.not_not, not_true_eq_false, not_false_eq_true, List.map_nil, List.map_cons, List.sum_nil, List.sum_cons, List.length_cons, List.length_nil, Nat.le_refl, Nat.zero_le, reduceCtorEq, true_or, or_true, false_or, or_false, false_and, and_false, false_implies, Nat.zero_add, Nat.add_zero, Int.reduceEq, Int.reduceNe, Int.reduceLT, Int.reduceLE, Int.reduceNeg, Int.reduceToNat, Nat.not_lt_zero, Int.reduceAdd, k1, l0, l1, l2, l3, l4, l6, l7, f4]
        (repeat refine ⟨by omega, ?_⟩)
        refine cP_barV C hq (by omega) ?_
        rw [b1]
        simp only [wq_g3, wq_gc, wq_g, wq_g1, wq_g2, eL_bars, iL_bars_0, iL_bars_15, iL_bars_63, iL_bars_64, iL_bars_162, iL_bars_166, iL_bars_167, iL_bars_191, iL_bars_192, iL_bars_231, iL_bars_235, iL_bars_260, iL_bars_261, iL_bars_276, iL_bars_282, iL_bars_307, iL_bars_308, vL_bars, wps, x_cnd, reduceIte, Nat.reduceAdd, Nat.reduceSub, Nat.reduceEqDiff, Nat.reduceLeDiff, Nat.lt_irrefl, Nat.reduceLT, Int.cast_ofNat_Int, wq_c0, wq_c1, true_and, and_true, and_self, true_implies, forall_const, ne_eq, Decidable.not_not, not_true_eq_false, not_false_eq_true, List.map_nil, List.map_cons, List.sum_nil, List.sum_cons, List.length_cons, List.length_nil, Nat.le_refl, Nat.zero_le, reduceCtorEq, true_or, or_true, false_or, or_false, false_and, and_false, false_implies, Nat.zero_add, Nat.add_zero, Int.reduceEq, Int.reduceNe, Int.reduceLT, Int.reduceLE, Int.reduceNeg, Int.reduceToNat, Nat.not_lt_zero, Int.reduceAdd, k1, l0, l1, l2, l3, l4, l6, l7]
        simp (disch := omega) only [w32_of]
        refine ⟨200 - (q + 1), by omega, q + 1, i, lab (aS A) q, x_orL seen 0, rfl, by omega, hi1, rfl, rfl, rfl, rfl, by rw [e1], f5, fun l h9 h8 => ?_, by omega, by omega⟩
        rw [bt_or0]
        exact hseen l h9 (f6 h8)
end LAW8
