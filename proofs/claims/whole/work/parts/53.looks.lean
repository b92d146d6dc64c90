/-! the model looks at its score -/
section LOOK
variable {A : xAb} {M : xM} {h : xH} {Φ : xO → xM → xH → Prop} {S : xSr} {nid : Int}
set_option maxHeartbeats 1000000
theorem cM_laysLabels (F : Fx h) (G : SG S (M 42)) (w : wfS S nid) (k : ∀ M', (∀ p : Nat, p < sN S → M' 47 p = lab S p) → (∀ a j, a ≠ 47 → M' a j = M a j) → Φ (.inl none) M' h) : x_Cal zM_laysLabels [xA 41] M h Φ := by
  have hN := w.N
  have e0 := G.n
  refine x_metI kM_laysLabels (Nat.le_of_ble_eq_true rfl) (fun t m ls st M' h' c n2 => t = 6 ∧ st = [] ∧ h' = h ∧ c = 0 ∧ n2 = 0 ∧ ls 0 = some (xA 41) ∧ ∃ p : Nat, p ≤ sN S ∧ m = sN S - p ∧ ls 1 = some (xI (cn (isI (sX S)) p)) ∧ ls 2 = some (xI (sfx (sX S) p)) ∧ ls 3 = some (xI p) ∧ (∀ q : Nat, q < p → M' 47 q = lab S q) ∧ ∀ a j, a ≠ 47 → M' a j = M a j) 20 ?_ ?_
  · simp only [wq_g3, wq_gc, wq_g, wq_g1, wq_g2, eM_laysLabels, iM_laysLabels_0, iM_laysLabels_6, iM_laysLabels_32, iM_laysLabels_35, iM_laysLabels_47, iM_laysLabels_48, iM_laysLabels_68, vM_laysLabels, wps, x_cnd, reduceIte, Nat.reduceAdd, Nat.reduceSub, Nat.reduceEqDiff, Nat.reduceLeDiff, Nat.lt_irrefl, Nat.reduceLT, Int.cast_ofNat_Int, wq_c0, wq_c1, true_and, and_true, and_self, true_implies, forall_const, ne_eq, Decidable.not_not, not_true_eq_false, not_false_eq_true, List.map_nil, List.map_cons, List.sum_nil, List.sum_cons, List.length_cons, List.length_nil, Nat.le_refl, Nat.zero_le, reduceCtorEq, true_or, or_true, false_or, or_false, false_and, and_false, false_implies, Nat.zero_add, Nat.add_zero, Int.reduceEq, Int.reduceNe, Int.reduceLT, Int.reduceLE, Int.reduceNeg, Int.reduceToNat, Nat.not_lt_zero, Int.reduceAdd, fxs F]
    exact ⟨sN S, 0, by omega, by omega, rfl, rfl, by rw [Int.natCast_zero], fun q hq => by omega, fun _ _ => trivial⟩
  · rintro t m ls st M' h' c n2 ⟨rfl, rfl, rfl, rfl, rfl, l0, p, q1, q2, l1, l2, l3, q3, fr⟩
    have e42 : M' 42 = M 42 := funext (fun j => fr 42 j (by decide))
    have e1 : M' 42 0 = sN S := by rw [e42]; exact e0
    simp only [wq_g3, wq_gc, wq_g, wq_g1, wq_g2, eM_laysLabels, iM_laysLabels_0, iM_laysLabels_6, iM_laysLabels_32, iM_laysLabels_35, iM_laysLabels_47, iM_laysLabels_48, iM_laysLabels_68, vM_laysLabels, wps, x_cnd, reduceIte, Nat.reduceAdd, Nat.reduceSub, Nat.reduceEqDiff, Nat.reduceLeDiff, Nat.lt_irrefl, Nat.reduceLT, Int.cast_ofNat_Int, wq_c0, wq_c1, true_and, and_true, and_self, true_implies, forall_const, ne_eq, Decidable.not_not, not_true_eq_false, not_false_eq_true, List.map_nil, List.map_cons, List.sum_nil, List.sum_cons, List.length_cons, List.length_nil, Nat.le_refl, Nat.zero_le, reduceCtorEq, true_or, or_true, false_or, or_false, false_and, and_false, false_implies, Nat.zero_add, Nat.add_zero, Int.reduceEq, Int.reduceNe, Int.reduceLT, Int.reduceLE, Int.reduceNeg, Int.reduceToNat, Nat.not_lt_zero, Int.reduceAdd, fxs F, l0, l1, l2, l3, e1]
    refine ⟨fun c0 => k M' (fun q hq => q3 q (by omega)) fr, fun c0 => cM_isInserted F (S := S) (by rw [e42]; exact G) w (by omega) ?_⟩
    have hp : p < sN S := by omega
    have hx := w.x hp
    have h1 := cn_rng (P := isI (sX S)) (n := p)
    have h2 := sfx_rng (sX S) p
    have h3 := cn_s (P := isI (sX S)) p
    have h4 := sfx_s (sX S) p
    have go : ∀ u v : Int, u = cn (isI (sX S)) (p + 1) → v = sfx (sX S) (p + 1) → ∃ m2, m2 < m ∧ ∃ p_1 : Nat, p_1 ≤ sN S ∧ m2 = sN S - p_1 ∧ some (xI u) = some (xI (cn (isI (sX S)) p_1)) ∧ some (xI v) = some (xI (sfx (sX S) p_1)) ∧ some (xI ((p : Int) + 1)) = some (xI p_1) ∧ (∀ q : Nat, q < p_1 → x_w M' 47 p (1000 * u + v) 47 q = lab S q) ∧ ∀ (a : Nat) (j : Int), ¬ a = 47 → x_w M' 47 p (1000 * u + v) a j = M a j := fun u v hu hv => ⟨sN S - (p + 1), by omega, p + 1, by omega, rfl, by rw [hu], by rw [hv], congrArg (fun z => some (xI z)) (by omega), fun q hq => by
      by_cases hqp : q = p
      · subst hqp
        rw [w_eq, hu, hv]
        rfl
      · rw [w_nj (by omega)]
        exact q3 q (by omega), fun a j ha => (w_ne ha).trans (fr a j ha)⟩
    simp only [wq_g3, wq_gc, wq_g, wq_g1, wq_g2, eM_laysLabels, iM_laysLabels_0, iM_laysLabels_6, iM_laysLabels_32, iM_laysLabels_35, iM_laysLabels_47, iM_laysLabels_48, iM_laysLabels_68, vM_laysLabels, wps, x_cnd, reduceIte, Nat.reduceAdd, Nat.reduceSub, Nat.reduceEqDiff, Nat.reduceLeDiff, Nat.lt_irrefl, Nat.reduceLT, Int.cast_ofNat_Int, wq_c0, wq_c1, true_and, and_true, and_self, true_implies, forall_const, ne_eq, Decidable.not_not, not_true_eq_false, not_false_eq_true, List.map_nil, List.map_cons, List.sum_nil, List.sum_cons, List.length_cons, List.length_nil, Nat.le_refl, Nat.zero_le, reduceCtorEq, true_or, or_true, false_or, or_false, false_and, and_false, false_implies, Nat.zero_add, Nat.add_zero, Int.reduceEq, Int.reduceNe, Int.reduceLT, Int.reduceLE, Int.reduceNeg, Int.reduceToNat, Nat.not_lt_zero, Int.reduceAdd, fxs F, l0, l1, l2, l3, e1, b01_0]
    simp (disch := omega) only [w32_of]
    refine ⟨fun c1 => ⟨fun _ => ⟨by omega, ?_⟩, fun q => absurd q c1⟩, fun c1 => ⟨fun q => absurd c1 q, fun _ => ⟨by omega, ?_⟩⟩⟩
    · have hx0 : sX S p = 0 := by omega
      rw [if_pos (by unfold isI; rw [hx0]; rfl)] at h3
      rw [if_pos hx0] at h4
      exact go _ 0 h3.symm h4.symm
    · rw [if_neg (by unfold isI; rw [c1]; decide)] at h3
      rw [if_neg (by omega)] at h4
      exact go _ _ (by omega) h4.symm
theorem cM_laysCovers (F : Fx h) (G : SG S (M 42)) (w : wfS S nid) (k : ∀ M', (∀ p : Nat, p < sN S → M' 48 p = cov S p) → M' 41 26 = pN S → (∀ p : Nat, p < sN S → M' 52 p = pb S p) → (∀ j : Nat, (j : Int) < pN S → M' 51 j = pp S j) → (∀ a j, a ≠ 48 → a ≠ 51 → a ≠ 52 → ¬ (a = 41 ∧ j = 26) → M' a j = M a j) → Φ (.inl none) M' h) : x_Cal zM_laysCovers [xA 41] M h Φ := by
  have hN := w.N
  have e0 := G.n
  have e1 := G.cb
  refine x_metI kM_laysCovers (Nat.le_of_ble_eq_true rfl) (fun t m ls st M' h' c n2 => st = [] ∧ h' = h ∧ c = 0 ∧ n2 = 0 ∧ ls 0 = some (xA 41) ∧ (∀ a j, a ≠ 48 → a ≠ 51 → a ≠ 52 → ¬ (a = 41 ∧ j = 26) → M' a j = M a j) ∧
    ((t = 2 ∧ ∃ p : Nat, p ≤ sN S ∧ m = 100000 + (sN S - p) ∧ ls 1 = some (xI p) ∧ ∀ q : Nat, q < p → M' 48 q = 0) ∨
     (t = 27 ∧ ∃ d : Nat, d ≤ 10 ∧ m = 1000 * (10 - d) + 700 ∧ ls 1 = some (xI d) ∧ ∀ p : Nat, p < sN S → M' 48 p = cvk S p d) ∨
     (t = 79 ∧ ∃ d f l q : Nat, d < 10 ∧ hasC S d = true ∧ pl S (sF S d) = f ∧ pl S (sL S d) = l ∧ l < sN S ∧ f ≤ q ∧ q ≤ l + 1 ∧ m = 1000 * (10 - d) + (200 - q) ∧ ls 1 = some (xI d) ∧ ls 2 = some (xI l) ∧ ls 3 = some (xI q) ∧ ∀ p : Nat, p < sN S → M' 48 p = cvk S p d + (if f ≤ p ∧ p < q then 1 else 0)) ∨
     (t = 117 ∧ ∃ p : Nat, p ≤ sN S ∧ m = sN S - p ∧ ls 1 = some (xI p) ∧ (∀ p : Nat, p < sN S → M' 48 p = cov S p) ∧ M' 41 26 = pb S p ∧ (∀ q : Nat, q < p → M' 52 q = pb S q) ∧ (∀ j : Nat, (j : Int) < pb S p → M' 51 j = pp S j)))) 20 ?_ ?_
  · simp only [wq_g3, wq_gc, wq_g, wq_g1, wq_g2, eM_laysCovers, iM_laysCovers_0, iM_laysCovers_2, iM_laysCovers_25, iM_laysCovers_27, iM_laysCovers_49, iM_laysCovers_79, iM_laysCovers_104, iM_laysCovers_110, iM_laysCovers_117, iM_laysCovers_166, iM_laysCovers_172, vM_laysCovers, wps, x_cnd, reduceIte, Nat.reduceAdd, Nat.reduceSub, Nat.reduceEqDiff, Nat.reduceLeDiff, Nat.lt_irrefl, Nat.reduceLT, Int.cast_ofNat_Int, wq_c0, wq_c1, true_and, and_true, and_self, true_implies, forall_const, ne_eq, Decidable.not_not, not_true_eq_false, not_false_eq_true, List.map_nil, List.map_cons, List.sum_nil, List.sum_cons, List.length_cons, List.length_nil, Nat.le_refl, Nat.zero_le, reduceCtorEq, true_or, or_true, false_or, or_false, false_and, and_false, false_implies, Nat.zero_add, Nat.add_zero, Int.reduceEq, Int.reduceNe, Int.reduceLT, Int.reduceLE, Int.reduceNeg, Int.reduceToNat, Nat.not_lt_zero, Int.reduceAdd, fxs F]
    exact ⟨100000 + (sN S - 0), fun _ _ _ _ _ _ => trivial, 0, by omega, rfl, by rw [Int.natCast_zero], fun q hq => by omega⟩
  · rintro t m ls st M' h' c n2 ⟨rfl, rfl, rfl, rfl, l0, fr, hd⟩
    have e42 : M' 42 = M 42 := funext (fun j => fr 42 j (by decide) (by decide) (by decide) (by omega))
    have G' : SG S (M' 42) := by rw [e42]; exact G
    have e2 := G'.n
    have e3 := G'.cb
    rcases hd with ⟨rfl, p, q1, q2, l1, q3⟩ | ⟨rfl, d, d1, d2, l1, q3⟩ | ⟨rfl, d, f, l, q, d1, d2, d3, d4, d5, d6, d7, d8, l1, l2, l3, q3⟩ | ⟨rfl, p, q1, q2, l1, q3, q4, q5, q6⟩
    · simp only [wq_g3, wq_gc, wq_g, wq_g1, wq_g2, eM_laysCovers, iM_laysCovers_0, iM_laysCovers_2, iM_laysCovers_25, iM_laysCovers_27, iM_laysCovers_49, iM_laysCovers_79, iM_laysCovers_104, iM_laysCovers_110, iM_laysCovers_117, iM_laysCovers_166, iM_laysCovers_172, vM_laysCovers, wps, x_cnd, reduceIte, Nat.reduceAdd, Nat.reduceSub, Nat.reduceEqDiff, Nat.reduceLeDiff, Nat.lt_irrefl, Nat.reduceLT, Int.cast_ofNat_Int, wq_c0, wq_c1, true_and, and_true, and_self, true_implies, forall_const, ne_eq, Decidable.not_not, not_true_eq_false, not_false_eq_true, List.map_nil, List.map_cons, List.sum_nil, List.sum_cons, List.length_cons, List.length_nil, Nat.le_refl, Nat.zero_le, reduceCtorEq, true_or, or_true, false_or, or_false, false_and, and_false, false_implies, Nat.zero_add, Nat.add_zero, Int.reduceEq, Int.reduceNe, Int.reduceLT, Int.reduceLE, Int.reduceNeg, Int.reduceToNat, Nat.not_lt_zero, Int.reduceAdd, fxs F, l0, l1, e2]
      refine ⟨fun c0 => ⟨1000 * (10 - 0) + 700, by omega, fr, 0, by omega, rfl, by rw [Int.natCast_zero], fun q hq => q3 q (by omega)⟩, fun c0 => ⟨by omega, 100000 + (sN S - (p + 1)), by omega, fun a j h1 h2 h3 h4 => (w_ne h1).trans (fr a j h1 h2 h3 h4), p + 1, by omega, rfl, by rw [w32_of (by omega)]; exact congrArg (fun z => some (xI z)) (by omega), fun q hq => ?_⟩⟩
      by_cases hqp : q = p
      · subst hqp
        exact w_eq
      · rw [w_nj (by omega)]
        exact q3 q (by omega)
    · simp only [wq_g3, wq_gc, wq_g, wq_g1, wq_g2, eM_laysCovers, iM_laysCovers_0, iM_laysCovers_2, iM_laysCovers_25, iM_laysCovers_27, iM_laysCovers_49, iM_laysCovers_79, iM_laysCovers_104, iM_laysCovers_110, iM_laysCovers_117, iM_laysCovers_166, iM_laysCovers_172, vM_laysCovers, wps, x_cnd, reduceIte, Nat.reduceAdd, Nat.reduceSub, Nat.reduceEqDiff, Nat.reduceLeDiff, Nat.lt_irrefl, Nat.reduceLT, Int.cast_ofNat_Int, wq_c0, wq_c1, true_and, and_true, and_self, true_implies, forall_const, ne_eq, Decidable.not_not, not_true_eq_false, not_false_eq_true, List.map_nil, List.map_cons, List.sum_nil, List.sum_cons, List.length_cons, List.length_nil, Nat.le_refl, Nat.zero_le, reduceCtorEq, true_or, or_true, false_or, or_false, false_and, and_false, false_implies, Nat.zero_add, Nat.add_zero, Int.reduceEq, Int.reduceNe, Int.reduceLT, Int.reduceLE, Int.reduceNeg, Int.reduceToNat, Nat.not_lt_zero, Int.reduceAdd, fxs F, l0, l1, e3]
      refine ⟨fun c0 => ⟨sN S - 0, by omega, fun a j h1 h2 h3 h4 => (if_neg h4).trans (fr a j h1 h2 h3 h4), 0, by omega, rfl, by rw [Int.natCast_zero], fun q hq => ?_, w_eq, fun q hq => by omega, fun j hj => ?_⟩, fun c0 => cM_hasB (by decide) (by omega) ?_⟩
      · rw [w_ne (by decide), q3 q hq, show d = 10 by omega]
        rfl
      · have : pb S 0 = 0 := rfl
        omega
      · simp only [wq_g3, wq_gc, wq_g, wq_g1, wq_g2, eM_laysCovers, iM_laysCovers_0, iM_laysCovers_2, iM_laysCovers_25, iM_laysCovers_27, iM_laysCovers_49, iM_laysCovers_79, iM_laysCovers_104, iM_laysCovers_110, iM_laysCovers_117, iM_laysCovers_166, iM_laysCovers_172, vM_laysCovers, wps, x_cnd, reduceIte, Nat.reduceAdd, Nat.reduceSub, Nat.reduceEqDiff, Nat.reduceLeDiff, Nat.lt_irrefl, Nat.reduceLT, Int.cast_ofNat_Int, wq_c0, wq_c1, true_and, and_true, and_self, true_implies, forall_const, ne_eq, Decidable.not_not, not_true_eq_false, not_false_eq_true, List.map_nil, List.map_cons, List.sum_nil, List.sum_cons, List.length_cons, List.length_nil, Nat.le_refl, Nat.zero_le, reduceCtorEq, true_or, or_true, false_or, or_false, false_and, and_false, false_implies, Nat.zero_add, Nat.add_zero, Int.reduceEq, Int.reduceNe, Int.reduceLT, Int.reduceLE, Int.reduceNeg, Int.reduceToNat, Nat.not_lt_zero, Int.reduceAdd, fxs F, l0, l1, e3, b01_0]
        refine ⟨fun c1 => ?_, fun c1 => ?_⟩
        · have hne : sF S d ≠ -1 := by
            unfold hasC at c1
            simpa using c1
          obtain ⟨f, l, y1, y2, y3, y4⟩ := w.cutp (c := d) (by omega) hne
          obtain ⟨z1, z2⟩ := G'.cf (c := d) (by omega) hne
          simp (disch := omega) only [w32_of]
          rw [z2]
          refine ⟨by omega, cM_placeOf F G' w ?_⟩
          simp only [wq_g3, wq_gc, wq_g, wq_g1, wq_g2, eM_laysCovers, iM_laysCovers_0, iM_laysCovers_2, iM_laysCovers_25, iM_laysCovers_27, iM_laysCovers_49, iM_laysCovers_79, iM_laysCovers_104, iM_laysCovers_110, iM_laysCovers_117, iM_laysCovers_166, iM_laysCovers_172, vM_laysCovers, wps, x_cnd, reduceIte, Nat.reduceAdd, Nat.reduceSub, Nat.reduceEqDiff, Nat.reduceLeDiff, Nat.lt_irrefl, Nat.reduceLT, Int.cast_ofNat_Int, wq_c0, wq_c1, true_and, and_true, and_self, true_implies, forall_const, ne_eq, Decidable.not_not, not_true_eq_false, not_false_eq_true, List.map_nil, List.map_cons, List.sum_nil, List.sum_cons, List.length_cons, List.length_nil, Nat.le_refl, Nat.zero_le, reduceCtorEq, true_or, or_true, false_or, or_false, false_and, and_false, false_implies, Nat.zero_add, Nat.add_zero, Int.reduceEq, Int.reduceNe, Int.reduceLT, Int.reduceLE, Int.reduceNeg, Int.reduceToNat, Nat.not_lt_zero, Int.reduceAdd, fxs F, l0, l1, e3]
          simp (disch := omega) only [w32_of]
          rw [z1]
          refine ⟨by omega, cM_placeOf F G' w ?_⟩
          simp only [wq_g3, wq_gc, wq_g, wq_g1, wq_g2, eM_laysCovers, iM_laysCovers_0, iM_laysCovers_2, iM_laysCovers_25, iM_laysCovers_27, iM_laysCovers_49, iM_laysCovers_79, iM_laysCovers_104, iM_laysCovers_110, iM_laysCovers_117, iM_laysCovers_166, iM_laysCovers_172, vM_laysCovers, wps, x_cnd, reduceIte, Nat.reduceAdd, Nat.reduceSub, Nat.reduceEqDiff, Nat.reduceLeDiff, Nat.lt_irrefl, Nat.reduceLT, Int.cast_ofNat_Int, wq_c0, wq_c1, true_and, and_true, and_self, true_implies, forall_const, ne_eq, Decidable.not_not, not_true_eq_false, not_false_eq_true, List.map_nil, List.map_cons, List.sum_nil, List.sum_cons, List.length_cons, List.length_nil, Nat.le_refl, Nat.zero_le, reduceCtorEq, true_or, or_true, false_or, or_false, false_and, and_false, false_implies, Nat.zero_add, Nat.add_zero, Int.reduceEq, Int.reduceNe, Int.reduceLT, Int.reduceLE, Int.reduceNeg, Int.reduceToNat, Nat.not_lt_zero, Int.reduceAdd, fxs F, l0, l1, e3]
          refine ⟨1000 * (10 - d) + (200 - f), by omega, fr, d, f, l, f, by omega, c1, y3, y4, y2, Nat.le_refl _, by omega, rfl, rfl, by rw [y4], by rw [y3], fun p hp => ?_⟩
          rw [q3 p hp, if_neg (by omega)]
          omega
        · rw [w32_of (by omega)]
          refine ⟨1000 * (10 - (d + 1)) + 700, by omega, fr, d + 1, by omega, rfl, congrArg (fun z => some (xI z)) (by omega), fun p hp => ?_⟩
          rw [q3 p hp]
          refine (cn_s0 ?_).symm
          show (hasC S d && _) = false
          simp only [bf_of Iff.rfl c1, Bool.false_and]
    · simp only [wq_g3, wq_gc, wq_g, wq_g1, wq_g2, eM_laysCovers, iM_laysCovers_0, iM_laysCovers_2, iM_laysCovers_25, iM_laysCovers_27, iM_laysCovers_49, iM_laysCovers_79, iM_laysCovers_104, iM_laysCovers_110, iM_laysCovers_117, iM_laysCovers_166, iM_laysCovers_172, vM_laysCovers, wps, x_cnd, reduceIte, Nat.reduceAdd, Nat.reduceSub, Nat.reduceEqDiff, Nat.reduceLeDiff, Nat.lt_irrefl, Nat.reduceLT, Int.cast_ofNat_Int, wq_c0, wq_c1, true_and, and_true, and_self, true_implies, forall_const, ne_eq, Decidable.not_not, not_true_eq_false, not_false_eq_true, List.map_nil, List.map_cons, List.sum_nil, List.sum_cons, List.length_cons, List.length_nil, Nat.le_refl, Nat.zero_le, reduceCtorEq, true_or, or_true, false_or, or_false, false_and, and_false, false_implies, Nat.zero_add, Nat.add_zero, Int.reduceEq, Int.reduceNe, Int.reduceLT, Int.reduceLE, Int.reduceNeg, Int.reduceToNat, Nat.not_lt_zero, Int.reduceAdd, fxs F, l0, l1, l2, l3]
      refine ⟨fun c0 => ?_, fun c0 => ⟨by omega, by omega, ?_⟩⟩
      · rw [w32_of (by omega)]
        refine ⟨1000 * (10 - (d + 1)) + 700, by omega, fr, d + 1, by omega, rfl, congrArg (fun z => some (xI z)) (by omega), fun p hp => ?_⟩
        have e5 : cvk S p (d + 1) = cvk S p d + if (hasC S d && (decide (pl S (sF S d) ≤ p) && decide ((p : Int) ≤ pl S (sL S d)))) = true then 1 else 0 := cn_s d
        rw [q3 p hp, e5, d2, d3, d4]
        by_cases hc : f ≤ p ∧ p < q
        · rw [if_pos hc, if_pos (by simp; omega)]
        · rw [if_neg hc, if_neg (by simp; omega)]
      · have hcv : 0 ≤ cvk S q d ∧ cvk S q d ≤ d := cn_rng
        have hq3 := q3 q (by omega)
        rw [if_neg (by omega)] at hq3
        rw [hq3]
        simp (disch := omega) only [w32_of]
        refine ⟨1000 * (10 - d) + (200 - (q + 1)), by omega, fun a j h1 h2 h3 h4 => (w_ne h1).trans (fr a j h1 h2 h3 h4), d, f, l, q + 1, d1, d2, d3, d4, d5, by omega, by omega, rfl, rfl, rfl, congrArg (fun z => some (xI z)) (by omega), fun p hp => ?_⟩
        by_cases hpq : p = q
        · subst hpq
          rw [w_eq, if_pos (by omega)]
          omega
        · rw [w_nj (by omega), q3 p hp]
          by_cases hc : f ≤ p ∧ p < q
          · rw [if_pos hc, if_pos (by omega)]
          · rw [if_neg hc, if_neg (by omega)]
    · have hq3 := fun hp : p < sN S => q3 p hp
      simp only [wq_g3, wq_gc, wq_g, wq_g1, wq_g2, eM_laysCovers, iM_laysCovers_0, iM_laysCovers_2, iM_laysCovers_25, iM_laysCovers_27, iM_laysCovers_49, iM_laysCovers_79, iM_laysCovers_104, iM_laysCovers_110, iM_laysCovers_117, iM_laysCovers_166, iM_laysCovers_172, vM_laysCovers, wps, x_cnd, reduceIte, Nat.reduceAdd, Nat.reduceSub, Nat.reduceEqDiff, Nat.reduceLeDiff, Nat.lt_irrefl, Nat.reduceLT, Int.cast_ofNat_Int, wq_c0, wq_c1, true_and, and_true, and_self, true_implies, forall_const, ne_eq, Decidable.not_not, not_true_eq_false, not_false_eq_true, List.map_nil, List.map_cons, List.sum_nil, List.sum_cons, List.length_cons, List.length_nil, Nat.le_refl, Nat.zero_le, reduceCtorEq, true_or, or_true, false_or, or_false, false_and, and_false, false_implies, Nat.zero_add, Nat.add_zero, Int.reduceEq, Int.reduceNe, Int.reduceLT, Int.reduceLE, Int.reduceNeg, Int.reduceToNat, Nat.not_lt_zero, Int.reduceAdd, fxs F, l0, l1, e2, q4]
      simp (disch := decide) only [w_ne, w_eq, w_nj]
      rw [q4]
      refine ⟨fun c0 => ?_, fun c0 => ⟨by omega, by omega, ?_⟩⟩
      · have hpn : p = sN S := by omega
        subst hpn
        exact k M' q3 q4 q5 q6 fr
      · have hp : p < sN S := by omega
        have hpb := pb_rng (S := S) (p := p)
        rw [q3 p hp]
        refine ⟨fun c1 => ?_, fun c1 => ⟨by omega, ?_⟩⟩
        · have hst : pb S (p + 1) = pb S p := cn_s0 (bf_of isP_iff c1)
          refine ⟨sN S - (p + 1), by omega, fun a j h1 h2 h3 h4 => (w_ne h3).trans (fr a j h1 h2 h3 h4), p + 1, by omega, rfl, by rw [w32_of (by omega)]; exact congrArg (fun z => some (xI z)) (by omega), q3, hst.symm, fun q hq => ?_, fun j hj => q6 j (by omega)⟩
          by_cases hqp : q = p
          · subst hqp
            exact w_eq
          · rw [w_nj (by omega)]
            exact q5 q (by omega)
        · have hpl := isP_iff.mpr c1
          have hst : pb S (p + 1) = pb S p + 1 := cn_s1 hpl
          refine ⟨sN S - (p + 1), by omega, fun a j h1 h2 h3 h4 => (if_neg h4).trans ((w_ne h2).trans ((w_ne h3).trans (fr a j h1 h2 h3 h4))), p + 1, by omega, rfl, by rw [w32_of (by omega)]; exact congrArg (fun z => some (xI z)) (by omega), q3, by rw [w32_of (by omega), hst], fun q hq => ?_, fun j hj => ?_⟩
          · by_cases hqp : q = p
            · subst hqp
              exact w_eq
            · rw [w_nj (by omega)]
              exact q5 q (by omega)
          · by_cases hjp : (j : Int) = pb S p
            · rw [hjp, w_eq, pp_at hp hpl]
            · rw [w_nj hjp, w_ne (by decide)]
              exact q6 j (by omega)
end LOOK
