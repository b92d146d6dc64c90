/-! the model looks at its score -/
section LOOK
variable {A : xAb} {M : xM} {h : xH} {Φ : xO → xM → xH → Prop} {S : xSr} {nid : Int}
set_option maxHeartbeats 1000000
theorem cM_laysLabels (F : Fx h) (G : SG S (M 42)) (w : wfS S nid) (k : ∀ M', (∀ p : Nat, p < sN S → M' 47 p = lab S p) → (∀ a j, a ≠ 47 → M' a j = M a j) → Φ (.inl none) M' h) : x_Cal zM_laysLabels [xA 41] M h Φ := by
  have hN := w.N
  have e0 := G.n
  refine x_metI kM_laysLabels (Nat.le_of_ble_eq_true rfl) (fun t m ls st M' h' c n2 => t = 6 ∧ st = [] ∧ h' = h ∧ c = 0 ∧ n2 = 0 ∧ ls 0 = some (xA 41) ∧ ∃ p : Nat, p ≤ sN S ∧ m = sN S - p ∧ ls 1 = some (xI (cn (isI (sX S)) p)) ∧ ls 2 = some (xI (sfx (sX S) p)) ∧ ls 3 = some (xI p) ∧ (∀ q : Nat, q < p → M' 47 q = lab S q) ∧ ∀ a j, a ≠ 47 → M' a j = M a j) 20 ?_ ?_
  · simp only [wq_g3, wq_gc, wq_g, wq_g1, wq_g2, eM_laysLabels, iM_laysLabels_0, iM_laysLabels_6, iM_laysLabels_32, iM_laysLabels_35, iM_laysLabels_47, iM_laysLabels_48, iM_laysLabels_68, vM_laysLabels, wps, x_cnd, reduceIte, Nat.reduceAdd, Nat.reduceSub, Nat.reduceEqDiff, Nat.reduceLeDiff, Nat.lt_irrefl, Nat.reduceLT, Int.cast_ofNat_Int, wq_c0, wq_c1, true_and, and_true, and_self, true_implies, forall_const, ne_eq, Decidable.not_not, not_true_eq_false, not_false_eq_true, List.map_nil, List.map_cons, List.sum_nil, List.sum_cons, List.length_cons, List.length_nil, Nat.le_refl, Nat.zero_le, reduceCtorEq, true_or, or_true, false_or, or_false, false_and, and_false, false_implies, Nat.zero_add, Nat.add_zero, Int.reduceEq, Int.reduceNe, Int.reduceLT, Int.reduceLE, Int.reduceNeg, Int.reduceToNat, Nat.not_lt_zero, Int.reduceAdd, fxs F]
    exact ⟨sN S, 0, by omega, by omega, rfl, rfl, by rw [Int.natCast_zero], fun q hq => by omega, fun _ _ => trivial⟩
  · rintro t m ls st M' h' c n2 ⟨rfl, rfl, rfl, rfl, rfl, l0, p, q1, q2, l1, l2, l3, q3, fr⟩
    have e42 : M' 42 = M 42 := funext (fun j => fr 42 j (by decide))
    have e1 : M' 42 0 = sN S := by rw [e42]; exact e0
    simp only [wq_g3, wq_gc, wq_g, wq_g1, wq_g2, eM_laysLabels, iM_laysLabels_0, iM_laysLabels_6, iM_laysLabels_32, iM_laysLabels_35, iM_laysLabels_47, iM_laysLabels_48, iM_laysLabels_68, vM_laysLabels, wps, x_cnd, reduceIte, Nat.reduceAdd, Nat.reduceSub, Nat.reduceEqDiff, Nat.reduceLeDiff, Nat.lt_irrefl, Nat.reduceLT, Int.cast_ofNat_Int, wq_c0, wq_c1, true_and, and_true, and_self, true_implies, forall_const, ne_eq, Decidable.not_not, not_true_eq_false, not_false_eq_true, List.map_nil, List.map_cons, List.sum_nil, List.sum_cons, List.length_cons, List.length_nil, Nat.le_refl, Nat.zero_le, reduceCtorEq, true_or, or_true, false_or, or_false, false_and, and_false, false_implies, Nat.zero_add, Nat.add_zero, Int.reduceEq, Int.reduceNe, Int.reduceLT, Int.reduceLE, Int.reduceNeg, Int.reduceToNat, Nat.not_lt_zero, Int.reduceAdd, fxs F, l0, l1, l2, l3, e1]
    refine ⟨fun c0 => k M' (fun q hq => q3 q (by omega)) fr, fun c0 => cM_isInserted F (S := S) (by rw [e42]; exact G) w (by omega) ?_⟩
    have hp : p < sN S := by omega
    have hx := w.x hp
    have h1 := cn_rng (P := isI (sX S)) (n := p)
    have h2 := sfx_rng (sX S) p
    have h3 := cn_s (P := isI (sX S)) p
    have h4 := sfx_s (sX S) p
    have go : ∀ u v : Int, u = cn (isI (sX S)) (p + 1) → v = sfx (sX S) (p + 1) → ∃ m2, m2 < m ∧ ∃ p_1 : Nat, p_1 ≤ sN S ∧ m2 = sN S - p_1 ∧ some (xI u) = some (xI (cn (isI (sX S)) p_1)) ∧ some (xI v) = some (xI (sfx (sX S) p_1)) ∧ some (xI ((p : Int) + 1)) = some (xI p_1) ∧ (∀ q : Nat, q < p_1 → x_w M' 47 p (1000 * u + v) 47 q = lab S q) ∧ ∀ (a : Nat) (j : Int), ¬ a = 47 → x_w M' 47 p (1000 * u + v) a j = M a j := fun u v hu hv => ⟨sN S - (p + 1), by omega, p + 1, by omega, rfl, by rw [hu], by rw [hv], congrArg (fun z => some (xI z)) (by omega), fun q hq => by
      by_cases hqp : q = p
      · subst hqp
        rw [w_eq, hu, hv]
        rfl
      · rw [w_nj (by omega)]
        exact q3 q (by omega), fun a j ha => (w_ne ha).trans (fr a j ha)⟩
    simp only [wq_g3, wq_gc, wq_g, wq_g1, wq_g2, eM_laysLabels, iM_laysLabels_0, iM_laysLabels_6, iM_laysLabels_32, iM_laysLabels_35, iM_laysLabels_47, iM_laysLabels_48, iM_laysLabels_68, vM_laysLabels, wps, x_cnd, reduceIte, Nat.reduceAdd, Nat.reduceSub, Nat.reduceEqDiff, Nat.reduceLeDiff, Nat.lt_irrefl, Nat.reduceLT, Int.cast_ofNat_Int, wq_c0, wq_c1, true_and, and_true, and_self, true_implies, forall_const, ne_eq, Decidable.not_not, not_true_eq_false, not_false_eq_true, List.map_nil, List.map_cons, List.sum_nil, List.sum_cons, List.length_cons, List.length_nil, Nat.le_refl, Nat.zero_le, reduceCtorEq, true_or, or_true, false_or, or_false, false_and, and_false, false_implies, Nat.zero_add, Nat.add_zero, Int.reduceEq, Int.reduceNe, Int.reduceLT, Int.reduceLE, Int.reduceNeg, Int.reduceToNat, Nat.not_lt_zero, Int.reduceAdd, fxs F, l0, l1, l2, l3, e1, b01_0]
    simp (disch := omega) only [w32_of]
    refine ⟨fun c1 => ⟨fun _ => ⟨by omega, ?_⟩, fun q => absurd q c1⟩, fun c1 => ⟨fun q => absurd c1 q, fun _ => ⟨by omega, ?_⟩⟩⟩
    · have hx0 : sX S p = 0 := by omega
      rw [if_pos (by unfold isI; rw [hx0]; rfl)] at h3
      rw [if_pos hx0] at h4
      exact go _ 0 h3.symm h4.symm
    · rw [if_neg (by unfold isI; rw [c1]; decide)] at h3
      rw [if_neg (by omega)] at h4
      exact go _ _ (by omega) h4.symm
theorem cM_laysCovers (F : Fx h) (G : SG S (M 42)) (w : wfS S nid) (k : ∀ M', (∀ p : Nat, p < sN S → M' 48 p = cov S p) → M' 41 26 = pN S → (∀ p : Nat, p < sN S → M' 52 p = pb S p) → (∀ j : Nat, (j : Int) < pN S → M' 51 j = pp S j) → (∀ a j, a ≠ 48 → a ≠ 51 → a ≠ 52 → ¬ (a = 41 ∧ j = 26) → M' a j = M a j) → Φ (.inl none) M' h) : x_Cal zM_laysCovers [xA 41] M h Φ := by
  have hN := w.N
  have e0 := G.n
  have e1 := G.cb
  refine x_metI kM_laysCovers (Nat.le_of_ble_eq_true rfl) (fun t m ls st M' h' c n2 => st = [] ∧ h' = h ∧ c = 0 ∧ n2 = 0 ∧ ls 0 = some (xA 41) ∧ (∀ a j, a ≠ 48 → a ≠ 51 → a ≠ 52 → ¬ (a = 41 ∧ j = 26) → M' a j = M a j) ∧
    ((t = 2 ∧ ∃ p : Nat, p ≤ sN S ∧ m = 100000 + (sN S - p) ∧ ls 1 = some (xI p) ∧ ∀ q : Nat, q < p → M' 48 q = 0) ∨
     (t = 27 ∧ ∃ d : Nat, d ≤ 10 ∧ m = 1000 * (10 - d) + 700 ∧ ls 1 = some (xI d) ∧ ∀ p : Nat, p < sN S → M' 48 p = cvk S p d) ∨
     (t = 79 ∧ ∃ d f l q : Nat, d < 10 ∧ hasC S d = true ∧ pl S (sF S d) = f ∧ pl S (sL S d) = l ∧ l < sN S ∧ f ≤ q ∧ q ≤ l + 1 ∧ m = 1000 * (10 - d) + (200 - q) ∧ ls 1 = some (xI d) ∧ ls 2 = some (xI l) ∧ ls 3 = some (xI q) ∧ ∀ p : Nat, p < sN S → M' 48 p = cvk S p d + (if f ≤ p ∧ p < q then 1 else 0)) ∨
     (t = 117 ∧ ∃ p : Nat, p ≤ sN S ∧ m = sN S - p ∧ ls 1 = some (xI p) ∧ (∀ p : Nat, p < sN S → M' 48 p = cov S p) ∧ M' 41 26 = pb S p ∧ (∀ q : Nat, q < p → M' 52 q = pb S q) ∧ (∀ j : Nat, (j : Int) < pb S p → M' 51 j = pp S j)))) 20 ?_ ?_
  · simp only [wq_g3, wq_gc, wq_g, wq_g1, wq_g2, eM_laysCovers, iM_laysCovers_0, iM_laysCovers_2, iM_laysCovers_25, iM_laysCovers_27, iM_laysCovers_49, iM_laysCovers_79, iM_laysCovers_104, iM_laysCovers_110, iM_laysCovers_117, iM_laysCovers_166, iM_laysCovers_172, vM_laysCovers, wps, x_cnd, reduceIte, Nat.reduceAdd, Nat.reduceSub, Nat.reduceEqDiff, Nat.reduceLeDiff, Nat.lt_irrefl, Nat.reduceLT, Int.cast_ofNat_Int, wq_c0, wq_c1, true_and, and_true, and_self, true_implies, forall_const, ne_eq, Decidable.not_not, not_true_eq_false, not_false_eq_true, List.map_nil, List.map_cons, List.sum_nil, List.sum_cons, List.length_cons, List.length_nil, Nat.le_refl, Nat.zero_le, reduceCtorEq, true_or, or_true, false_or, or_false, false_and, and_false, false_implies, Nat.zero_add, Nat.add_zero, Int.reduceEq, Int.reduceNe, Int.reduceLT, Int.reduceLE, Int.reduceNeg, Int.reduceToNat, Nat.not_lt_zero, Int.reduceAdd, fxs F]
    exact ⟨100000 + (sN S - 0), fun _ _ _ _ _ _ => trivial, 0, by omega, rfl, by rw [Int.natCast_zero], fun q hq => by omega⟩
  · rintro t m ls st M' h' c n2 ⟨rfl, rfl, rfl, rfl, l0, fr, hd⟩
    have e42 : M' 42 = M 42 := funext (fun j => fr 42 j (by decide) (by decide) (by decide) (by omega))
    have G' : SG S (M' 42) := by rw [e42]; exact G
    have e2 := G'.n
    have e3 := G'.cb
    rcases hd with ⟨rfl, p, q1, q2, l1, q3⟩ | ⟨rfl, d, d1, d2, l1, q3⟩ | ⟨rfl, d, f, l, q, d1, d2, d3, d4, d5, d6, d7, d8, l1, l2, l3, q3⟩ | ⟨rfl, p, q1, q2, l1, q3, q4, q5, q6⟩
    · simp only [wq_g3, wq_gc, wq_g, wq_g1, wq_g2, eM_laysCovers, iM_laysCovers_0, iM_laysCovers_2, iM_laysCovers_25, iM_laysCovers_27, iM_laysCovers_49, iM_laysCovers_79, iM_laysCovers_104, iM_laysCovers_110, iM_laysCovers_117, iM_laysCovers_166, iM_laysCovers_172, vM_laysCovers, wps, x_cnd, reduceIte, Nat.reduceAdd, Nat.reduceSub, Nat.reduceEqDiff, Nat.reduceLeDiff, Nat.lt_irrefl, Nat.reduceLT, Int.cast_ofNat_Int, wq_c0, wq_c1, true_and, and_true, and_self, true_implies, forall_const, ne_eq, Decidable.not_not, not_true_eq_false, not_false_eq_true, List.map_nil, List.map_cons, List.sum_nil, List.sum_cons, List.length_cons, List.length_nil, Nat.le_refl, Nat.zero_le, reduceCtorEq, true_or, or_true, false_or, or_false, false_and, and_false, false_implies, Nat.zero_add, Nat.add_zero, Int.reduceEq, Int.reduceNe, Int.reduceLT, Int.reduceLE, Int.reduceNeg, Int.reduceToNat, Nat.not_lt_zero, Int.reduceAdd, fxs F, l0, l1, e2]
      refine ⟨fun c0 => ⟨1000 * (10 - 0) + 700, by omega, fr, 0, by omega, rfl, by rw [Int.natCast_zero], fun q hq => q3 q (by omega)⟩, fun c0 => ⟨by omega, 100000 + (sN S - (p + 1)), by omega, fun a j h1 h2 h3 h4 => (w_ne h1).trans (fr a j h1 h2 h3 h4), p + 1, by omega, rfl, by rw [w32_of (by omega)]; exact congrArg (fun z => some (xI z)) (by omega), fun q hq => ?_⟩⟩
      by_cases hqp : q = p
      · subst hqp
        exact w_eq
      · rw [w_nj (by omega)]
        exact q3 q (by omega)
    · simp only [wq_g3, wq_gc, wq_g, wq_g1, wq_g2, eM_laysCovers, iM_laysCovers_0, iM_laysCovers_2, iM_laysCovers_25, iM_laysCovers_27, iM_laysCovers_49, iM_laysCovers_79, iM_laysCovers_104, iM_laysCovers_110, iM_laysCovers_117, iM_laysCovers_166, iM_laysCovers_172, vM_laysCovers, wps, x_cnd, reduceIte, Nat.reduceAdd, Nat.reduceSub, Nat.reduceEqDiff, Nat.reduceLeDiff, Nat.lt_irrefl, Nat.reduceLT, Int.cast_ofNat_Int, wq_c0, wq_c1, true_and, and_true, and_self, true_implies, forall_const, ne_eq, Decidable.not_not, not_true_eq_false, not_false_eq_true, List.map_nil, List.map_cons, List.sum_nil, List.sum_cons, List.length_cons, List.length_nil, Nat.le_refl, Nat.zero_le, reduceCtorEq, true_or, or_true, false_or, or_false, false_and, and_false, false_implies, Nat.zero_add, Nat.add_zero, Int.reduceEq, Int.reduceNe, Int.reduceLT, Int.reduceLE, Int.reduceNeg, Int.reduceToNat, Nat.not_lt_zero, Int.reduceAdd, fxs F, l0, l1, e3]
      refine ⟨fun c0 => ⟨sN S - 0, by omega, fun a j h1 h2 h3 h4 => (if_neg h4).trans (fr a j h1 h2 h3 h4), 0, by omega, rfl, by rw [Int.natCast_zero], fun q hq => ?_, w_eq, fun q hq => by omega, fun j hj => ?_⟩, fun c0 => cM_hasB (by decide) (by omega) ?_⟩
      · rw [w_ne (by decide), q3 q hq, show d = 10 by omega]
        rfl
      · have : pb S 0 = 0 := rfl
        omega
      · simp only [wq_g3, wq_gc, wq_g, wq_g1, wq_g2, eM_laysCovers, iM_laysCovers_0, iM_laysCovers_2, iM_laysCovers_25, iM_laysCovers_27, iM_laysCovers_49, iM_laysCovers_79, iM_laysCovers_104, iM_laysCovers_110, iM_laysCovers_117, iM_laysCovers_166, iM_laysCovers_172, vM_laysCovers, wps, x_cnd, reduceIte, Nat.reduceAdd, Nat.reduceSub, Nat.reduceEqDiff, Nat.reduceLeDiff, Nat.lt_irrefl, Nat.reduceLT, Int.cast_ofNat_Int, wq_c0, wq_c1, true_and, and_true, and_self, true_implies, forall_const, ne_eq, Decidable.not_not, not_true_eq_false, not_false_eq_true, List.map_nil, List.map_cons, List.sum_nil, List.sum_cons, List.length_cons, List.length_nil, Nat.le_refl, Nat.zero_le, reduceCtorEq, true_or, or_true, false_or, or_false, false_and, and_false, false_implies, Nat.zero_add, Nat.add_zero, Int.reduceEq, Int.reduceNe, Int.reduceLT, Int.reduceLE, Int.reduceNeg, Int.reduceToNat, Nat.not_lt_zero, Int.reduceAdd, fxs F, l0, l1, e3, b01_0]
        refine ⟨fun c1 => ?_, fun c1 => ?_⟩
        · have hne : sF S d ≠ -1 := by
            unfold hasC at c1
            simpa using c1
          obtain ⟨f, l, y1, y2, y3, y4⟩ := w.cutp (c := d) (by omega) hne
          obtain ⟨z1, z2⟩ := G'.cf (c := d) (by omega) hne
          simp (disch := omega) only [w32_of]
          rw [z2]
          refine ⟨by omega, cM_placeOf F G' w ?_⟩
          simp only [wq_g3, wq_gc, wq_g, wq_g1, wq_g2, eM_laysCovers, iM_laysCovers_0, iM_laysCovers_2, iM_laysCovers_25, iM_laysCovers_27, iM_laysCovers_49, iM_laysCovers_79, iM_laysCovers_104, iM_laysCovers_110, iM_laysCovers_117, iM_laysCovers_166, iM_laysCovers_172, vM_laysCovers, wps, x_cnd, reduceIte, Nat.reduceAdd, Nat.reduceSub, Nat.reduceEqDiff, Nat.reduceLeDiff, Nat.lt_irrefl, Nat.reduceLT, Int.cast_ofNat_Int, wq_c0, wq_c1, true_and, and_true, and_self, true_implies, forall_const, ne_eq, Decidable.not_not, not_true_eq_false, not_false_eq_true, List.map_nil, List.map_cons, List.sum_nil, List.sum_cons, List.length_cons, List.length_nil, Nat.le_refl, Nat.zero_le, reduceCtorEq, true_or, or_true, false_or, or_false, false_and, and_false, false_implies, Nat.zero_add, Nat.add_zero, Int.reduceEq, Int.reduceNe, Int.reduceLT, Int.reduceLE, Int.reduceNeg, Int.reduceToNat, Nat.not_lt_zero, Int.reduceAdd, fxs F, l0, l1, e3]
          simp (disch := omega) only [w32_of]
          rw [z1]
          refine ⟨by omega, cM_placeOf F G' w ?_⟩
          simp only [wq_g3, wq_gc, wq_g, wq_g1, wq_g2, eM_laysCovers, iM_laysCovers_0, iM_laysCovers_2, iM_laysCovers_25, iM_laysCovers_27, iM_laysCovers_49, iM_laysCovers_79, iM_laysCovers_104, iM_laysCovers_110, iM_laysCovers_117, iM_laysCovers_166, iM_laysCovers_172, vM_laysCovers, wps, x_cnd, reduceIte, Nat.reduceAdd, Nat.reduceSub, Nat.reduceEqDiff, Nat.reduceLeDiff, Nat.lt_irrefl, Nat.reduceLT, Int.cast_ofNat_Int, wq_c0, wq_c1, true_and, and_true, and_self, true_implies, forall_const, ne_eq, Decidable.not_not, not_true_eq_false, not_false_eq_true, List.map_nil, List.map_cons, List.sum_nil, List.sum_cons, List.length_cons, List.length_nil, Nat.le_refl, Nat.zero_le, reduceCtorEq, true_or, or_true, false_or, or_false, false_and, and_false, false_implies, Nat.zero_add, Nat.add_zero, Int.reduceEq, Int.reduceNe, Int.reduceLT, Int.reduceLE, Int.reduceNeg, Int.reduceToNat, Nat.not_lt_zero, Int.reduceAdd, fxs F, l0, l1, e3]
          refine ⟨1000 * (10 - d) + (200 - f), by omega, fr, d, f, l, f, by omega, c1, y3, y4, y2, Nat.le_refl _, by omega, rfl, rfl, by rw [y4], by rw [y3], fun p hp => ?_⟩
          rw [q3 p hp, if_neg (by omega)]
          omega
        · rw [w32_of (by omega)]
          refine ⟨1000 * (10 - (d + 1)) + 700, by omega, fr, d + 1, by omega, rfl, congrArg (fun z => some (xI z)) (by omega), fun p hp => ?_⟩
          rw [q3 p hp]
          refine (cn_s0 ?_).symm
          show (hasC S d && _) = false
          simp only [bf_of Iff.rfl c1, Bool.false_and]
    · simp only [wq_g3, wq_gc, wq_g, wq_g1, wq_g2, eM_laysCovers, iM_laysCovers_0, iM_laysCovers_2, iM_laysCovers_25, iM_laysCovers_27, iM_laysCovers_49, iM_laysCovers_79, iM_laysCovers_104, iM_laysCovers_110, iM_laysCovers_117, iM_laysCovers_166, iM_laysCovers_172, vM_laysCovers, wps, x_cnd, reduceIte, Nat.reduceAdd, Nat.reduceSub, Nat.reduceEqDiff, Nat.reduceLeDiff, Nat.lt_irrefl, Nat.reduceLT, Int.cast_ofNat_Int, wq_c0, wq_c1, true_and, and_true, and_self, true_implies, forall_const, ne_eq, Decidable.not_not, not_true_eq_false, not_false_eq_true, List.map_nil, List.map_cons, List.sum_nil, List.sum_cons, List.length_cons, List.length_nil, Nat.le_refl, Nat.zero_le, reduceCtorEq, true_or, or_true, false_or, or_false, false_and, and_false, false_implies, Nat.zero_add, Nat.add_zero, Int.reduceEq, Int.reduceNe, Int.reduceLT, Int.reduceLE, Int.reduceNeg, Int.reduceToNat, Nat.not_lt_zero, Int.reduceAdd, fxs F, l0, l1, l2, l3]
      refine ⟨fun c0 => ?_, fun c0 => ⟨by omega, by omega, ?_⟩⟩
      · rw [w32_of (by omega)]
        refine ⟨1000 * (10 - (d + 1)) + 700, by omega, fr, d + 1, by omega, rfl, congrArg (fun z => some (xI z)) (by omega), fun p hp => ?_⟩
        have e5 : cvk S p (d + 1) = cvk S p d + if (hasC S d && (decide (pl S (sF S d) ≤ p) && decide ((p : Int) ≤ pl S (sL S d)))) = true then 1 else 0 := cn_s d
        rw [q3 p hp, e5, d2, d3, d4]
        by_cases hc : f ≤ p ∧ p < q
        · rw [if_pos hc, if_pos (by simp; omega)]
        · rw [if_neg hc, if_neg (by simp; omega)]
      · have hcv : 0 ≤ cvk S q d ∧ cvk S q d ≤ d := cn_rng
        have hq3 := q3 q (by omega)
        rw [if_neg (by omega)] at hq3
        rw [hq3]
        simp (disch := omega) only [w32_of]
        refine ⟨1000 * (10 - d) + (200 - (q + 1)), by omega, fun a j h1 h2 h3 h4 => (w_ne h1).trans (fr a j h1 h2 h3 h4), d, f, l, q + 1, d1, d2, d3, d4, d5, by omega, by omega, rfl, rfl, rfl, congrArg (fun z => some (xI z)) (by omega), fun p hp => ?_⟩
        by_cases hpq : p = q
        · subst hpq
          rw [w_eq, if_pos (by omega)]
          omega
        · rw [w_nj (by omega), q3 p hp]
          by_cases hc : f ≤ p ∧ p < q
          · rw [if_pos hc, if_pos (by omega)]
          · rw [if_neg hc, if_neg (by omega)]
    · have hq3 := fun hp : p < sN S => q3 p hp
      simp only [wq_g3, wq_gc, wq_g, wq_g1, wq_g2, eM_laysCovers, iM_laysCovers_0, iM_laysCovers_2, iM_laysCovers_25, iM_laysCovers_27, iM_laysCovers_49, iM_laysCovers_79, iM_laysCovers_104, iM_laysCovers_110, iM_laysCovers_117, iM_laysCovers_166, iM_laysCovers_172, vM_laysCovers, wps, x_cnd, reduceIte, Nat.reduceAdd, Nat.reduceSub, Nat.reduceEqDiff, Nat.reduceLeDiff, Nat.lt_irrefl, Nat.reduceLT, Int.cast_ofNat_Int, wq_c0, wq_c1, true_and, and_true, and_self, true_implies, forall_const, ne_eq, Decidable.not_not, not_true_eq_false, not_false_eq_true, List.map_nil, List.map_cons, List.sum_nil, List.sum_cons, List.length_cons, List.length_nil, Nat.le_refl, Nat.zero_le, reduceCtorEq, true_or, or_true, false_or, or_false, false_and, and_false, false_implies, Nat.zero_add, Nat.add_zero, Int.reduceEq, Int.reduceNe, Int.reduceLT, Int.reduceLE, Int.reduceNeg, Int.reduceToNat, Nat.not_lt_zero, Int.reduceAdd, fxs F, l0, l1, e2, q4]
      simp (disch := decide) only [w_ne, w_eq, w_nj]
      rw [q4]
      refine ⟨fun c0 => ?_, fun c0 => ⟨by omega, by omega, ?_⟩⟩
      · have hpn : p = sN S := by omega
        subst hpn
        exact k M' q3 q4 q5 q6 fr
      · have hp : p < sN S := by omega
        have hpb := pb_rng (S := S) (p := p)
        rw [q3 p hp]
        refine ⟨fun c1 => ?_, fun c1 => ⟨by omega, ?_⟩⟩
        · have hst : pb S (p + 1) = pb S p := cn_s0 (bf_of isP_iff c1)
          refine ⟨sN S - (p + 1), by omega, fun a j h1 h2 h3 h4 => (w_ne h3).trans (fr a j h1 h2 h3 h4), p + 1, by omega, rfl, by rw [w32_of (by omega)]; exact congrArg (fun z => some (xI z)) (by omega), q3, hst.symm, fun q hq => ?_, fun j hj => q6 j (by omega)⟩
          by_cases hqp : q = p
          · subst hqp
            exact w_eq
          · rw [w_nj (by omega)]
            exact q5 q (by omega)
        · have hpl := isP_iff.mpr c1
          have hst : pb S (p + 1) = pb S p + 1 := cn_s1 hpl
          refine ⟨sN S - (p + 1), by omega, fun a j h1 h2 h3 h4 => (if_neg h4).trans ((w_ne h2).trans ((w_ne h3).trans (fr a j h1 h2 h3 h4))), p + 1, by omega, rfl, by rw [w32_of (by omega)]; exact congrArg (fun z => some (xI z)) (by omega), q3, by rw [w32_of (by omega), hst], fun q hq => ?_, fun j hj => ?_⟩
          · by_cases hqp : q = p
            · subst hqp
              exact w_eq
            · rw [w_nj (by omega)]
              exact q5 q (by omega)
          · by_cases hjp : (j : Int) = pb S p
            · rw [hjp, w_eq, pp_at hp hpl]
            · rw [w_nj hjp, w_ne (by decide)]
              exact q6 j (by omega)
theorem ltk_spec {p : Int} : ∀ n : Nat, (ltk S p n = 0 ∧ ∀ q : Nat, q < n → ¬ (sit S q ≠ 0 ∧ sh S q = p)) ∨ ∃ q : Nat, q < n ∧ sit S q ≠ 0 ∧ sh S q = p ∧ ltk S p n = sit S q ∧ ∀ r : Nat, r < n → sit S r ≠ 0 → sh S r = p → r ≤ q
  | 0 => Or.inl ⟨rfl, fun q hq => absurd hq (Nat.not_lt_zero q)⟩
  | n + 1 => by
    rw [ltk_s]
    by_cases hc : sit S n ≠ 0 ∧ sh S n = p
    · rw [if_pos hc]
      exact Or.inr ⟨n, by omega, hc.1, hc.2, rfl, fun r hr _ _ => by omega⟩
    · rw [if_neg hc]
      rcases ltk_spec (p := p) n with ⟨h1, h2⟩ | ⟨q, h1, h2, h3, h4, h5⟩
      · refine Or.inl ⟨h1, fun q hq => ?_⟩
        by_cases hqn : q = n
        · subst hqn
          exact hc
        · exact h2 q (by omega)
      · refine Or.inr ⟨q, by omega, h2, h3, h4, fun r hr h6 h7 => ?_⟩
        by_cases hrn : r = n
        · subst hrn
          exact absurd ⟨h6, h7⟩ hc
        · exact h5 r (by omega) h6 h7
/-- the letter that counts at p among the first k -/
def LAx (S : xSr) (p : Int) (k : Nat) (a : Int) : Prop := (a = 0 ∧ ∀ l : Nat, 1 ≤ l → l ≤ k → shl S l ≠ p) ∨ ∃ j : Nat, 1 ≤ j ∧ j ≤ k ∧ a = j ∧ shl S j = p ∧ ∀ l : Nat, 1 ≤ l → l ≤ k → shl S l = p → pl S (sM S l) ≤ pl S (sM S j)
theorem shl_at (w : wfS S nid) {l : Nat} (h1 : 1 ≤ l) (h2 : l ≤ 40) (h3 : sM S l ≠ -1) : ∃ q : Nat, q < sN S ∧ pl S (sM S l) = q ∧ sit S q = l ∧ shl S l = sh S q := by
  obtain ⟨q, q1, q2, q3⟩ := w.mkp h1 h2 h3
  refine ⟨q, q1, q3, (sit_iff w q1 h1 h2).mpr q2.symm, ?_⟩
  unfold shl
  rw [if_pos ⟨by omega, by omega, h3⟩, q3]
  rfl
theorem shl_no {l : Nat} (h3 : sM S l = -1) : shl S l = -1 := by
  unfold shl
  rw [if_neg (fun q => q.2.2 h3)]
theorem sit_shl (w : wfS S nid) {q : Nat} (hq : q < sN S) (h : sit S q ≠ 0) : ∃ l : Nat, 1 ≤ l ∧ l ≤ 40 ∧ sit S q = l ∧ sM S l = sI S q ∧ sM S l ≠ -1 ∧ pl S (sM S l) = q ∧ shl S l = sh S q := by
  have h1 := sit_rng (S := S) (p := q)
  obtain ⟨l, hl⟩ : ∃ l : Nat, sit S q = l := ⟨(sit S q).toNat, by omega⟩
  have h2 := (sit_iff w hq (l := l) (by omega) (by omega)).mp hl
  have h3 := w.id hq
  obtain ⟨r, r1, r2, r3, r4⟩ := shl_at w (l := l) (by omega) (by omega) (by omega)
  have h4 : pl S (sM S l) = q := by rw [h2]; exact pl_at w hq
  have hr : r = q := by omega
  subst hr
  exact ⟨l, by omega, by omega, hl, h2, by omega, h4, r4⟩
theorem LAx_lt (w : wfS S nid) {p : Nat} {a : Int} (L : LAx S p 40 a) : a = lt S p := by
  unfold lt
  rcases L with ⟨h1, h2⟩ | ⟨j, h1, h2, h3, h4, h5⟩
  · rcases ltk_spec (S := S) (p := p) (sN S) with ⟨g1, g2⟩ | ⟨q, g1, g2, g3, g4, g5⟩
    · omega
    · obtain ⟨l, l1, l2, l3, l4, l5, l6, l7⟩ := sit_shl w g1 g2
      exact absurd (l7.trans g3) (h2 l l1 l2)
  · have hne : sM S j ≠ -1 := fun q => by rw [shl_no q] at h4; omega
    obtain ⟨r, r1, r2, r3, r4⟩ := shl_at w h1 h2 hne
    rcases ltk_spec (S := S) (p := p) (sN S) with ⟨g1, g2⟩ | ⟨q, g1, g2, g3, g4, g5⟩
    · exact absurd ⟨by omega, by omega⟩ (g2 r r1)
    · obtain ⟨l, l1, l2, l3, l4, l5, l6, l7⟩ := sit_shl w g1 g2
      have := h5 l l1 l2 (l7.trans g3)
      have h6 := g5 r r1 (by omega) (by omega)
      have hrq : r = q := by omega
      subst hrq
      omega
theorem cM_isNearer (F : Fx h) (G : SG S (M 42)) (w : wfS S nid) {l j : Nat} (h1 : 1 ≤ l) (h2 : l ≤ 40) (h3 : j ≤ 40) (k : Φ (.inl (some (xI (b01 (j = 0 ∨ pl S (sM S j) < pl S (sM S l)))))) M h) : x_Cal zM_isNearer [xA 41, xI l, xI j] M h Φ := by
  refine x_met0 kM_isNearer (Nat.le_of_ble_eq_true rfl) ?_
  simp only [wq_g3, wq_gc, wq_g, wq_g1, wq_g2, eM_isNearer, iM_isNearer_0, iM_isNearer_35, iM_isNearer_39, iM_isNearer_40, vM_isNearer, wps, x_cnd, reduceIte, Nat.reduceAdd, Nat.reduceSub, Nat.reduceEqDiff, Nat.reduceLeDiff, Nat.lt_irrefl, Nat.reduceLT, Int.cast_ofNat_Int, wq_c0, wq_c1, true_and, and_true, and_self, true_implies, forall_const, ne_eq, Decidable.not_not, not_true_eq_false, not_false_eq_true, List.map_nil, List.map_cons, List.sum_nil, List.sum_cons, List.length_cons, List.length_nil, Nat.le_refl, Nat.zero_le, reduceCtorEq, true_or, or_true, false_or, or_false, false_and, and_false, false_implies, Nat.zero_add, Nat.add_zero, Int.reduceEq, Int.reduceNe, Int.reduceLT, Int.reduceLE, Int.reduceNeg, Int.reduceToNat, Nat.not_lt_zero, Int.reduceAdd, fxs F]
  simp (disch := omega) only [w32_of]
  refine ⟨fun c0 => kr k (b01_t (Or.inl (by omega))), fun c0 => ⟨by omega, ?_⟩⟩
  rw [G.mk h1 h2]
  refine cM_placeOf F G w ?_
  simp only [wq_g3, wq_gc, wq_g, wq_g1, wq_g2, eM_isNearer, iM_isNearer_0, iM_isNearer_35, iM_isNearer_39, iM_isNearer_40, vM_isNearer, wps, x_cnd, reduceIte, Nat.reduceAdd, Nat.reduceSub, Nat.reduceEqDiff, Nat.reduceLeDiff, Nat.lt_irrefl, Nat.reduceLT, Int.cast_ofNat_Int, wq_c0, wq_c1, true_and, and_true, and_self, true_implies, forall_const, ne_eq, Decidable.not_not, not_true_eq_false, not_false_eq_true, List.map_nil, List.map_cons, List.sum_nil, List.sum_cons, List.length_cons, List.length_nil, Nat.le_refl, Nat.zero_le, reduceCtorEq, true_or, or_true, false_or, or_false, false_and, and_false, false_implies, Nat.zero_add, Nat.add_zero, Int.reduceEq, Int.reduceNe, Int.reduceLT, Int.reduceLE, Int.reduceNeg, Int.reduceToNat, Nat.not_lt_zero, Int.reduceAdd, fxs F]
  simp (disch := omega) only [w32_of]
  rw [G.mk (by omega) h3]
  refine ⟨by omega, cM_placeOf F G w ?_⟩
  simp only [wq_g3, wq_gc, wq_g, wq_g1, wq_g2, eM_isNearer, iM_isNearer_0, iM_isNearer_35, iM_isNearer_39, iM_isNearer_40, vM_isNearer, wps, x_cnd, reduceIte, Nat.reduceAdd, Nat.reduceSub, Nat.reduceEqDiff, Nat.reduceLeDiff, Nat.lt_irrefl, Nat.reduceLT, Int.cast_ofNat_Int, wq_c0, wq_c1, true_and, and_true, and_self, true_implies, forall_const, ne_eq, Decidable.not_not, not_true_eq_false, not_false_eq_true, List.map_nil, List.map_cons, List.sum_nil, List.sum_cons, List.length_cons, List.length_nil, Nat.le_refl, Nat.zero_le, reduceCtorEq, true_or, or_true, false_or, or_false, false_and, and_false, false_implies, Nat.zero_add, Nat.add_zero, Int.reduceEq, Int.reduceNe, Int.reduceLT, Int.reduceLE, Int.reduceNeg, Int.reduceToNat, Nat.not_lt_zero, Int.reduceAdd, fxs F]
  exact ⟨fun c1 => kr k (b01_f (by omega)), fun c1 => kr k (b01_t (by omega))⟩
theorem LAx_r {p : Int} {n : Nat} {a : Int} (L : LAx S p n a) : 0 ≤ a ∧ a ≤ n := by
  rcases L with ⟨h1, h2⟩ | ⟨j, h1, h2, h3, h4, h5⟩ <;> omega
theorem LAx_skip {p : Int} {l : Nat} {a : Int} (L : LAx S p (l - 1) a) (h : shl S l ≠ p) : LAx S p l a := by
  rcases L with ⟨h1, h2⟩ | ⟨j, h1, h2, h3, h4, h5⟩
  · refine Or.inl ⟨h1, fun k k1 k2 => ?_⟩
    by_cases hk : k = l
    · rw [hk]; exact h
    · exact h2 k k1 (by omega)
  · refine Or.inr ⟨j, h1, by omega, h3, h4, fun k k1 k2 k3 => ?_⟩
    by_cases hk : k = l
    · rw [hk] at k3; exact absurd k3 h
    · exact h5 k k1 (by omega) k3
theorem LAx_new {p : Int} {l : Nat} {a : Int} (h0 : 1 ≤ l) (L : LAx S p (l - 1) a) (h : shl S l = p) (hc : a = 0 ∨ pl S (sM S a) < pl S (sM S l)) : LAx S p l l := by
  refine Or.inr ⟨l, h0, Nat.le_refl _, rfl, h, fun k k1 k2 k3 => ?_⟩
  by_cases hk : k = l
  · rw [hk]; omega
  · rcases L with ⟨h1, h2⟩ | ⟨j, h1, h2, h3, h4, h5⟩
    · exact absurd k3 (h2 k k1 (by omega))
    · have := h5 k k1 (by omega) k3
      rw [h3] at hc
      omega
theorem LAx_old {p : Int} {l : Nat} {a : Int} (L : LAx S p (l - 1) a) (hc : ¬ (a = 0 ∨ pl S (sM S a) < pl S (sM S l))) : LAx S p l a := by
  rcases L with ⟨h1, h2⟩ | ⟨j, h1, h2, h3, h4, h5⟩
  · exact absurd (Or.inl h1) hc
  · refine Or.inr ⟨j, h1, by omega, h3, h4, fun k k1 k2 k3 => ?_⟩
    by_cases hk : k = l
    · rw [hk, ← h3]; omega
    · exact h5 k k1 (by omega) k3
theorem cM_laysLetters (F : Fx h) (G : SG S (M 42)) (w : wfS S nid) (v1 : M 41 26 = pN S) (v2 : ∀ p : Nat, p < sN S → M 52 p = pb S p) (v3 : ∀ j : Nat, (j : Int) < pN S → M 51 j = pp S j) (k : ∀ M', (∀ p : Nat, p < sN S → M' 49 p = lt S p) → (∀ l : Nat, 1 ≤ l → l ≤ 40 → M' 50 l = shl S l) → (∀ a j, a ≠ 49 → a ≠ 50 → M' a j = M a j) → Φ (.inl none) M' h) : x_Cal zM_laysLetters [xA 41] M h Φ := by
  have hN := w.N
  have e0 := G.n
  refine x_metI kM_laysLetters (Nat.le_of_ble_eq_true rfl) (fun t m ls st M' h' c n2 => st = [] ∧ h' = h ∧ c = 0 ∧ n2 = 0 ∧ ls 0 = some (xA 41) ∧ (∀ a j, a ≠ 49 → a ≠ 50 → M' a j = M a j) ∧
    ((t = 2 ∧ ∃ p : Nat, p ≤ sN S ∧ m = 100 + (sN S - p) ∧ ls 1 = some (xI p) ∧ ∀ q : Nat, q < p → M' 49 q = 0) ∨
     (t = 27 ∧ ∃ l : Nat, 1 ≤ l ∧ l ≤ 41 ∧ m = 41 - l ∧ ls 1 = some (xI l) ∧ (∀ p : Nat, p < sN S → LAx S p (l - 1) (M' 49 p)) ∧ ∀ k : Nat, 1 ≤ k → k < l → M' 50 k = shl S k))) 20 ?_ ?_
  · simp only [wq_g3, wq_gc, wq_g, wq_g1, wq_g2, eM_laysLetters, iM_laysLetters_0, iM_laysLetters_2, iM_laysLetters_25, iM_laysLetters_27, iM_laysLetters_57, iM_laysLetters_99, iM_laysLetters_100, iM_laysLetters_142, iM_laysLetters_148, vM_laysLetters, wps, x_cnd, reduceIte, Nat.reduceAdd, Nat.reduceSub, Nat.reduceEqDiff, Nat.reduceLeDiff, Nat.lt_irrefl, Nat.reduceLT, Int.cast_ofNat_Int, wq_c0, wq_c1, true_and, and_true, and_self, true_implies, forall_const, ne_eq, Decidable.not_not, not_true_eq_false, not_false_eq_true, List.map_nil, List.map_cons, List.sum_nil, List.sum_cons, List.length_cons, List.length_nil, Nat.le_refl, Nat.zero_le, reduceCtorEq, true_or, or_true, false_or, or_false, false_and, and_false, false_implies, Nat.zero_add, Nat.add_zero, Int.reduceEq, Int.reduceNe, Int.reduceLT, Int.reduceLE, Int.reduceNeg, Int.reduceToNat, Nat.not_lt_zero, Int.reduceAdd, fxs F]
    exact ⟨100 + (sN S - 0), fun _ _ _ => trivial, 0, by omega, rfl, by rw [Int.natCast_zero], fun q hq => by omega⟩
  · rintro t m ls st M' h' c n2 ⟨rfl, rfl, rfl, rfl, l0, fr, hd⟩
    have e42 : M' 42 = M 42 := funext (fun j => fr 42 j (by decide) (by decide))
    have G' : SG S (M' 42) := by rw [e42]; exact G
    have e2 := G'.n
    have u1 : M' 41 26 = pN S := (fr 41 26 (by decide) (by decide)).trans v1
    have u2 : ∀ p : Nat, p < sN S → M' 52 p = pb S p := fun p hp => (fr 52 p (by decide) (by decide)).trans (v2 p hp)
    have u3 : ∀ j : Nat, (j : Int) < pN S → M' 51 j = pp S j := fun j hj => (fr 51 j (by decide) (by decide)).trans (v3 j hj)
    rcases hd with ⟨rfl, p, q1, q2, l1, q3⟩ | ⟨rfl, l, q0, q1, q2, l1, q3, q4⟩
    · simp only [wq_g3, wq_gc, wq_g, wq_g1, wq_g2, eM_laysLetters, iM_laysLetters_0, iM_laysLetters_2, iM_laysLetters_25, iM_laysLetters_27, iM_laysLetters_57, iM_laysLetters_99, iM_laysLetters_100, iM_laysLetters_142, iM_laysLetters_148, vM_laysLetters, wps, x_cnd, reduceIte, Nat.reduceAdd, Nat.reduceSub, Nat.reduceEqDiff, Nat.reduceLeDiff, Nat.lt_irrefl, Nat.reduceLT, Int.cast_ofNat_Int, wq_c0, wq_c1, true_and, and_true, and_self, true_implies, forall_const, ne_eq, Decidable.not_not, not_true_eq_false, not_false_eq_true, List.map_nil, List.map_cons, List.sum_nil, List.sum_cons, List.length_cons, List.length_nil, Nat.le_refl, Nat.zero_le, reduceCtorEq, true_or, or_true, false_or, or_false, false_and, and_false, false_implies, Nat.zero_add, Nat.add_zero, Int.reduceEq, Int.reduceNe, Int.reduceLT, Int.reduceLE, Int.reduceNeg, Int.reduceToNat, Nat.not_lt_zero, Int.reduceAdd, fxs F, l0, l1, e2]
      refine ⟨fun c0 => ⟨41 - 1, by omega, fr, 1, by omega, by omega, rfl, rfl, fun q hq => Or.inl ⟨q3 q (by omega), fun l h1 h2 => by omega⟩, fun l h1 h2 => by omega⟩, fun c0 => ⟨by omega, 100 + (sN S - (p + 1)), by omega, fun a j h1 h2 => (w_ne h1).trans (fr a j h1 h2), p + 1, by omega, rfl, by rw [w32_of (by omega)]; exact congrArg (fun z => some (xI z)) (by omega), fun q hq => ?_⟩⟩
      by_cases hqp : q = p
      · subst hqp
        exact w_eq
      · rw [w_nj (by omega)]
        exact q3 q (by omega)
    · simp only [wq_g3, wq_gc, wq_g, wq_g1, wq_g2, eM_laysLetters, iM_laysLetters_0, iM_laysLetters_2, iM_laysLetters_25, iM_laysLetters_27, iM_laysLetters_57, iM_laysLetters_99, iM_laysLetters_100, iM_laysLetters_142, iM_laysLetters_148, vM_laysLetters, wps, x_cnd, reduceIte, Nat.reduceAdd, Nat.reduceSub, Nat.reduceEqDiff, Nat.reduceLeDiff, Nat.lt_irrefl, Nat.reduceLT, Int.cast_ofNat_Int, wq_c0, wq_c1, true_and, and_true, and_self, true_implies, forall_const, ne_eq, Decidable.not_not, not_true_eq_false, not_false_eq_true, List.map_nil, List.map_cons, List.sum_nil, List.sum_cons, List.length_cons, List.length_nil, Nat.le_refl, Nat.zero_le, reduceCtorEq, true_or, or_true, false_or, or_false, false_and, and_false, false_implies, Nat.zero_add, Nat.add_zero, Int.reduceEq, Int.reduceNe, Int.reduceLT, Int.reduceLE, Int.reduceNeg, Int.reduceToNat, Nat.not_lt_zero, Int.reduceAdd, fxs F, l0, l1]
      simp (disch := decide) only [w_ne, w_eq, w_nj]
      simp (disch := omega) only [w32_of]
      refine ⟨fun c0 => ?_, fun c0 => ⟨by omega, by omega, ?_⟩⟩
      · have hl : l = 41 := by omega
        subst hl
        exact k M' (fun p hp => LAx_lt w (q3 p hp)) (fun l h1 h2 => q4 l h1 (by omega)) fr
      · have hl1 : l ≤ 40 := by omega
        rw [G'.mk q0 hl1]
        refine ⟨fun c1 => ⟨by omega, ?_⟩, fun c1 => ⟨41 - (l + 1), by omega, fun a j h1 h2 => (w_ne h2).trans (fr a j h1 h2), l + 1, by omega, by omega, rfl, congrArg (fun z => some (xI z)) (by omega), fun p hp => (LAx_skip (q3 p hp) (by rw [shl_no c1]; omega) : LAx S p l _), fun k h1 h2 => ?_⟩⟩
        · obtain ⟨r, r1, r2, r3, r4⟩ := shl_at w q0 hl1 c1
          have hpb := pb_rng (S := S) (p := r)
          have G2 : SG S ((x_w M' 50 l (-1)) 42) := G'
          refine cM_placeOf F G2 w ?_
          rw [r2]
          simp only [wq_g3, wq_gc, wq_g, wq_g1, wq_g2, eM_laysLetters, iM_laysLetters_0, iM_laysLetters_2, iM_laysLetters_25, iM_laysLetters_27, iM_laysLetters_57, iM_laysLetters_99, iM_laysLetters_100, iM_laysLetters_142, iM_laysLetters_148, vM_laysLetters, wps, x_cnd, reduceIte, Nat.reduceAdd, Nat.reduceSub, Nat.reduceEqDiff, Nat.reduceLeDiff, Nat.lt_irrefl, Nat.reduceLT, Int.cast_ofNat_Int, wq_c0, wq_c1, true_and, and_true, and_self, true_implies, forall_const, ne_eq, Decidable.not_not, not_true_eq_false, not_false_eq_true, List.map_nil, List.map_cons, List.sum_nil, List.sum_cons, List.length_cons, List.length_nil, Nat.le_refl, Nat.zero_le, reduceCtorEq, true_or, or_true, false_or, or_false, false_and, and_false, false_implies, Nat.zero_add, Nat.add_zero, Int.reduceEq, Int.reduceNe, Int.reduceLT, Int.reduceLE, Int.reduceNeg, Int.reduceToNat, Nat.not_lt_zero, Int.reduceAdd, fxs F, l0, l1]
          simp (disch := decide) only [w_ne, w_eq, w_nj]
          rw [u1, u2 r r1]
          have hwr : ∀ v : Int, v = shl S l → ∀ k : Nat, 1 ≤ k → k < l + 1 → x_w (x_w M' 50 l (-1)) 50 l v 50 k = shl S k := fun v hv k k1 k2 => by
            by_cases hk : k = l
            · subst hk
              rw [w_eq, hv]
            · rw [w_nj (by omega), w_nj (by omega)]
              exact q4 k k1 (by omega)
          have hfr : ∀ v : Int, ∀ (a : Nat) (j : Int), ¬ a = 49 → ¬ a = 50 → x_w (x_w M' 50 l (-1)) 50 l v a j = M a j := fun v a j h1 h2 => (w_ne h2).trans ((w_ne h2).trans (fr a j h1 h2))
          refine ⟨by omega, fun c2 => ⟨by omega, by omega, fun _ => ?_, fun q => absurd trivial q⟩, fun c2 => ?_⟩
          · have hsh : shl S l = -1 := by rw [r4]; exact if_neg (by omega)
            exact ⟨41 - (l + 1), by omega, hfr _, l + 1, by omega, by omega, rfl, by rw [w32_of (by omega)]; exact congrArg (fun z => some (xI z)) (by omega), fun p hp => (LAx_skip (q3 p hp) (by rw [hsh]; omega) : LAx S p l _), hwr _ hsh.symm⟩
          · obtain ⟨i, hi⟩ : ∃ i : Nat, pb S r = i := ⟨(pb S r).toNat, by omega⟩
            obtain ⟨z, z1, z2, z3, z4⟩ := pp_some (S := S) (k := pb S r) hpb.1 (by omega)
            have hsh : shl S l = z := by rw [r4]; exact (if_pos (by omega)).trans z4
            have e51 : M' 51 (pb S r) = z := by rw [hi, u3 i (by omega), ← hi, z4]
            rw [e51]
            obtain ⟨j, hj⟩ : ∃ j : Nat, M' 49 z = j := ⟨(M' 49 z).toNat, by have := LAx_r (q3 z z1); omega⟩
            have hLr := LAx_r (q3 z z1)
            refine ⟨by omega, by omega, by omega, fun q => by omega, fun _ => ⟨by omega, by omega, ?_⟩⟩
            rw [hj]
            have G3 : SG S ((x_w (x_w M' 50 l (-1)) 50 l z) 42) := G'
            refine cM_isNearer F G3 w q0 hl1 (by omega) ?_
            simp only [wq_g3, wq_gc, wq_g, wq_g1, wq_g2, eM_laysLetters, iM_laysLetters_0, iM_laysLetters_2, iM_laysLetters_25, iM_laysLetters_27, iM_laysLetters_57, iM_laysLetters_99, iM_laysLetters_100, iM_laysLetters_142, iM_laysLetters_148, vM_laysLetters, wps, x_cnd, reduceIte, Nat.reduceAdd, Nat.reduceSub, Nat.reduceEqDiff, Nat.reduceLeDiff, Nat.lt_irrefl, Nat.reduceLT, Int.cast_ofNat_Int, wq_c0, wq_c1, true_and, and_true, and_self, true_implies, forall_const, ne_eq, Decidable.not_not, not_true_eq_false, not_false_eq_true, List.map_nil, List.map_cons, List.sum_nil, List.sum_cons, List.length_cons, List.length_nil, Nat.le_refl, Nat.zero_le, reduceCtorEq, true_or, or_true, false_or, or_false, false_and, and_false, false_implies, Nat.zero_add, Nat.add_zero, Int.reduceEq, Int.reduceNe, Int.reduceLT, Int.reduceLE, Int.reduceNeg, Int.reduceToNat, Nat.not_lt_zero, Int.reduceAdd, fxs F, l0, l1, b01_0]
            simp (disch := decide) only [w_ne, w_eq, w_nj]
            simp (disch := omega) only [w32_of]
            refine ⟨fun c3 => ⟨41 - (l + 1), by omega, hfr _, l + 1, by omega, by omega, rfl, congrArg (fun z => some (xI z)) (by omega), fun p hp => ?_, hwr _ hsh.symm⟩, fun c3 => ⟨by omega, by omega, 41 - (l + 1), by omega, ?_, l + 1, by omega, by omega, rfl, congrArg (fun z => some (xI z)) (by omega), fun p hp => ?_, ?_⟩⟩
            · show LAx S p l _
              by_cases hpz : p = z
              · subst hpz
                refine LAx_old (q3 p hp) ?_
                rw [hj]
                intro hc
                exact c3 (hc.imp (fun q => by omega) id)
              · exact LAx_skip (q3 p hp) (by omega)
            · exact fun a j h1 h2 => (w_ne h1).trans (hfr _ a j h1 h2)
            · show LAx S p l _
              by_cases hpz : p = z
              · subst hpz
                rw [w_eq]
                refine LAx_new q0 (q3 p hp) hsh ?_
                rw [hj]
                exact c3.imp (fun q => by omega) id
              · rw [w_nj (by omega), w_ne (by decide), w_ne (by decide)]
                exact LAx_skip (q3 p hp) (by omega)
            · exact hwr _ hsh.symm
        · by_cases hk : k = l
          · subst hk
            rw [w_eq, shl_no c1]
          · rw [w_nj (by omega)]
            exact q4 k h1 (by omega)
/-- what looks lays -/
def LK (S : xSr) (M : xM) : Prop := (∀ p : Nat, p < sN S → M 47 p = lab S p ∧ M 48 p = cov S p ∧ M 52 p = pb S p ∧ M 49 p = lt S p) ∧ M 41 26 = pN S ∧ (∀ j : Nat, (j : Int) < pN S → M 51 j = pp S j) ∧ ∀ l : Nat, 1 ≤ l → l ≤ 40 → M 50 l = shl S l
theorem LK.lab {M : xM} (L : LK S M) {p : Nat} (hp : p < sN S) : M 47 p = lab S p := (L.1 p hp).1
theorem LK.cov {M : xM} (L : LK S M) {p : Nat} (hp : p < sN S) : M 48 p = cov S p := (L.1 p hp).2.1
theorem LK.pb {M : xM} (L : LK S M) {p : Nat} (hp : p < sN S) : M 52 p = pb S p := (L.1 p hp).2.2.1
theorem LK.lt {M : xM} (L : LK S M) {p : Nat} (hp : p < sN S) : M 49 p = lt S p := (L.1 p hp).2.2.2
theorem LK.n {M : xM} (L : LK S M) : M 41 26 = pN S := L.2.1
theorem LK.pp {M : xM} (L : LK S M) {j : Nat} (hj : (j : Int) < pN S) : M 51 j = pp S j := L.2.2.1 j hj
theorem LK.sh {M : xM} (L : LK S M) {l : Nat} (h1 : 1 ≤ l) (h2 : l ≤ 40) : M 50 l = shl S l := L.2.2.2 l h1 h2
theorem LK.frame {M M' : xM} (L : LK S M) (f : ∀ a j, 47 ≤ a → a ≤ 52 → M' a j = M a j) (g : M' 41 26 = M 41 26) : LK S M' := by
  refine ⟨fun p hp => ?_, g.trans L.n, fun j hj => ?_, fun l h1 h2 => ?_⟩
  · rw [f 47 p (by decide) (by decide), f 48 p (by decide) (by decide), f 52 p (by decide) (by decide), f 49 p (by decide) (by decide)]
    exact L.1 p hp
  · rw [f 51 j (by decide) (by decide)]
    exact L.pp hj
  · rw [f 50 l (by decide) (by decide)]
    exact L.sh h1 h2
theorem cM_looks (F : Fx h) (G : SG S (M 42)) (w : wfS S nid) (k : ∀ M', LK S M' → (∀ a j, ¬ (47 ≤ a ∧ a ≤ 52) → ¬ (a = 41 ∧ j = 26) → M' a j = M a j) → Φ (.inl none) M' h) : x_Cal zM_looks [xA 41] M h Φ := by
  refine x_met0 kM_looks (Nat.le_of_ble_eq_true rfl) ?_
  simp only [wq_g3, wq_gc, wq_g, wq_g1, wq_g2, eM_looks, iM_looks_0, vM_looks, wps, x_cnd, reduceIte, Nat.reduceAdd, Nat.reduceSub, Nat.reduceEqDiff, Nat.reduceLeDiff, Nat.lt_irrefl, Nat.reduceLT, Int.cast_ofNat_Int, wq_c0, wq_c1, true_and, and_true, and_self, true_implies, forall_const, ne_eq, Decidable.not_not, not_true_eq_false, not_false_eq_true, List.map_nil, List.map_cons, List.sum_nil, List.sum_cons, List.length_cons, List.length_nil, Nat.le_refl, Nat.zero_le, reduceCtorEq, true_or, or_true, false_or, or_false, false_and, and_false, false_implies, Nat.zero_add, Nat.add_zero, Int.reduceEq, Int.reduceNe, Int.reduceLT, Int.reduceLE, Int.reduceNeg, Int.reduceToNat, Nat.not_lt_zero, Int.reduceAdd, fxs F]
  refine cM_laysLabels F G w (fun M1 a1 f1 => ?_)
  simp only [wq_g3, wq_gc, wq_g, wq_g1, wq_g2, eM_looks, iM_looks_0, vM_looks, wps, x_cnd, reduceIte, Nat.reduceAdd, Nat.reduceSub, Nat.reduceEqDiff, Nat.reduceLeDiff, Nat.lt_irrefl, Nat.reduceLT, Int.cast_ofNat_Int, wq_c0, wq_c1, true_and, and_true, and_self, true_implies, forall_const, ne_eq, Decidable.not_not, not_true_eq_false, not_false_eq_true, List.map_nil, List.map_cons, List.sum_nil, List.sum_cons, List.length_cons, List.length_nil, Nat.le_refl, Nat.zero_le, reduceCtorEq, true_or, or_true, false_or, or_false, false_and, and_false, false_implies, Nat.zero_add, Nat.add_zero, Int.reduceEq, Int.reduceNe, Int.reduceLT, Int.reduceLE, Int.reduceNeg, Int.reduceToNat, Nat.not_lt_zero, Int.reduceAdd, fxs F]
  have e1 : M1 42 = M 42 := funext (fun j => f1 42 j (by decide))
  have G1 : SG S (M1 42) := by rw [e1]; exact G
  refine cM_laysCovers F G1 w (fun M2 a2 b2 c2 d2 f2 => ?_)
  simp only [wq_g3, wq_gc, wq_g, wq_g1, wq_g2, eM_looks, iM_looks_0, vM_looks, wps, x_cnd, reduceIte, Nat.reduceAdd, Nat.reduceSub, Nat.reduceEqDiff, Nat.reduceLeDiff, Nat.lt_irrefl, Nat.reduceLT, Int.cast_ofNat_Int, wq_c0, wq_c1, true_and, and_true, and_self, true_implies, forall_const, ne_eq, Decidable.not_not, not_true_eq_false, not_false_eq_true, List.map_nil, List.map_cons, List.sum_nil, List.sum_cons, List.length_cons, List.length_nil, Nat.le_refl, Nat.zero_le, reduceCtorEq, true_or, or_true, false_or, or_false, false_and, and_false, false_implies, Nat.zero_add, Nat.add_zero, Int.reduceEq, Int.reduceNe, Int.reduceLT, Int.reduceLE, Int.reduceNeg, Int.reduceToNat, Nat.not_lt_zero, Int.reduceAdd, fxs F]
  have e2 : M2 42 = M1 42 := funext (fun j => f2 42 j (by decide) (by decide) (by decide) (by omega))
  have G2 : SG S (M2 42) := by rw [e2]; exact G1
  refine cM_laysLetters F G2 w b2 c2 d2 (fun M3 a3 b3 f3 => ?_)
  simp only [wq_g3, wq_gc, wq_g, wq_g1, wq_g2, eM_looks, iM_looks_0, vM_looks, wps, x_cnd, reduceIte, Nat.reduceAdd, Nat.reduceSub, Nat.reduceEqDiff, Nat.reduceLeDiff, Nat.lt_irrefl, Nat.reduceLT, Int.cast_ofNat_Int, wq_c0, wq_c1, true_and, and_true, and_self, true_implies, forall_const, ne_eq, Decidable.not_not, not_true_eq_false, not_false_eq_true, List.map_nil, List.map_cons, List.sum_nil, List.sum_cons, List.length_cons, List.length_nil, Nat.le_refl, Nat.zero_le, reduceCtorEq, true_or, or_true, false_or, or_false, false_and, and_false, false_implies, Nat.zero_add, Nat.add_zero, Int.reduceEq, Int.reduceNe, Int.reduceLT, Int.reduceLE, Int.reduceNeg, Int.reduceToNat, Nat.not_lt_zero, Int.reduceAdd, fxs F]
  refine k M3 ⟨fun p hp => ⟨?_, ?_, ?_, a3 p hp⟩, ?_, fun j hj => ?_, b3⟩ (fun a j h1 h2 => ?_)
  · rw [f3 47 p (by decide) (by decide), f2 47 p (by decide) (by decide) (by decide) (by omega)]
    exact a1 p hp
  · rw [f3 48 p (by decide) (by decide)]
    exact a2 p hp
  · rw [f3 52 p (by decide) (by decide)]
    exact c2 p hp
  · rw [f3 41 26 (by decide) (by decide)]
    exact b2
  · rw [f3 51 j (by decide) (by decide)]
    exact d2 j hj
  · rw [f3 a j (by omega) (by omega), f2 a j (by omega) (by omega) (by omega) h2, f1 a j (by omega)]
theorem cM_isPlayed (F : Fx h) (L : LK S M) {p : Nat} (h150 : p < 150) (hp : p < sN S) (k : Φ (.inl (some (xI (b01 (cov S p = 0))))) M h) : x_Cal zM_isPlayed [xA 41, xI p] M h Φ := by
  have e := L.cov hp
  refine x_met0 kM_isPlayed (Nat.le_of_ble_eq_true rfl) ?_
  simp only [wq_g3, wq_gc, wq_g, wq_g1, wq_g2, eM_isPlayed, iM_isPlayed_0, iM_isPlayed_13, iM_isPlayed_14, vM_isPlayed, wps, x_cnd, reduceIte, Nat.reduceAdd, Nat.reduceSub, Nat.reduceEqDiff, Nat.reduceLeDiff, Nat.lt_irrefl, Nat.reduceLT, Int.cast_ofNat_Int, wq_c0, wq_c1, true_and, and_true, and_self, true_implies, forall_const, ne_eq, Decidable.not_not, not_true_eq_false, not_false_eq_true, List.map_nil, List.map_cons, List.sum_nil, List.sum_cons, List.length_cons, List.length_nil, Nat.le_refl, Nat.zero_le, reduceCtorEq, true_or, or_true, false_or, or_false, false_and, and_false, false_implies, Nat.zero_add, Nat.add_zero, Int.reduceEq, Int.reduceNe, Int.reduceLT, Int.reduceLE, Int.reduceNeg, Int.reduceToNat, Nat.not_lt_zero, Int.reduceAdd, fxs F, e]
  exact ⟨by omega, fun c0 => kr k (b01_f c0), fun c0 => kr k (b01_t c0)⟩
/-- looks, over the whole state -/
theorem cM_look (W : MW A M h) (k : ∀ M', MW A M' h → LK (aS A) M' → (∀ a j, ¬ (47 ≤ a ∧ a ≤ 52) → ¬ (a = 41 ∧ j = 26) → M' a j = M a j) → Φ (.inl none) M' h) : x_Cal zM_looks [xA 41] M h Φ :=
  cM_looks W.F W.G W.w (fun M' L f => k M' (W.frame (fun a j ha => f a j (by omega) (by omega)) (fun j hj => f 41 j (by omega) (by omega))) L f)
end LOOK
