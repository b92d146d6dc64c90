/-! the model's changes: bars come and go -/
section MINS
variable {A : xAb} {M M' : xM} {h : xH} {Φ : xO → xM → xH → Prop} {S : xSr} {nid : Int}
set_option maxHeartbeats 1000000
theorem SG.bars {f f' : Int → Int} {S' : xSr} (G : SG S f) (s2 : sP S' = sP S) (s4 : sM S' = sM S) (s5 : sF S' = sF S) (s6 : sL S' = sL S) (s7 : sQ S' = sQ S) (s8 : sR S' = sR S) (h0 : f' 0 = sN S') (hw : ∀ q : Nat, q < sN S' → f' (4 + q) = sI S' q ∧ f' (154 + q) = pkw S' q) (hf : ∀ k : Int, k ≠ 0 → ¬ (4 ≤ k ∧ k < 304) → f' k = f k) : SG S' f' := by
  obtain ⟨⟨a1, a2, a3, a4⟩, b, c, d, n⟩ := G
  have hh : hasC S' = hasC S := by unfold hasC; rw [s5]
  unfold SG
  rw [s2, s4, s5, s6, s7, s8, hh]
  refine ⟨⟨h0, (hf 1 (by omega) (by omega)).trans a2, (hf 2 (by omega) (by omega)).trans a3, (hf 3 (by omega) (by omega)).trans a4⟩, hw, fun c' hc hne => ⟨(hf _ (by omega) (by omega)).trans (c c' hc hne).1, (hf _ (by omega) (by omega)).trans (c c' hc hne).2⟩, fun l h1 h2 => (hf _ (by omega) (by omega)).trans (d l h1 h2), fun part h6 hq => ?_⟩
  obtain ⟨K, k1, k2, k3, k4⟩ := n part h6 hq
  refine ⟨K, k1, (hf _ (by omega) (by omega)).trans k2, fun k hk => ?_, fun id hid => ?_⟩
  · rw [hf _ (by omega) (by omega), hf _ (by omega) (by omega)]
    exact k3 k hk
  · obtain ⟨k, hk, hk2⟩ := k4 id hid
    exact ⟨k, hk, (hf _ (by omega) (by omega)).trans hk2⟩
theorem cM_isEndOfCut (F : Fx h) (G : SG S (M 42)) {x : Int} (k : Φ (.inl (some (xI (b01 (cn (endC S x) 10 ≠ 0))))) M h) : x_Cal zM_isEndOfCut [xA 41, xI x] M h Φ := by
  have e1 := G.cb
  refine x_metI kM_isEndOfCut (Nat.le_of_ble_eq_true rfl) (fun t m ls st M' h' c n2 => t = 2 ∧ st = [] ∧ h' = h ∧ M' = M ∧ c = 0 ∧ n2 = 0 ∧ ls 0 = some (xA 41) ∧ ls 1 = some (xI x) ∧ ∃ p : Nat, p ≤ 10 ∧ m = 10 - p ∧ ls 2 = some (xI p) ∧ ∀ q : Nat, q < p → endC S x q = false) 20 ?_ ?_
  · simp only [wq_g3, wq_gc, wq_g, wq_g1, wq_g2, eM_isEndOfCut, iM_isEndOfCut_0, iM_isEndOfCut_2, iM_isEndOfCut_49, iM_isEndOfCut_51, iM_isEndOfCut_57, vM_isEndOfCut, wps, x_cnd, reduceIte, Nat.reduceAdd, Nat.reduceSub, Nat.reduceEqDiff, Nat.reduceLeDiff, Nat.lt_irrefl, Nat.reduceLT, Int.cast_ofNat_Int, wq_c0, wq_c1, true_and, and_true, and_self, true_implies, forall_const, ne_eq, Decidable.not_not, not_true_eq_false, not_false_eq_true, List.map_nil, List.map_cons, List.sum_nil, List.sum_cons, List.length_cons, List.length_nil, Nat.le_refl, Nat.zero_le, reduceCtorEq, true_or, or_true, false_or, or_false, false_and, and_false, false_implies, Nat.zero_add, Nat.add_zero, Int.reduceEq, Int.reduceNe, Int.reduceLT, Int.reduceLE, Int.reduceNeg, Int.reduceToNat, Nat.not_lt_zero, Int.reduceAdd, fxs F]
    exact ⟨10 - 0, 0, by omega, rfl, by rw [Int.natCast_zero], fun q hq => by omega⟩
  · rintro t m ls st M1 h' c n2 ⟨rfl, rfl, rfl, rfl, rfl, rfl, l0, l1, p, q1, q2, l2, q3⟩
    simp only [wq_g3, wq_gc, wq_g, wq_g1, wq_g2, eM_isEndOfCut, iM_isEndOfCut_0, iM_isEndOfCut_2, iM_isEndOfCut_49, iM_isEndOfCut_51, iM_isEndOfCut_57, vM_isEndOfCut, wps, x_cnd, reduceIte, Nat.reduceAdd, Nat.reduceSub, Nat.reduceEqDiff, Nat.reduceLeDiff, Nat.lt_irrefl, Nat.reduceLT, Int.cast_ofNat_Int, wq_c0, wq_c1, true_and, and_true, and_self, true_implies, forall_const, ne_eq, Decidable.not_not, not_true_eq_false, not_false_eq_true, List.map_nil, List.map_cons, List.sum_nil, List.sum_cons, List.length_cons, List.length_nil, Nat.le_refl, Nat.zero_le, reduceCtorEq, true_or, or_true, false_or, or_false, false_and, and_false, false_implies, Nat.zero_add, Nat.add_zero, Int.reduceEq, Int.reduceNe, Int.reduceLT, Int.reduceLE, Int.reduceNeg, Int.reduceToNat, Nat.not_lt_zero, Int.reduceAdd, fxs F, l0, l1, l2, e1]
    refine ⟨fun c0 => kr k (b01_f (fun q => q ?_)), fun c0 => cM_hasB (by decide) (by omega) ?_⟩
    · have : ∀ q : Nat, q < 10 → endC S x q = (fun _ => false) (q : Int) := fun q hq => q3 q (by omega)
      rw [cn_congr (Q := fun _ => false) this, cn_nof]
    · simp only [wq_g3, wq_gc, wq_g, wq_g1, wq_g2, eM_isEndOfCut, iM_isEndOfCut_0, iM_isEndOfCut_2, iM_isEndOfCut_49, iM_isEndOfCut_51, iM_isEndOfCut_57, vM_isEndOfCut, wps, x_cnd, reduceIte, Nat.reduceAdd, Nat.reduceSub, Nat.reduceEqDiff, Nat.reduceLeDiff, Nat.lt_irrefl, Nat.reduceLT, Int.cast_ofNat_Int, wq_c0, wq_c1, true_and, and_true, and_self, true_implies, forall_const, ne_eq, Decidable.not_not, not_true_eq_false, not_false_eq_true, List.map_nil, List.map_cons, List.sum_nil, List.sum_cons, List.length_cons, List.length_nil, Nat.le_refl, Nat.zero_le, reduceCtorEq, true_or, or_true, false_or, or_false, false_and, and_false, false_implies, Nat.zero_add, Nat.add_zero, Int.reduceEq, Int.reduceNe, Int.reduceLT, Int.reduceLE, Int.reduceNeg, Int.reduceToNat, Nat.not_lt_zero, Int.reduceAdd, fxs F, l0, l1, l2, e1, b01_0]
      have hb : hasC S p = true ↔ sF S p ≠ -1 := by unfold hasC; exact bne_iff_ne
      have he : endC S x p = true ↔ (sF S p ≠ -1 ∧ (sF S p = x ∨ sL S p = x)) := by
        unfold endC
        simp
      have go : endC S x p = false → ∃ m2, m2 < m ∧ ∃ p_1 : Nat, p_1 ≤ 10 ∧ m2 = 10 - p_1 ∧ some (xI ((p : Int) + 1)) = some (xI p_1) ∧ ∀ q : Nat, q < p_1 → endC S x q = false := fun hf => ⟨10 - (p + 1), by omega, p + 1, by omega, rfl, congrArg (fun z => some (xI z)) (by omega), fun q hq => by
        by_cases hqp : q = p
        · subst hqp
          exact hf
        · exact q3 q (by omega)⟩
      have yes : endC S x p = true → Φ (.inl (some (xI 1))) M1 h' := fun ht => kr k (b01_t (fun q => by
        have := cn_none q p (by omega)
        rw [this] at ht
        exact absurd ht (by decide)))
      simp (disch := omega) only [w32_of]
      refine ⟨fun c1 => go (bf_of he (fun q => c1 (hb.mpr q.1))), fun c1 => ?_⟩
      obtain ⟨z1, z2⟩ := G.cf (c := p) (by omega) (hb.mp c1)
      rw [z1, z2]
      exact ⟨by omega, fun c2 => yes (he.mpr ⟨hb.mp c1, Or.inl c2⟩), fun c2 => ⟨by omega, fun c3 => go (bf_of he (fun q => q.2.elim c2 c3)), fun c3 => yes (he.mpr ⟨hb.mp c1, Or.inr c3⟩)⟩⟩
theorem cM_wrongErase (W : MW A M h) {b : Int} (k : Φ (.inl (some (xI (if pl (aS A) b = -1 then 1 else if sX (aS A) (pl (aS A) b) = 0 ∨ sit (aS A) (pl (aS A) b) ≠ 0 ∨ cn (endC (aS A) b) 10 ≠ 0 then 2 else 0)))) M h) : x_Cal zM_wrongErase [xA 41, xI b] M h Φ := by
  have F := W.F
  refine x_met0 kM_wrongErase (Nat.le_of_ble_eq_true rfl) ?_
  simp only [wq_g3, wq_gc, wq_g, wq_g1, wq_g2, eM_wrongErase, iM_wrongErase_0, iM_wrongErase_10, iM_wrongErase_38, iM_wrongErase_42, iM_wrongErase_43, vM_wrongErase, wps, x_cnd, reduceIte, Nat.reduceAdd, Nat.reduceSub, Nat.reduceEqDiff, Nat.reduceLeDiff, Nat.lt_irrefl, Nat.reduceLT, Int.cast_ofNat_Int, wq_c0, wq_c1, true_and, and_true, and_self, true_implies, forall_const, ne_eq, Decidable.not_not, not_true_eq_false, not_false_eq_true, List.map_nil, List.map_cons, List.sum_nil, List.sum_cons, List.length_cons, List.length_nil, Nat.le_refl, Nat.zero_le, reduceCtorEq, true_or, or_true, false_or, or_false, false_and, and_false, false_implies, Nat.zero_add, Nat.add_zero, Int.reduceEq, Int.reduceNe, Int.reduceLT, Int.reduceLE, Int.reduceNeg, Int.reduceToNat, Nat.not_lt_zero, Int.reduceAdd, fxs F]
  refine cM_isBar F W.G W.w ?_
  simp only [wq_g3, wq_gc, wq_g, wq_g1, wq_g2, eM_wrongErase, iM_wrongErase_0, iM_wrongErase_10, iM_wrongErase_38, iM_wrongErase_42, iM_wrongErase_43, vM_wrongErase, wps, x_cnd, reduceIte, Nat.reduceAdd, Nat.reduceSub, Nat.reduceEqDiff, Nat.reduceLeDiff, Nat.lt_irrefl, Nat.reduceLT, Int.cast_ofNat_Int, wq_c0, wq_c1, true_and, and_true, and_self, true_implies, forall_const, ne_eq, Decidable.not_not, not_true_eq_false, not_false_eq_true, List.map_nil, List.map_cons, List.sum_nil, List.sum_cons, List.length_cons, List.length_nil, Nat.le_refl, Nat.zero_le, reduceCtorEq, true_or, or_true, false_or, or_false, false_and, and_false, false_implies, Nat.zero_add, Nat.add_zero, Int.reduceEq, Int.reduceNe, Int.reduceLT, Int.reduceLE, Int.reduceNeg, Int.reduceToNat, Nat.not_lt_zero, Int.reduceAdd, fxs F, b01_0]
  refine ⟨fun c0 => cM_placeOf F W.G W.w ?_, fun c0 => by rw [if_pos c0] at k; exact k⟩
  rw [if_neg c0] at k
  obtain ⟨p, p1, p2, p3⟩ := pl_some c0
  have hx := W.w.x p1
  have hs := sit_rng (S := aS A) (p := p)
  rw [p2] at k ⊢
  simp only [wq_g3, wq_gc, wq_g, wq_g1, wq_g2, eM_wrongErase, iM_wrongErase_0, iM_wrongErase_10, iM_wrongErase_38, iM_wrongErase_42, iM_wrongErase_43, vM_wrongErase, wps, x_cnd, reduceIte, Nat.reduceAdd, Nat.reduceSub, Nat.reduceEqDiff, Nat.reduceLeDiff, Nat.lt_irrefl, Nat.reduceLT, Int.cast_ofNat_Int, wq_c0, wq_c1, true_and, and_true, and_self, true_implies, forall_const, ne_eq, Decidable.not_not, not_true_eq_false, not_false_eq_true, List.map_nil, List.map_cons, List.sum_nil, List.sum_cons, List.length_cons, List.length_nil, Nat.le_refl, Nat.zero_le, reduceCtorEq, true_or, or_true, false_or, or_false, false_and, and_false, false_implies, Nat.zero_add, Nat.add_zero, Int.reduceEq, Int.reduceNe, Int.reduceLT, Int.reduceLE, Int.reduceNeg, Int.reduceToNat, Nat.not_lt_zero, Int.reduceAdd, fxs F]
  refine cM_isInserted F W.G W.w p1 ?_
  simp only [wq_g3, wq_gc, wq_g, wq_g1, wq_g2, eM_wrongErase, iM_wrongErase_0, iM_wrongErase_10, iM_wrongErase_38, iM_wrongErase_42, iM_wrongErase_43, vM_wrongErase, wps, x_cnd, reduceIte, Nat.reduceAdd, Nat.reduceSub, Nat.reduceEqDiff, Nat.reduceLeDiff, Nat.lt_irrefl, Nat.reduceLT, Int.cast_ofNat_Int, wq_c0, wq_c1, true_and, and_true, and_self, true_implies, forall_const, ne_eq, Decidable.not_not, not_true_eq_false, not_false_eq_true, List.map_nil, List.map_cons, List.sum_nil, List.sum_cons, List.length_cons, List.length_nil, Nat.le_refl, Nat.zero_le, reduceCtorEq, true_or, or_true, false_or, or_false, false_and, and_false, false_implies, Nat.zero_add, Nat.add_zero, Int.reduceEq, Int.reduceNe, Int.reduceLT, Int.reduceLE, Int.reduceNeg, Int.reduceToNat, Nat.not_lt_zero, Int.reduceAdd, fxs F, b01_0]
  refine ⟨fun c1 => kr k (if_pos (Or.inl (by omega))), fun c1 => cM_letterOn F W.G ?_⟩
  rw [← p3, lOn_sit W.w p1, p3]
  simp only [wq_g3, wq_gc, wq_g, wq_g1, wq_g2, eM_wrongErase, iM_wrongErase_0, iM_wrongErase_10, iM_wrongErase_38, iM_wrongErase_42, iM_wrongErase_43, vM_wrongErase, wps, x_cnd, reduceIte, Nat.reduceAdd, Nat.reduceSub, Nat.reduceEqDiff, Nat.reduceLeDiff, Nat.lt_irrefl, Nat.reduceLT, Int.cast_ofNat_Int, wq_c0, wq_c1, true_and, and_true, and_self, true_implies, forall_const, ne_eq, Decidable.not_not, not_true_eq_false, not_false_eq_true, List.map_nil, List.map_cons, List.sum_nil, List.sum_cons, List.length_cons, List.length_nil, Nat.le_refl, Nat.zero_le, reduceCtorEq, true_or, or_true, false_or, or_false, false_and, and_false, false_implies, Nat.zero_add, Nat.add_zero, Int.reduceEq, Int.reduceNe, Int.reduceLT, Int.reduceLE, Int.reduceNeg, Int.reduceToNat, Nat.not_lt_zero, Int.reduceAdd, fxs F, b01_0]
  refine ⟨fun c2 => kr k (if_pos (Or.inr (Or.inl (by omega)))), fun c2 => cM_isEndOfCut F W.G ?_⟩
  simp only [wq_g3, wq_gc, wq_g, wq_g1, wq_g2, eM_wrongErase, iM_wrongErase_0, iM_wrongErase_10, iM_wrongErase_38, iM_wrongErase_42, iM_wrongErase_43, vM_wrongErase, wps, x_cnd, reduceIte, Nat.reduceAdd, Nat.reduceSub, Nat.reduceEqDiff, Nat.reduceLeDiff, Nat.lt_irrefl, Nat.reduceLT, Int.cast_ofNat_Int, wq_c0, wq_c1, true_and, and_true, and_self, true_implies, forall_const, ne_eq, Decidable.not_not, not_true_eq_false, not_false_eq_true, List.map_nil, List.map_cons, List.sum_nil, List.sum_cons, List.length_cons, List.length_nil, Nat.le_refl, Nat.zero_le, reduceCtorEq, true_or, or_true, false_or, or_false, false_and, and_false, false_implies, Nat.zero_add, Nat.add_zero, Int.reduceEq, Int.reduceNe, Int.reduceLT, Int.reduceLE, Int.reduceNeg, Int.reduceToNat, Nat.not_lt_zero, Int.reduceAdd, fxs F, b01_0]
  exact ⟨fun c3 => kr k (if_neg (by rintro (q | q | q); omega; omega; exact q c3)), fun c3 => kr k (if_pos (Or.inr (Or.inr c3)))⟩
theorem pkw_del {t p : Nat} : pkw (delS S t) p = if p < t then pkw S p else pkw S (p + 1 : Nat) := by
  by_cases hp : p < t
  · rw [if_pos hp]
    show dl t (sB S) p + 16 * dl t (sX S) p + 32 * dl t (sT S) p + 64 * dl t (sD S) p + 256 * dl t (sC S 0) p + 1024 * dl t (sC S 1) p + 4096 * dl t (sC S 2) p + 16384 * dl t (sC S 3) p + 65536 * dl t (sC S 4) p + 262144 * dl t (sC S 5) p = _
    simp only [dl_1 hp]
    rfl
  · rw [if_neg hp]
    show dl t (sB S) p + 16 * dl t (sX S) p + 32 * dl t (sT S) p + 64 * dl t (sD S) p + 256 * dl t (sC S 0) p + 1024 * dl t (sC S 1) p + 4096 * dl t (sC S 2) p + 16384 * dl t (sC S 3) p + 65536 * dl t (sC S 4) p + 262144 * dl t (sC S 5) p = _
    simp only [dl_2 (show t ≤ p by omega)]
    rfl
theorem cM_erase (W : MW A M h) {b : Int} (k : ∀ u M', MW (dEr A b).2 M' h → FM M M' → MA (xk [2, 0]) (dEr A b).1 u M' → Φ (.inl (some (xI u))) M' h) : x_Cal zM_erase [xA 41, xI b] M h Φ := by
  have F := W.F
  have hN := W.w.N
  unfold dEr at k
  refine x_metI kM_erase (Nat.le_of_ble_eq_true rfl) (fun t m ls st M' h' c2 n2 => t = 40 ∧ st = [] ∧ h' = h ∧ c2 = 0 ∧ n2 = 0 ∧ ls 0 = some (xA 41) ∧ MP (aKeep A (aS A) (aI A)) M' h ∧ FM M M' ∧ M' 41 0 = 0 ∧ pl (aS A) b ≠ -1 ∧ ¬ (sX (aS A) (pl (aS A) b) = 0 ∨ sit (aS A) (pl (aS A) b) ≠ 0 ∨ cn (endC (aS A) b) 10 ≠ 0) ∧ ∃ u p : Nat, pl (aS A) b = u ∧ u < sN (aS A) ∧ u ≤ p ∧ p + 1 ≤ sN (aS A) ∧ m = sN (aS A) - p ∧ ls 3 = some (xI p) ∧ M' 42 0 = ((sN (aS A) - 1 : Nat) : Int) ∧ (∀ q : Nat, q < sN (aS A) → M' 42 (4 + q) = (if u ≤ q ∧ q < p then sI (aS A) (q + 1 : Nat) else sI (aS A) q) ∧ M' 42 (154 + q) = if u ≤ q ∧ q < p then pkw (aS A) (q + 1 : Nat) else pkw (aS A) q) ∧ ∀ j : Int, j ≠ 0 → ¬ (4 ≤ j ∧ j < 304) → M' 42 j = M 42 j) 20 ?_ ?_
  · simp only [wq_g3, wq_gc, wq_g, wq_g1, wq_g2, eM_erase, iM_erase_0, iM_erase_14, iM_erase_40, iM_erase_96, vM_erase, wps, x_cnd, reduceIte, Nat.reduceAdd, Nat.reduceSub, Nat.reduceEqDiff, Nat.reduceLeDiff, Nat.lt_irrefl, Nat.reduceLT, Int.cast_ofNat_Int, wq_c0, wq_c1, true_and, and_true, and_self, true_implies, forall_const, ne_eq, Decidable.not_not, not_true_eq_false, not_false_eq_true, List.map_nil, List.map_cons, List.sum_nil, List.sum_cons, List.length_cons, List.length_nil, Nat.le_refl, Nat.zero_le, reduceCtorEq, true_or, or_true, false_or, or_false, false_and, and_false, false_implies, Nat.zero_add, Nat.add_zero, Int.reduceEq, Int.reduceNe, Int.reduceLT, Int.reduceLE, Int.reduceNeg, Int.reduceToNat, Nat.not_lt_zero, Int.reduceAdd, fxs F]
    refine cM_wrongErase W ?_
    simp only [wq_g3, wq_gc, wq_g, wq_g1, wq_g2, eM_erase, iM_erase_0, iM_erase_14, iM_erase_40, iM_erase_96, vM_erase, wps, x_cnd, reduceIte, Nat.reduceAdd, Nat.reduceSub, Nat.reduceEqDiff, Nat.reduceLeDiff, Nat.lt_irrefl, Nat.reduceLT, Int.cast_ofNat_Int, wq_c0, wq_c1, true_and, and_true, and_self, true_implies, forall_const, ne_eq, Decidable.not_not, not_true_eq_false, not_false_eq_true, List.map_nil, List.map_cons, List.sum_nil, List.sum_cons, List.length_cons, List.length_nil, Nat.le_refl, Nat.zero_le, reduceCtorEq, true_or, or_true, false_or, or_false, false_and, and_false, false_implies, Nat.zero_add, Nat.add_zero, Int.reduceEq, Int.reduceNe, Int.reduceLT, Int.reduceLE, Int.reduceNeg, Int.reduceToNat, Nat.not_lt_zero, Int.reduceAdd, fxs F]
    by_cases c0 : pl (aS A) b = -1
    · rw [if_pos c0]
      rw [if_pos c0] at k
      refine cM_ref1 F (by decide) ?_
      simp only [wq_g3, wq_gc, wq_g, wq_g1, wq_g2, eM_erase, iM_erase_0, iM_erase_14, iM_erase_40, iM_erase_96, vM_erase, wps, x_cnd, reduceIte, Nat.reduceAdd, Nat.reduceSub, Nat.reduceEqDiff, Nat.reduceLeDiff, Nat.lt_irrefl, Nat.reduceLT, Int.cast_ofNat_Int, wq_c0, wq_c1, true_and, and_true, and_self, true_implies, forall_const, ne_eq, Decidable.not_not, not_true_eq_false, not_false_eq_true, List.map_nil, List.map_cons, List.sum_nil, List.sum_cons, List.length_cons, List.length_nil, Nat.le_refl, Nat.zero_le, reduceCtorEq, true_or, or_true, false_or, or_false, false_and, and_false, false_implies, Nat.zero_add, Nat.add_zero, Int.reduceEq, Int.reduceNe, Int.reduceLT, Int.reduceLE, Int.reduceNeg, Int.reduceToNat, Nat.not_lt_zero, Int.reduceAdd, fxs F]
      exact k _ _ W.thr (FM.r.w (by decide)) (ma_e w_eq rfl rfl)
    · rw [if_neg c0] at k ⊢
      by_cases c1 : sX (aS A) (pl (aS A) b) = 0 ∨ sit (aS A) (pl (aS A) b) ≠ 0 ∨ cn (endC (aS A) b) 10 ≠ 0
      · rw [if_pos c1] at k ⊢
        refine cM_ref1 F (by decide) ?_
        simp only [wq_g3, wq_gc, wq_g, wq_g1, wq_g2, eM_erase, iM_erase_0, iM_erase_14, iM_erase_40, iM_erase_96, vM_erase, wps, x_cnd, reduceIte, Nat.reduceAdd, Nat.reduceSub, Nat.reduceEqDiff, Nat.reduceLeDiff, Nat.lt_irrefl, Nat.reduceLT, Int.cast_ofNat_Int, wq_c0, wq_c1, true_and, and_true, and_self, true_implies, forall_const, ne_eq, Decidable.not_not, not_true_eq_false, not_false_eq_true, List.map_nil, List.map_cons, List.sum_nil, List.sum_cons, List.length_cons, List.length_nil, Nat.le_refl, Nat.zero_le, reduceCtorEq, true_or, or_true, false_or, or_false, false_and, and_false, false_implies, Nat.zero_add, Nat.add_zero, Int.reduceEq, Int.reduceNe, Int.reduceLT, Int.reduceLE, Int.reduceNeg, Int.reduceToNat, Nat.not_lt_zero, Int.reduceAdd, fxs F]
        exact k _ _ W.thr (FM.r.w (by decide)) (ma_e w_eq rfl rfl)
      · rw [if_neg c1]
        refine cM_ref0 F ?_
        simp only [wq_g3, wq_gc, wq_g, wq_g1, wq_g2, eM_erase, iM_erase_0, iM_erase_14, iM_erase_40, iM_erase_96, vM_erase, wps, x_cnd, reduceIte, Nat.reduceAdd, Nat.reduceSub, Nat.reduceEqDiff, Nat.reduceLeDiff, Nat.lt_irrefl, Nat.reduceLT, Int.cast_ofNat_Int, wq_c0, wq_c1, true_and, and_true, and_self, true_implies, forall_const, ne_eq, Decidable.not_not, not_true_eq_false, not_false_eq_true, List.map_nil, List.map_cons, List.sum_nil, List.sum_cons, List.length_cons, List.length_nil, Nat.le_refl, Nat.zero_le, reduceCtorEq, true_or, or_true, false_or, or_false, false_and, and_false, false_implies, Nat.zero_add, Nat.add_zero, Int.reduceEq, Int.reduceNe, Int.reduceLT, Int.reduceLE, Int.reduceNeg, Int.reduceToNat, Nat.not_lt_zero, Int.reduceAdd, fxs F]
        obtain ⟨u, u1, u2, u3⟩ := pl_some c0
        refine cM_remembers W.thr (fun M2 P2 f2 => ?_)
        have e42 : M2 42 = M 42 := funext (fun j => (f2 42 j (by decide) (by omega)).trans (w_ne (by decide)))
        have G2 : SG (aS A) (M2 42) := by rw [e42]; exact W.G
        have e0 := G2.n
        simp only [wq_g3, wq_gc, wq_g, wq_g1, wq_g2, eM_erase, iM_erase_0, iM_erase_14, iM_erase_40, iM_erase_96, vM_erase, wps, x_cnd, reduceIte, Nat.reduceAdd, Nat.reduceSub, Nat.reduceEqDiff, Nat.reduceLeDiff, Nat.lt_irrefl, Nat.reduceLT, Int.cast_ofNat_Int, wq_c0, wq_c1, true_and, and_true, and_self, true_implies, forall_const, ne_eq, Decidable.not_not, not_true_eq_false, not_false_eq_true, List.map_nil, List.map_cons, List.sum_nil, List.sum_cons, List.length_cons, List.length_nil, Nat.le_refl, Nat.zero_le, reduceCtorEq, true_or, or_true, false_or, or_false, false_and, and_false, false_implies, Nat.zero_add, Nat.add_zero, Int.reduceEq, Int.reduceNe, Int.reduceLT, Int.reduceLE, Int.reduceNeg, Int.reduceToNat, Nat.not_lt_zero, Int.reduceAdd, fxs F]
        refine cM_placeOf F G2 W.w ?_
        simp only [wq_g3, wq_gc, wq_g, wq_g1, wq_g2, eM_erase, iM_erase_0, iM_erase_14, iM_erase_40, iM_erase_96, vM_erase, wps, x_cnd, reduceIte, Nat.reduceAdd, Nat.reduceSub, Nat.reduceEqDiff, Nat.reduceLeDiff, Nat.lt_irrefl, Nat.reduceLT, Int.cast_ofNat_Int, wq_c0, wq_c1, true_and, and_true, and_self, true_implies, forall_const, ne_eq, Decidable.not_not, not_true_eq_false, not_false_eq_true, List.map_nil, List.map_cons, List.sum_nil, List.sum_cons, List.length_cons, List.length_nil, Nat.le_refl, Nat.zero_le, reduceCtorEq, true_or, or_true, false_or, or_false, false_and, and_false, false_implies, Nat.zero_add, Nat.add_zero, Int.reduceEq, Int.reduceNe, Int.reduceLT, Int.reduceLE, Int.reduceNeg, Int.reduceToNat, Nat.not_lt_zero, Int.reduceAdd, fxs F, e0]
        simp (disch := omega) only [w32_of]
        refine ⟨sN (aS A) - u, P2.w42, fun a j ha => ?_, ?_, c0, c1, u, u, u2, u1, Nat.le_refl _, by omega, rfl, by rw [u2], by rw [w_eq]; omega, fun q hq => ?_, fun j h1 h2 => ?_⟩
        · rw [w_ne (by omega), f2 a j (by omega) (by omega), w_ne (by omega)]
        · rw [w_ne (by decide), f2 41 0 (by decide) (by decide), w_eq]
        · rw [w_nj (by omega), w_nj (by omega), G2.id hq, G2.w hq, if_neg (by omega), if_neg (by omega)]
          exact ⟨rfl, rfl⟩
        · rw [w_nj h1, e42]
  · rintro t m ls st M1 h' c2 n2 ⟨rfl, rfl, rfl, rfl, rfl, l0, P1, f1, t1, c0, c1, u, p, y1, y2, y3, y4, y5, l3, y6, y7, y8⟩
    simp only [wq_g3, wq_gc, wq_g, wq_g1, wq_g2, eM_erase, iM_erase_0, iM_erase_14, iM_erase_40, iM_erase_96, vM_erase, wps, x_cnd, reduceIte, Nat.reduceAdd, Nat.reduceSub, Nat.reduceEqDiff, Nat.reduceLeDiff, Nat.lt_irrefl, Nat.reduceLT, Int.cast_ofNat_Int, wq_c0, wq_c1, true_and, and_true, and_self, true_implies, forall_const, ne_eq, Decidable.not_not, not_true_eq_false, not_false_eq_true, List.map_nil, List.map_cons, List.sum_nil, List.sum_cons, List.length_cons, List.length_nil, Nat.le_refl, Nat.zero_le, reduceCtorEq, true_or, or_true, false_or, or_false, false_and, and_false, false_implies, Nat.zero_add, Nat.add_zero, Int.reduceEq, Int.reduceNe, Int.reduceLT, Int.reduceLE, Int.reduceNeg, Int.reduceToNat, Nat.not_lt_zero, Int.reduceAdd, fxs F, l0, l3, y6]
    simp (disch := omega) only [w32_of]
    refine ⟨fun c2 => ?_, fun c2 => ⟨by omega, by omega, by omega, by omega, ?_⟩⟩
    · have hp : p + 1 = sN (aS A) := by omega
      rw [if_neg c0, if_neg c1, y1, Int.toNat_natCast] at k
      rw [y1] at c1
      have hidu : sI (aS A) u = b := by
        obtain ⟨u', w1, w2, w3⟩ := pl_some c0
        have : u' = u := by omega
        subst this
        exact w3
      have W3 : wfS (delS (aS A) u) (aI A) := W.w.del y2 (fun l l1 l2 l3 l4 => c1 (Or.inr (Or.inl (fun z => by
        have := (sit_0 W.w y2).mp z l l1 l2
        exact this l4)))) (fun c hc hne => by
        have hz : cn (endC (aS A) b) 10 = 0 := Decidable.not_not.mp (fun q => c1 (Or.inr (Or.inr q)))
        have hf := cn_none hz c hc
        rw [hidu]
        have he : ¬ (sF (aS A) c ≠ -1 ∧ (sF (aS A) c = b ∨ sL (aS A) c = b)) := fun q => by
          have : endC (aS A) b c = true := by
            unfold endC
            simp
            exact q
          rw [this] at hf
          exact absurd hf (by decide)
        exact ⟨fun q => he ⟨hne, Or.inl q⟩, fun q => he ⟨hne, Or.inr q⟩⟩)
      refine k _ M1 (P1.chg (W.G.bars rfl rfl rfl rfl rfl rfl y6 (fun q hq => ?_) y8) W3) f1 (ma_v t1 (congrArg Sum.inl (show (sN (aS A) : Int) - 1 = ((sN (aS A) - 1 : Nat) : Int) by omega)))
      have hq : q < sN (aS A) - 1 := hq
      obtain ⟨g1, g2⟩ := y7 q (by omega)
      rw [pkw_del, g1, g2]
      show _ = dl u (sI (aS A)) q ∧ _
      by_cases hqu : q < u
      · rw [if_neg (by omega), if_neg (by omega), if_pos hqu, dl_1 hqu]
        exact ⟨rfl, rfl⟩
      · rw [if_pos (by omega), if_pos (by omega), if_neg hqu, dl_2 (by omega)]
        exact ⟨rfl, rfl⟩
    · obtain ⟨g1, g2⟩ := y7 (p + 1) (by omega)
      rw [if_neg (by omega), show (4 : Int) + ((p + 1 : Nat) : Int) = 4 + p + 1 by omega] at g1
      rw [if_neg (by omega), show (154 : Int) + ((p + 1 : Nat) : Int) = 154 + p + 1 by omega] at g2
      rw [w_nj (show (154 : Int) + p + 1 ≠ 4 + p by omega), g1, g2]
      refine ⟨sN (aS A) - (p + 1), by omega, P1.w42.w42, (f1.w (by decide)).w (by decide), (w_ne (by decide)).trans ((w_ne (by decide)).trans t1), c0, c1, u, p + 1, y1, y2, by omega, by omega, rfl, congrArg (fun z => some (xI z)) (by omega), by rw [w_nj (by omega), w_nj (by omega)]; exact y6, fun q hq => ?_, fun j h1 h2 => by rw [w_nj (by omega), w_nj (by omega)]; exact y8 j h1 h2⟩
      obtain ⟨g3, g4⟩ := y7 q hq
      by_cases hqp : q = p
      · subst hqp
        rw [w_eq, w_nj (by omega), w_eq, if_pos (by omega), if_pos (by omega)]
        exact ⟨rfl, rfl⟩
      · rw [w_nj (by omega), w_nj (by omega), w_nj (by omega), w_nj (by omega), g3, g4]
        by_cases hqu : u ≤ q ∧ q < p
        · rw [if_pos hqu, if_pos hqu, if_pos (by omega), if_pos (by omega)]
          exact ⟨rfl, rfl⟩
        · rw [if_neg hqu, if_neg hqu, if_neg (by omega), if_neg (by omega)]
          exact ⟨rfl, rfl⟩
theorem pkw_ins {t c : Nat} {f b : Int} {q : Int} : pkw (insS S t c f b) q = shf t c (pkw S) (fun _ => b + 16) q := by
  show shf t c (sB S) (fun _ => b) q + 16 * shf t c (sX S) (fun _ => 1) q + 32 * shf t c (sT S) (fun _ => 0) q + 64 * shf t c (sD S) (fun _ => 0) q + 256 * shf t c (sC S 0) (fun _ => 0) q + 1024 * shf t c (sC S 1) (fun _ => 0) q + 4096 * shf t c (sC S 2) (fun _ => 0) q + 16384 * shf t c (sC S 3) (fun _ => 0) q + 65536 * shf t c (sC S 4) (fun _ => 0) q + 262144 * shf t c (sC S 5) (fun _ => 0) q = _
  unfold shf
  by_cases h1 : q < t
  · simp only [if_pos h1]
    rfl
  · by_cases h2 : q < t + c
    · simp only [if_neg h1, if_pos h2]
      omega
    · simp only [if_neg h1, if_neg h2]
      rfl
theorem MP_nid {S0 : xSr} {n : Int} (P : MP (aKeep A S0 (aI A)) M h) (f : ∀ a j, (a = 44 ∨ a = 46 ∨ a = 56) → M' a j = M a j) (g : ∀ j, (j = 5 ∨ j = 8 ∨ j = 15 ∨ j = 16 ∨ j = 33) → M' 41 j = M 41 j) (e6 : M' 41 6 = n) (h1 : aI A ≤ n) (h2 : n ≤ 50000) : MP (aKeep A S0 n) M' h := by
  obtain ⟨a, ⟨d1, d2, d3⟩, ⟨e1, e2, e3⟩, ⟨f1, f2, f3, f4, f5⟩, ⟨g1, g2, g3⟩⟩ := P
  have h0 : 0 ≤ aI A := e2
  refine ⟨a, ⟨(g 5 (by decide)).trans d1, d2, fun i hi => ?_⟩, ⟨e6, by show 0 ≤ n; omega, h2⟩, ⟨(g 8 (by decide)).trans f1, f2, fun i hi => ?_, (g 15 (by decide)).trans f4, (g 16 (by decide)).trans f5⟩, (g 33 (by decide)).trans g1, g2, fun i hi => ?_⟩
  · obtain ⟨z1, z2⟩ := d3 i hi
    have e44 : M' 44 = M 44 := funext (fun j => f 44 j (by decide))
    rw [e44]
    exact ⟨z1, z2.mono h1⟩
  · rw [f 46 i (by decide)]
    exact f3 i hi
  · rw [f 56 i (by decide)]
    exact g3 i hi
theorem cM_insert (W : MW A M h) (hnid : aI A ≤ 49980) {after count beats : Int} (h32 : x_i32 count) (k : ∀ u M', MW (dIns A after count beats).2 M' h → FM M M' → MA (xk [2, 1, 0]) (dIns A after count beats).1 u M' → Φ (.inl (some (xI u))) M' h) : x_Cal zM_insert [xA 41, xI after, xI count, xI beats] M h Φ := by
  have F := W.F
  have hN := W.w.N
  have hi := W.2.2.2.2.1
  have e0 := W.G.n
  have bad : ∀ e t, dIns A after count beats = (.inr e, A) → xk [2, 1, 0] e = t → Φ (.inl (some (xI 0))) (x_w M 41 0 t) h := fun e t he ht => k _ _ (by rw [he]; exact W.thr) (FM.r.w (by decide)) (ma_e w_eq (by rw [he]) ht)
  unfold dIns at bad k
  refine x_metI kM_insert (Nat.le_of_ble_eq_true rfl) (fun t m ls st M' h' c2 n2 => st = [] ∧ h' = h ∧ c2 = 0 ∧ n2 = 0 ∧ ls 0 = some (xA 41) ∧ ls 2 = some (xI count) ∧ ls 3 = some (xI beats) ∧ MP (aKeep A (aS A) (aI A)) M' h ∧ FM M M' ∧ M' 41 0 = 0 ∧ ¬ (after ≠ -1 ∧ pl (aS A) after = -1) ∧ (1 ≤ count ∧ count ≤ 20 ∧ 1 ≤ beats ∧ beats ≤ 12) ∧ (sN (aS A) : Int) + count ≤ 150 ∧ M' 42 0 = sN (aS A) ∧ (∀ j : Int, j ≠ 0 → ¬ (4 ≤ j ∧ j < 304) → M' 42 j = M 42 j) ∧ ∃ u p j : Nat, (if after = -1 then 0 else pl (aS A) after + 1) = u ∧ u ≤ sN (aS A) ∧ u ≤ p ∧ p ≤ sN (aS A) ∧ ls 5 = some (xI u) ∧ ((t = 113 ∧ j = 0 ∧ m = 1000 + p ∧ ls 6 = some (xI ((p : Int) - 1))) ∨ (t = 173 ∧ p = u ∧ (j : Int) ≤ count ∧ m = count.toNat - j ∧ ls 6 = some (xI j))) ∧ ∀ q : Nat, (q : Int) < sN (aS A) + count → M' 42 (4 + q) = (if (p : Int) + count ≤ q then sI (aS A) ((q : Int) - count) else if u ≤ q ∧ q < u + j then aI A + ((q : Int) - u) else M 42 (4 + q)) ∧ M' 42 (154 + q) = if (p : Int) + count ≤ q then pkw (aS A) ((q : Int) - count) else if u ≤ q ∧ q < u + j then beats + 16 else M 42 (154 + q)) 20 ?_ ?_
  · by_cases c0 : after = -1
    · subst c0
      simp only [wq_g3, wq_gc, wq_g, wq_g1, wq_g2, eM_insert, iM_insert_0, iM_insert_24, iM_insert_25, iM_insert_45, iM_insert_54, iM_insert_72, iM_insert_73, iM_insert_81, iM_insert_94, iM_insert_101, iM_insert_113, iM_insert_170, iM_insert_173, iM_insert_224, vM_insert, wps, x_cnd, reduceIte, Nat.reduceAdd, Nat.reduceSub, Nat.reduceEqDiff, Nat.reduceLeDiff, Nat.lt_irrefl, Nat.reduceLT, Int.cast_ofNat_Int, wq_c0, wq_c1, true_and, and_true, and_self, true_implies, forall_const, ne_eq, Decidable.not_not, not_true_eq_false, not_false_eq_true, List.map_nil, List.map_cons, List.sum_nil, List.sum_cons, List.length_cons, List.length_nil, Nat.le_refl, Nat.zero_le, reduceCtorEq, true_or, or_true, false_or, or_false, false_and, and_false, false_implies, Nat.zero_add, Nat.add_zero, Int.reduceEq, Int.reduceNe, Int.reduceLT, Int.reduceLE, Int.reduceNeg, Int.reduceToNat, Nat.not_lt_zero, Int.reduceAdd, fxs F]
      refine cM_in ?_
      simp only [wq_g3, wq_gc, wq_g, wq_g1, wq_g2, eM_insert, iM_insert_0, iM_insert_24, iM_insert_25, iM_insert_45, iM_insert_54, iM_insert_72, iM_insert_73, iM_insert_81, iM_insert_94, iM_insert_101, iM_insert_113, iM_insert_170, iM_insert_173, iM_insert_224, vM_insert, wps, x_cnd, reduceIte, Nat.reduceAdd, Nat.reduceSub, Nat.reduceEqDiff, Nat.reduceLeDiff, Nat.lt_irrefl, Nat.reduceLT, Int.cast_ofNat_Int, wq_c0, wq_c1, true_and, and_true, and_self, true_implies, forall_const, ne_eq, Decidable.not_not, not_true_eq_false, not_false_eq_true, List.map_nil, List.map_cons, List.sum_nil, List.sum_cons, List.length_cons, List.length_nil, Nat.le_refl, Nat.zero_le, reduceCtorEq, true_or, or_true, false_or, or_false, false_and, and_false, false_implies, Nat.zero_add, Nat.add_zero, Int.reduceEq, Int.reduceNe, Int.reduceLT, Int.reduceLE, Int.reduceNeg, Int.reduceToNat, Nat.not_lt_zero, Int.reduceAdd, fxs F, b01_0]
      refine ⟨fun c2 => cM_ref1 F (by decide) ?_, fun c2 => cM_in ?_⟩
      · simp only [wq_g3, wq_gc, wq_g, wq_g1, wq_g2, eM_insert, iM_insert_0, iM_insert_24, iM_insert_25, iM_insert_45, iM_insert_54, iM_insert_72, iM_insert_73, iM_insert_81, iM_insert_94, iM_insert_101, iM_insert_113, iM_insert_170, iM_insert_173, iM_insert_224, vM_insert, wps, x_cnd, reduceIte, Nat.reduceAdd, Nat.reduceSub, Nat.reduceEqDiff, Nat.reduceLeDiff, Nat.lt_irrefl, Nat.reduceLT, Int.cast_ofNat_Int, wq_c0, wq_c1, true_and, and_true, and_self, true_implies, forall_const, ne_eq, Decidable.not_not, not_true_eq_false, not_false_eq_true, List.map_nil, List.map_cons, List.sum_nil, List.sum_cons, List.length_cons, List.length_nil, Nat.le_refl, Nat.zero_le, reduceCtorEq, true_or, or_true, false_or, or_false, false_and, and_false, false_implies, Nat.zero_add, Nat.add_zero, Int.reduceEq, Int.reduceNe, Int.reduceLT, Int.reduceLE, Int.reduceNeg, Int.reduceToNat, Nat.not_lt_zero, Int.reduceAdd, fxs F]
        exact bad 1 2 (by rw [if_neg (fun q => q.1 rfl), if_pos (fun q => c2 ⟨q.1, q.2.1⟩)]) rfl
      · simp only [wq_g3, wq_gc, wq_g, wq_g1, wq_g2, eM_insert, iM_insert_0, iM_insert_24, iM_insert_25, iM_insert_45, iM_insert_54, iM_insert_72, iM_insert_73, iM_insert_81, iM_insert_94, iM_insert_101, iM_insert_113, iM_insert_170, iM_insert_173, iM_insert_224, vM_insert, wps, x_cnd, reduceIte, Nat.reduceAdd, Nat.reduceSub, Nat.reduceEqDiff, Nat.reduceLeDiff, Nat.lt_irrefl, Nat.reduceLT, Int.cast_ofNat_Int, wq_c0, wq_c1, true_and, and_true, and_self, true_implies, forall_const, ne_eq, Decidable.not_not, not_true_eq_false, not_false_eq_true, List.map_nil, List.map_cons, List.sum_nil, List.sum_cons, List.length_cons, List.length_nil, Nat.le_refl, Nat.zero_le, reduceCtorEq, true_or, or_true, false_or, or_false, false_and, and_false, false_implies, Nat.zero_add, Nat.add_zero, Int.reduceEq, Int.reduceNe, Int.reduceLT, Int.reduceLE, Int.reduceNeg, Int.reduceToNat, Nat.not_lt_zero, Int.reduceAdd, fxs F, b01_0]
        refine ⟨fun c3 => cM_ref1 F (by decide) ?_, fun c3 => ?_⟩
        · simp only [wq_g3, wq_gc, wq_g, wq_g1, wq_g2, eM_insert, iM_insert_0, iM_insert_24, iM_insert_25, iM_insert_45, iM_insert_54, iM_insert_72, iM_insert_73, iM_insert_81, iM_insert_94, iM_insert_101, iM_insert_113, iM_insert_170, iM_insert_173, iM_insert_224, vM_insert, wps, x_cnd, reduceIte, Nat.reduceAdd, Nat.reduceSub, Nat.reduceEqDiff, Nat.reduceLeDiff, Nat.lt_irrefl, Nat.reduceLT, Int.cast_ofNat_Int, wq_c0, wq_c1, true_and, and_true, and_self, true_implies, forall_const, ne_eq, Decidable.not_not, not_true_eq_false, not_false_eq_true, List.map_nil, List.map_cons, List.sum_nil, List.sum_cons, List.length_cons, List.length_nil, Nat.le_refl, Nat.zero_le, reduceCtorEq, true_or, or_true, false_or, or_false, false_and, and_false, false_implies, Nat.zero_add, Nat.add_zero, Int.reduceEq, Int.reduceNe, Int.reduceLT, Int.reduceLE, Int.reduceNeg, Int.reduceToNat, Nat.not_lt_zero, Int.reduceAdd, fxs F]
          exact bad 1 2 (by rw [if_neg (fun q => q.1 rfl), if_pos (fun q => c3 q.2.2)]) rfl
        · simp only [wq_g3, wq_gc, wq_g, wq_g1, wq_g2, eM_insert, iM_insert_0, iM_insert_24, iM_insert_25, iM_insert_45, iM_insert_54, iM_insert_72, iM_insert_73, iM_insert_81, iM_insert_94, iM_insert_101, iM_insert_113, iM_insert_170, iM_insert_173, iM_insert_224, vM_insert, wps, x_cnd, reduceIte, Nat.reduceAdd, Nat.reduceSub, Nat.reduceEqDiff, Nat.reduceLeDiff, Nat.lt_irrefl, Nat.reduceLT, Int.cast_ofNat_Int, wq_c0, wq_c1, true_and, and_true, and_self, true_implies, forall_const, ne_eq, Decidable.not_not, not_true_eq_false, not_false_eq_true, List.map_nil, List.map_cons, List.sum_nil, List.sum_cons, List.length_cons, List.length_nil, Nat.le_refl, Nat.zero_le, reduceCtorEq, true_or, or_true, false_or, or_false, false_and, and_false, false_implies, Nat.zero_add, Nat.add_zero, Int.reduceEq, Int.reduceNe, Int.reduceLT, Int.reduceLE, Int.reduceNeg, Int.reduceToNat, Nat.not_lt_zero, Int.reduceAdd, fxs F, e0]
          rw [w32_of (by omega)]
          refine ⟨fun c4 => ?_, fun c4 => cM_ref1 F (by decide) ?_⟩
          · refine cM_ref0 F ?_
            simp only [wq_g3, wq_gc, wq_g, wq_g1, wq_g2, eM_insert, iM_insert_0, iM_insert_24, iM_insert_25, iM_insert_45, iM_insert_54, iM_insert_72, iM_insert_73, iM_insert_81, iM_insert_94, iM_insert_101, iM_insert_113, iM_insert_170, iM_insert_173, iM_insert_224, vM_insert, wps, x_cnd, reduceIte, Nat.reduceAdd, Nat.reduceSub, Nat.reduceEqDiff, Nat.reduceLeDiff, Nat.lt_irrefl, Nat.reduceLT, Int.cast_ofNat_Int, wq_c0, wq_c1, true_and, and_true, and_self, true_implies, forall_const, ne_eq, Decidable.not_not, not_true_eq_false, not_false_eq_true, List.map_nil, List.map_cons, List.sum_nil, List.sum_cons, List.length_cons, List.length_nil, Nat.le_refl, Nat.zero_le, reduceCtorEq, true_or, or_true, false_or, or_false, false_and, and_false, false_implies, Nat.zero_add, Nat.add_zero, Int.reduceEq, Int.reduceNe, Int.reduceLT, Int.reduceLE, Int.reduceNeg, Int.reduceToNat, Nat.not_lt_zero, Int.reduceAdd, fxs F]
            refine cM_remembers W.thr (fun M2 P2 f2 => ?_)
            have e42 : M2 42 = M 42 := funext (fun j => (f2 42 j (by decide) (by omega)).trans (w_ne (by decide)))
            have G2 : SG (aS A) (M2 42) := by rw [e42]; exact W.G
            have e02 := G2.n
            simp only [wq_g3, wq_gc, wq_g, wq_g1, wq_g2, eM_insert, iM_insert_0, iM_insert_24, iM_insert_25, iM_insert_45, iM_insert_54, iM_insert_72, iM_insert_73, iM_insert_81, iM_insert_94, iM_insert_101, iM_insert_113, iM_insert_170, iM_insert_173, iM_insert_224, vM_insert, wps, x_cnd, reduceIte, Nat.reduceAdd, Nat.reduceSub, Nat.reduceEqDiff, Nat.reduceLeDiff, Nat.lt_irrefl, Nat.reduceLT, Int.cast_ofNat_Int, wq_c0, wq_c1, true_and, and_true, and_self, true_implies, forall_const, ne_eq, Decidable.not_not, not_true_eq_false, not_false_eq_true, List.map_nil, List.map_cons, List.sum_nil, List.sum_cons, List.length_cons, List.length_nil, Nat.le_refl, Nat.zero_le, reduceCtorEq, true_or, or_true, false_or, or_false, false_and, and_false, false_implies, Nat.zero_add, Nat.add_zero, Int.reduceEq, Int.reduceNe, Int.reduceLT, Int.reduceLE, Int.reduceNeg, Int.reduceToNat, Nat.not_lt_zero, Int.reduceAdd, fxs F]
            simp only [wq_g3, wq_gc, wq_g, wq_g1, wq_g2, eM_insert, iM_insert_0, iM_insert_24, iM_insert_25, iM_insert_45, iM_insert_54, iM_insert_72, iM_insert_73, iM_insert_81, iM_insert_94, iM_insert_101, iM_insert_113, iM_insert_170, iM_insert_173, iM_insert_224, vM_insert, wps, x_cnd, reduceIte, Nat.reduceAdd, Nat.reduceSub, Nat.reduceEqDiff, Nat.reduceLeDiff, Nat.lt_irrefl, Nat.reduceLT, Int.cast_ofNat_Int, wq_c0, wq_c1, true_and, and_true, and_self, true_implies, forall_const, ne_eq, Decidable.not_not, not_true_eq_false, not_false_eq_true, List.map_nil, List.map_cons, List.sum_nil, List.sum_cons, List.length_cons, List.length_nil, Nat.le_refl, Nat.zero_le, reduceCtorEq, true_or, or_true, false_or, or_false, false_and, and_false, false_implies, Nat.zero_add, Nat.add_zero, Int.reduceEq, Int.reduceNe, Int.reduceLT, Int.reduceLE, Int.reduceNeg, Int.reduceToNat, Nat.not_lt_zero, Int.reduceAdd, fxs F, e02]
            simp (disch := omega) only [w32_of]
            rw [e42]
            refine ⟨1000 + sN (aS A), P2, fun a j ha => ?_, ?_, ⟨c2.1, c2.2, c3.1, c3.2⟩, c4, fun _ _ _ => rfl, 0, sN (aS A), 0, rfl, by omega, by omega, Nat.le_refl _, rfl, ⟨rfl, rfl, rfl⟩, fun q hq => ?_⟩
            · rw [f2 a j (by omega) (by omega), w_ne (by omega)]
            · rw [f2 41 0 (by decide) (by decide), w_eq]
            · rw [if_neg (by omega), if_neg (by omega), if_neg (by omega), if_neg (by omega)]
              exact ⟨rfl, rfl⟩
          · simp only [wq_g3, wq_gc, wq_g, wq_g1, wq_g2, eM_insert, iM_insert_0, iM_insert_24, iM_insert_25, iM_insert_45, iM_insert_54, iM_insert_72, iM_insert_73, iM_insert_81, iM_insert_94, iM_insert_101, iM_insert_113, iM_insert_170, iM_insert_173, iM_insert_224, vM_insert, wps, x_cnd, reduceIte, Nat.reduceAdd, Nat.reduceSub, Nat.reduceEqDiff, Nat.reduceLeDiff, Nat.lt_irrefl, Nat.reduceLT, Int.cast_ofNat_Int, wq_c0, wq_c1, true_and, and_true, and_self, true_implies, forall_const, ne_eq, Decidable.not_not, not_true_eq_false, not_false_eq_true, List.map_nil, List.map_cons, List.sum_nil, List.sum_cons, List.length_cons, List.length_nil, Nat.le_refl, Nat.zero_le, reduceCtorEq, true_or, or_true, false_or, or_false, false_and, and_false, false_implies, Nat.zero_add, Nat.add_zero, Int.reduceEq, Int.reduceNe, Int.reduceLT, Int.reduceLE, Int.reduceNeg, Int.reduceToNat, Nat.not_lt_zero, Int.reduceAdd, fxs F]
            exact bad 0 3 (by rw [if_neg (fun q => q.1 rfl), if_neg (fun q => q ⟨c2.1, c2.2, c3.1, c3.2⟩), if_pos (by omega)]) rfl
    · simp only [wq_g3, wq_gc, wq_g, wq_g1, wq_g2, eM_insert, iM_insert_0, iM_insert_24, iM_insert_25, iM_insert_45, iM_insert_54, iM_insert_72, iM_insert_73, iM_insert_81, iM_insert_94, iM_insert_101, iM_insert_113, iM_insert_170, iM_insert_173, iM_insert_224, vM_insert, wps, x_cnd, reduceIte, Nat.reduceAdd, Nat.reduceSub, Nat.reduceEqDiff, Nat.reduceLeDiff, Nat.lt_irrefl, Nat.reduceLT, Int.cast_ofNat_Int, wq_c0, wq_c1, true_and, and_true, and_self, true_implies, forall_const, ne_eq, Decidable.not_not, not_true_eq_false, not_false_eq_true, List.map_nil, List.map_cons, List.sum_nil, List.sum_cons, List.length_cons, List.length_nil, Nat.le_refl, Nat.zero_le, reduceCtorEq, true_or, or_true, false_or, or_false, false_and, and_false, false_implies, Nat.zero_add, Nat.add_zero, Int.reduceEq, Int.reduceNe, Int.reduceLT, Int.reduceLE, Int.reduceNeg, Int.reduceToNat, Nat.not_lt_zero, Int.reduceAdd, fxs F]
      refine cM_in ?_
      simp only [wq_g3, wq_gc, wq_g, wq_g1, wq_g2, eM_insert, iM_insert_0, iM_insert_24, iM_insert_25, iM_insert_45, iM_insert_54, iM_insert_72, iM_insert_73, iM_insert_81, iM_insert_94, iM_insert_101, iM_insert_113, iM_insert_170, iM_insert_173, iM_insert_224, vM_insert, wps, x_cnd, reduceIte, Nat.reduceAdd, Nat.reduceSub, Nat.reduceEqDiff, Nat.reduceLeDiff, Nat.lt_irrefl, Nat.reduceLT, Int.cast_ofNat_Int, wq_c0, wq_c1, true_and, and_true, and_self, true_implies, forall_const, ne_eq, Decidable.not_not, not_true_eq_false, not_false_eq_true, List.map_nil, List.map_cons, List.sum_nil, List.sum_cons, List.length_cons, List.length_nil, Nat.le_refl, Nat.zero_le, reduceCtorEq, true_or, or_true, false_or, or_false, false_and, and_false, false_implies, Nat.zero_add, Nat.add_zero, Int.reduceEq, Int.reduceNe, Int.reduceLT, Int.reduceLE, Int.reduceNeg, Int.reduceToNat, Nat.not_lt_zero, Int.reduceAdd, fxs F, b01_0, c0]
      refine ⟨fun c2 => cM_isBar F W.G W.w ?_, fun c2 => cM_in ?_⟩
      · simp only [wq_g3, wq_gc, wq_g, wq_g1, wq_g2, eM_insert, iM_insert_0, iM_insert_24, iM_insert_25, iM_insert_45, iM_insert_54, iM_insert_72, iM_insert_73, iM_insert_81, iM_insert_94, iM_insert_101, iM_insert_113, iM_insert_170, iM_insert_173, iM_insert_224, vM_insert, wps, x_cnd, reduceIte, Nat.reduceAdd, Nat.reduceSub, Nat.reduceEqDiff, Nat.reduceLeDiff, Nat.lt_irrefl, Nat.reduceLT, Int.cast_ofNat_Int, wq_c0, wq_c1, true_and, and_true, and_self, true_implies, forall_const, ne_eq, Decidable.not_not, not_true_eq_false, not_false_eq_true, List.map_nil, List.map_cons, List.sum_nil, List.sum_cons, List.length_cons, List.length_nil, Nat.le_refl, Nat.zero_le, reduceCtorEq, true_or, or_true, false_or, or_false, false_and, and_false, false_implies, Nat.zero_add, Nat.add_zero, Int.reduceEq, Int.reduceNe, Int.reduceLT, Int.reduceLE, Int.reduceNeg, Int.reduceToNat, Nat.not_lt_zero, Int.reduceAdd, fxs F, b01_0]
        refine ⟨fun c5 => cM_ref1 F (by decide) ?_, fun c5 => cM_ref1 F (by decide) ?_⟩
        · simp only [wq_g3, wq_gc, wq_g, wq_g1, wq_g2, eM_insert, iM_insert_0, iM_insert_24, iM_insert_25, iM_insert_45, iM_insert_54, iM_insert_72, iM_insert_73, iM_insert_81, iM_insert_94, iM_insert_101, iM_insert_113, iM_insert_170, iM_insert_173, iM_insert_224, vM_insert, wps, x_cnd, reduceIte, Nat.reduceAdd, Nat.reduceSub, Nat.reduceEqDiff, Nat.reduceLeDiff, Nat.lt_irrefl, Nat.reduceLT, Int.cast_ofNat_Int, wq_c0, wq_c1, true_and, and_true, and_self, true_implies, forall_const, ne_eq, Decidable.not_not, not_true_eq_false, not_false_eq_true, List.map_nil, List.map_cons, List.sum_nil, List.sum_cons, List.length_cons, List.length_nil, Nat.le_refl, Nat.zero_le, reduceCtorEq, true_or, or_true, false_or, or_false, false_and, and_false, false_implies, Nat.zero_add, Nat.add_zero, Int.reduceEq, Int.reduceNe, Int.reduceLT, Int.reduceLE, Int.reduceNeg, Int.reduceToNat, Nat.not_lt_zero, Int.reduceAdd, fxs F]
          exact bad 1 2 (by rw [if_neg (fun q => c5 q.2), if_pos (fun q => c2 ⟨q.1, q.2.1⟩)]) rfl
        · simp only [wq_g3, wq_gc, wq_g, wq_g1, wq_g2, eM_insert, iM_insert_0, iM_insert_24, iM_insert_25, iM_insert_45, iM_insert_54, iM_insert_72, iM_insert_73, iM_insert_81, iM_insert_94, iM_insert_101, iM_insert_113, iM_insert_170, iM_insert_173, iM_insert_224, vM_insert, wps, x_cnd, reduceIte, Nat.reduceAdd, Nat.reduceSub, Nat.reduceEqDiff, Nat.reduceLeDiff, Nat.lt_irrefl, Nat.reduceLT, Int.cast_ofNat_Int, wq_c0, wq_c1, true_and, and_true, and_self, true_implies, forall_const, ne_eq, Decidable.not_not, not_true_eq_false, not_false_eq_true, List.map_nil, List.map_cons, List.sum_nil, List.sum_cons, List.length_cons, List.length_nil, Nat.le_refl, Nat.zero_le, reduceCtorEq, true_or, or_true, false_or, or_false, false_and, and_false, false_implies, Nat.zero_add, Nat.add_zero, Int.reduceEq, Int.reduceNe, Int.reduceLT, Int.reduceLE, Int.reduceNeg, Int.reduceToNat, Nat.not_lt_zero, Int.reduceAdd, fxs F]
          exact bad 2 1 (if_pos ⟨c0, c5⟩) rfl
      · simp only [wq_g3, wq_gc, wq_g, wq_g1, wq_g2, eM_insert, iM_insert_0, iM_insert_24, iM_insert_25, iM_insert_45, iM_insert_54, iM_insert_72, iM_insert_73, iM_insert_81, iM_insert_94, iM_insert_101, iM_insert_113, iM_insert_170, iM_insert_173, iM_insert_224, vM_insert, wps, x_cnd, reduceIte, Nat.reduceAdd, Nat.reduceSub, Nat.reduceEqDiff, Nat.reduceLeDiff, Nat.lt_irrefl, Nat.reduceLT, Int.cast_ofNat_Int, wq_c0, wq_c1, true_and, and_true, and_self, true_implies, forall_const, ne_eq, Decidable.not_not, not_true_eq_false, not_false_eq_true, List.map_nil, List.map_cons, List.sum_nil, List.sum_cons, List.length_cons, List.length_nil, Nat.le_refl, Nat.zero_le, reduceCtorEq, true_or, or_true, false_or, or_false, false_and, and_false, false_implies, Nat.zero_add, Nat.add_zero, Int.reduceEq, Int.reduceNe, Int.reduceLT, Int.reduceLE, Int.reduceNeg, Int.reduceToNat, Nat.not_lt_zero, Int.reduceAdd, fxs F, b01_0, c0]
        refine ⟨fun c3 => cM_isBar F W.G W.w ?_, fun c3 => cM_isBar F W.G W.w ?_⟩
        · simp only [wq_g3, wq_gc, wq_g, wq_g1, wq_g2, eM_insert, iM_insert_0, iM_insert_24, iM_insert_25, iM_insert_45, iM_insert_54, iM_insert_72, iM_insert_73, iM_insert_81, iM_insert_94, iM_insert_101, iM_insert_113, iM_insert_170, iM_insert_173, iM_insert_224, vM_insert, wps, x_cnd, reduceIte, Nat.reduceAdd, Nat.reduceSub, Nat.reduceEqDiff, Nat.reduceLeDiff, Nat.lt_irrefl, Nat.reduceLT, Int.cast_ofNat_Int, wq_c0, wq_c1, true_and, and_true, and_self, true_implies, forall_const, ne_eq, Decidable.not_not, not_true_eq_false, not_false_eq_true, List.map_nil, List.map_cons, List.sum_nil, List.sum_cons, List.length_cons, List.length_nil, Nat.le_refl, Nat.zero_le, reduceCtorEq, true_or, or_true, false_or, or_false, false_and, and_false, false_implies, Nat.zero_add, Nat.add_zero, Int.reduceEq, Int.reduceNe, Int.reduceLT, Int.reduceLE, Int.reduceNeg, Int.reduceToNat, Nat.not_lt_zero, Int.reduceAdd, fxs F, b01_0]
          refine ⟨fun c5 => cM_ref1 F (by decide) ?_, fun c5 => cM_ref1 F (by decide) ?_⟩
          · simp only [wq_g3, wq_gc, wq_g, wq_g1, wq_g2, eM_insert, iM_insert_0, iM_insert_24, iM_insert_25, iM_insert_45, iM_insert_54, iM_insert_72, iM_insert_73, iM_insert_81, iM_insert_94, iM_insert_101, iM_insert_113, iM_insert_170, iM_insert_173, iM_insert_224, vM_insert, wps, x_cnd, reduceIte, Nat.reduceAdd, Nat.reduceSub, Nat.reduceEqDiff, Nat.reduceLeDiff, Nat.lt_irrefl, Nat.reduceLT, Int.cast_ofNat_Int, wq_c0, wq_c1, true_and, and_true, and_self, true_implies, forall_const, ne_eq, Decidable.not_not, not_true_eq_false, not_false_eq_true, List.map_nil, List.map_cons, List.sum_nil, List.sum_cons, List.length_cons, List.length_nil, Nat.le_refl, Nat.zero_le, reduceCtorEq, true_or, or_true, false_or, or_false, false_and, and_false, false_implies, Nat.zero_add, Nat.add_zero, Int.reduceEq, Int.reduceNe, Int.reduceLT, Int.reduceLE, Int.reduceNeg, Int.reduceToNat, Nat.not_lt_zero, Int.reduceAdd, fxs F]
            exact bad 1 2 (by rw [if_neg (fun q => c5 q.2), if_pos (fun q => c3 q.2.2)]) rfl
          · simp only [wq_g3, wq_gc, wq_g, wq_g1, wq_g2, eM_insert, iM_insert_0, iM_insert_24, iM_insert_25, iM_insert_45, iM_insert_54, iM_insert_72, iM_insert_73, iM_insert_81, iM_insert_94, iM_insert_101, iM_insert_113, iM_insert_170, iM_insert_173, iM_insert_224, vM_insert, wps, x_cnd, reduceIte, Nat.reduceAdd, Nat.reduceSub, Nat.reduceEqDiff, Nat.reduceLeDiff, Nat.lt_irrefl, Nat.reduceLT, Int.cast_ofNat_Int, wq_c0, wq_c1, true_and, and_true, and_self, true_implies, forall_const, ne_eq, Decidable.not_not, not_true_eq_false, not_false_eq_true, List.map_nil, List.map_cons, List.sum_nil, List.sum_cons, List.length_cons, List.length_nil, Nat.le_refl, Nat.zero_le, reduceCtorEq, true_or, or_true, false_or, or_false, false_and, and_false, false_implies, Nat.zero_add, Nat.add_zero, Int.reduceEq, Int.reduceNe, Int.reduceLT, Int.reduceLE, Int.reduceNeg, Int.reduceToNat, Nat.not_lt_zero, Int.reduceAdd, fxs F]
            exact bad 2 1 (if_pos ⟨c0, c5⟩) rfl
        · simp only [wq_g3, wq_gc, wq_g, wq_g1, wq_g2, eM_insert, iM_insert_0, iM_insert_24, iM_insert_25, iM_insert_45, iM_insert_54, iM_insert_72, iM_insert_73, iM_insert_81, iM_insert_94, iM_insert_101, iM_insert_113, iM_insert_170, iM_insert_173, iM_insert_224, vM_insert, wps, x_cnd, reduceIte, Nat.reduceAdd, Nat.reduceSub, Nat.reduceEqDiff, Nat.reduceLeDiff, Nat.lt_irrefl, Nat.reduceLT, Int.cast_ofNat_Int, wq_c0, wq_c1, true_and, and_true, and_self, true_implies, forall_const, ne_eq, Decidable.not_not, not_true_eq_false, not_false_eq_true, List.map_nil, List.map_cons, List.sum_nil, List.sum_cons, List.length_cons, List.length_nil, Nat.le_refl, Nat.zero_le, reduceCtorEq, true_or, or_true, false_or, or_false, false_and, and_false, false_implies, Nat.zero_add, Nat.add_zero, Int.reduceEq, Int.reduceNe, Int.reduceLT, Int.reduceLE, Int.reduceNeg, Int.reduceToNat, Nat.not_lt_zero, Int.reduceAdd, fxs F, b01_0, e0]
          rw [w32_of (by omega)]
          refine ⟨fun c5 => ⟨fun c4 => ?_, fun c4 => cM_ref1 F (by decide) ?_⟩, fun c5 => cM_ref1 F (by decide) ?_⟩
          · obtain ⟨u', u1, u2, u3⟩ := pl_some c5
            refine cM_ref0 F ?_
            simp only [wq_g3, wq_gc, wq_g, wq_g1, wq_g2, eM_insert, iM_insert_0, iM_insert_24, iM_insert_25, iM_insert_45, iM_insert_54, iM_insert_72, iM_insert_73, iM_insert_81, iM_insert_94, iM_insert_101, iM_insert_113, iM_insert_170, iM_insert_173, iM_insert_224, vM_insert, wps, x_cnd, reduceIte, Nat.reduceAdd, Nat.reduceSub, Nat.reduceEqDiff, Nat.reduceLeDiff, Nat.lt_irrefl, Nat.reduceLT, Int.cast_ofNat_Int, wq_c0, wq_c1, true_and, and_true, and_self, true_implies, forall_const, ne_eq, Decidable.not_not, not_true_eq_false, not_false_eq_true, List.map_nil, List.map_cons, List.sum_nil, List.sum_cons, List.length_cons, List.length_nil, Nat.le_refl, Nat.zero_le, reduceCtorEq, true_or, or_true, false_or, or_false, false_and, and_false, false_implies, Nat.zero_add, Nat.add_zero, Int.reduceEq, Int.reduceNe, Int.reduceLT, Int.reduceLE, Int.reduceNeg, Int.reduceToNat, Nat.not_lt_zero, Int.reduceAdd, fxs F]
            refine cM_remembers W.thr (fun M2 P2 f2 => ?_)
            have e42 : M2 42 = M 42 := funext (fun j => (f2 42 j (by decide) (by omega)).trans (w_ne (by decide)))
            have G2 : SG (aS A) (M2 42) := by rw [e42]; exact W.G
            have e02 := G2.n
            simp only [wq_g3, wq_gc, wq_g, wq_g1, wq_g2, eM_insert, iM_insert_0, iM_insert_24, iM_insert_25, iM_insert_45, iM_insert_54, iM_insert_72, iM_insert_73, iM_insert_81, iM_insert_94, iM_insert_101, iM_insert_113, iM_insert_170, iM_insert_173, iM_insert_224, vM_insert, wps, x_cnd, reduceIte, Nat.reduceAdd, Nat.reduceSub, Nat.reduceEqDiff, Nat.reduceLeDiff, Nat.lt_irrefl, Nat.reduceLT, Int.cast_ofNat_Int, wq_c0, wq_c1, true_and, and_true, and_self, true_implies, forall_const, ne_eq, Decidable.not_not, not_true_eq_false, not_false_eq_true, List.map_nil, List.map_cons, List.sum_nil, List.sum_cons, List.length_cons, List.length_nil, Nat.le_refl, Nat.zero_le, reduceCtorEq, true_or, or_true, false_or, or_false, false_and, and_false, false_implies, Nat.zero_add, Nat.add_zero, Int.reduceEq, Int.reduceNe, Int.reduceLT, Int.reduceLE, Int.reduceNeg, Int.reduceToNat, Nat.not_lt_zero, Int.reduceAdd, fxs F, c0]
            refine cM_placeOf F G2 W.w ?_
            rw [u2]
            simp only [wq_g3, wq_gc, wq_g, wq_g1, wq_g2, eM_insert, iM_insert_0, iM_insert_24, iM_insert_25, iM_insert_45, iM_insert_54, iM_insert_72, iM_insert_73, iM_insert_81, iM_insert_94, iM_insert_101, iM_insert_113, iM_insert_170, iM_insert_173, iM_insert_224, vM_insert, wps, x_cnd, reduceIte, Nat.reduceAdd, Nat.reduceSub, Nat.reduceEqDiff, Nat.reduceLeDiff, Nat.lt_irrefl, Nat.reduceLT, Int.cast_ofNat_Int, wq_c0, wq_c1, true_and, and_true, and_self, true_implies, forall_const, ne_eq, Decidable.not_not, not_true_eq_false, not_false_eq_true, List.map_nil, List.map_cons, List.sum_nil, List.sum_cons, List.length_cons, List.length_nil, Nat.le_refl, Nat.zero_le, reduceCtorEq, true_or, or_true, false_or, or_false, false_and, and_false, false_implies, Nat.zero_add, Nat.add_zero, Int.reduceEq, Int.reduceNe, Int.reduceLT, Int.reduceLE, Int.reduceNeg, Int.reduceToNat, Nat.not_lt_zero, Int.reduceAdd, fxs F, e02]
            simp (disch := omega) only [w32_of]
            rw [e42]
            refine ⟨1000 + sN (aS A), P2, fun a j ha => ?_, ?_, ⟨c2.1, c2.2, c3.1, c3.2⟩, c4, fun _ _ _ => rfl, u' + 1, sN (aS A), 0, by omega, by omega, by omega, Nat.le_refl _, congrArg (fun z => some (xI z)) (by omega), ⟨rfl, rfl, rfl⟩, fun q hq => ?_⟩
            · rw [f2 a j (by omega) (by omega), w_ne (by omega)]
            · rw [f2 41 0 (by decide) (by decide), w_eq]
            · rw [if_neg (by omega), if_neg (by omega), if_neg (by omega), if_neg (by omega)]
              exact ⟨rfl, rfl⟩
          · simp only [wq_g3, wq_gc, wq_g, wq_g1, wq_g2, eM_insert, iM_insert_0, iM_insert_24, iM_insert_25, iM_insert_45, iM_insert_54, iM_insert_72, iM_insert_73, iM_insert_81, iM_insert_94, iM_insert_101, iM_insert_113, iM_insert_170, iM_insert_173, iM_insert_224, vM_insert, wps, x_cnd, reduceIte, Nat.reduceAdd, Nat.reduceSub, Nat.reduceEqDiff, Nat.reduceLeDiff, Nat.lt_irrefl, Nat.reduceLT, Int.cast_ofNat_Int, wq_c0, wq_c1, true_and, and_true, and_self, true_implies, forall_const, ne_eq, Decidable.not_not, not_true_eq_false, not_false_eq_true, List.map_nil, List.map_cons, List.sum_nil, List.sum_cons, List.length_cons, List.length_nil, Nat.le_refl, Nat.zero_le, reduceCtorEq, true_or, or_true, false_or, or_false, false_and, and_false, false_implies, Nat.zero_add, Nat.add_zero, Int.reduceEq, Int.reduceNe, Int.reduceLT, Int.reduceLE, Int.reduceNeg, Int.reduceToNat, Nat.not_lt_zero, Int.reduceAdd, fxs F]
            exact bad 0 3 (by rw [if_neg (fun q => c5 q.2), if_neg (fun q => q ⟨c2.1, c2.2, c3.1, c3.2⟩), if_pos (by omega)]) rfl
          · simp only [wq_g3, wq_gc, wq_g, wq_g1, wq_g2, eM_insert, iM_insert_0, iM_insert_24, iM_insert_25, iM_insert_45, iM_insert_54, iM_insert_72, iM_insert_73, iM_insert_81, iM_insert_94, iM_insert_101, iM_insert_113, iM_insert_170, iM_insert_173, iM_insert_224, vM_insert, wps, x_cnd, reduceIte, Nat.reduceAdd, Nat.reduceSub, Nat.reduceEqDiff, Nat.reduceLeDiff, Nat.lt_irrefl, Nat.reduceLT, Int.cast_ofNat_Int, wq_c0, wq_c1, true_and, and_true, and_self, true_implies, forall_const, ne_eq, Decidable.not_not, not_true_eq_false, not_false_eq_true, List.map_nil, List.map_cons, List.sum_nil, List.sum_cons, List.length_cons, List.length_nil, Nat.le_refl, Nat.zero_le, reduceCtorEq, true_or, or_true, false_or, or_false, false_and, and_false, false_implies, Nat.zero_add, Nat.add_zero, Int.reduceEq, Int.reduceNe, Int.reduceLT, Int.reduceLE, Int.reduceNeg, Int.reduceToNat, Nat.not_lt_zero, Int.reduceAdd, fxs F]
            exact bad 2 1 (if_pos ⟨c0, c5⟩) rfl
  · rintro t m ls st M1 h' c2 n2 ⟨rfl, rfl, rfl, rfl, l0, l2, l3, P1, f1, t1, k1, k2, k3, y0, y8, u, p, j, y1, y2, y3, y4, l5, hd, y7⟩
    rcases hd with ⟨rfl, rfl, y5, l6⟩ | ⟨rfl, rfl, y5, y6, l6⟩
    · simp only [wq_g3, wq_gc, wq_g, wq_g1, wq_g2, eM_insert, iM_insert_0, iM_insert_24, iM_insert_25, iM_insert_45, iM_insert_54, iM_insert_72, iM_insert_73, iM_insert_81, iM_insert_94, iM_insert_101, iM_insert_113, iM_insert_170, iM_insert_173, iM_insert_224, vM_insert, wps, x_cnd, reduceIte, Nat.reduceAdd, Nat.reduceSub, Nat.reduceEqDiff, Nat.reduceLeDiff, Nat.lt_irrefl, Nat.reduceLT, Int.cast_ofNat_Int, wq_c0, wq_c1, true_and, and_true, and_self, true_implies, forall_const, ne_eq, Decidable.not_not, not_true_eq_false, not_false_eq_true, List.map_nil, List.map_cons, List.sum_nil, List.sum_cons, List.length_cons, List.length_nil, Nat.le_refl, Nat.zero_le, reduceCtorEq, true_or, or_true, false_or, or_false, false_and, and_false, false_implies, Nat.zero_add, Nat.add_zero, Int.reduceEq, Int.reduceNe, Int.reduceLT, Int.reduceLE, Int.reduceNeg, Int.reduceToNat, Nat.not_lt_zero, Int.reduceAdd, fxs F, l0, l2, l3, l5, l6]
      simp (disch := omega) only [w32_of]
      refine ⟨fun c0 => ⟨count.toNat - 0, by omega, P1, f1, t1, k1, k2, k3, y0, y8, u, u, 0, y1, y2, Nat.le_refl _, y2, rfl, ⟨rfl, by omega, rfl, by rw [Int.natCast_zero]⟩, by rw [show p = u by omega] at y7; exact y7⟩, fun c0 => ?_⟩
      obtain ⟨r, rfl⟩ : ∃ r : Nat, p = r + 1 := ⟨p - 1, by omega⟩
      rw [show ((r + 1 : Nat) : Int) - 1 = r by omega]
      obtain ⟨g1, g2⟩ := y7 r (by omega)
      rw [if_neg (by omega), if_neg (by omega), W.G.id (by omega)] at g1
      rw [if_neg (by omega), if_neg (by omega), W.G.w (by omega)] at g2
      rw [w_nj (show (154 : Int) + r ≠ 4 + r + count by omega), g1, g2]
      refine ⟨by omega, by omega, by omega, by omega, 1000 + r, by omega, P1.w42.w42, (f1.w (by decide)).w (by decide), (w_ne (by decide)).trans ((w_ne (by decide)).trans t1), k1, k2, k3, by rw [w_nj (by omega), w_nj (by omega)]; exact y0, fun j h1 h2 => by rw [w_nj (by omega), w_nj (by omega)]; exact y8 j h1 h2, u, r, 0, y1, y2, by omega, by omega, rfl, ⟨rfl, rfl, congrArg (fun z => some (xI z)) (by omega)⟩, fun q hq => ?_⟩
      obtain ⟨g3, g4⟩ := y7 q hq
      by_cases hqr : (q : Int) = r + count
      · rw [show (154 : Int) + q = 154 + r + count by omega, show (4 : Int) + q = 4 + r + count by omega, w_eq, w_nj (by omega), w_eq, if_pos (by omega), if_pos (by omega), show (q : Int) - count = r by omega]
        exact ⟨rfl, rfl⟩
      · rw [w_nj (by omega), w_nj (by omega), w_nj (by omega), w_nj (by omega), g3, g4]
        by_cases hlt : ((r : Nat) : Int) + count ≤ q
        · have hlt2 : ((r + 1 : Nat) : Int) + count ≤ q := by omega
          exact ⟨by rw [if_pos hlt2, if_pos hlt], by rw [if_pos hlt2, if_pos hlt]⟩
        · have hlt2 : ¬ ((r + 1 : Nat) : Int) + count ≤ q := by omega
          exact ⟨by rw [if_neg hlt2, if_neg hlt], by rw [if_neg hlt2, if_neg hlt]⟩
    · have e6 : M1 41 6 = aI A := P1.2.2.1.1
      simp only [wq_g3, wq_gc, wq_g, wq_g1, wq_g2, eM_insert, iM_insert_0, iM_insert_24, iM_insert_25, iM_insert_45, iM_insert_54, iM_insert_72, iM_insert_73, iM_insert_81, iM_insert_94, iM_insert_101, iM_insert_113, iM_insert_170, iM_insert_173, iM_insert_224, vM_insert, wps, x_cnd, reduceIte, Nat.reduceAdd, Nat.reduceSub, Nat.reduceEqDiff, Nat.reduceLeDiff, Nat.lt_irrefl, Nat.reduceLT, Int.cast_ofNat_Int, wq_c0, wq_c1, true_and, and_true, and_self, true_implies, forall_const, ne_eq, Decidable.not_not, not_true_eq_false, not_false_eq_true, List.map_nil, List.map_cons, List.sum_nil, List.sum_cons, List.length_cons, List.length_nil, Nat.le_refl, Nat.zero_le, reduceCtorEq, true_or, or_true, false_or, or_false, false_and, and_false, false_implies, Nat.zero_add, Nat.add_zero, Int.reduceEq, Int.reduceNe, Int.reduceLT, Int.reduceLE, Int.reduceNeg, Int.reduceToNat, Nat.not_lt_zero, Int.reduceAdd, fxs F, l0, l2, l3, l5, l6, y0, e6]
      simp (disch := decide) only [w_ne, w_eq, w_nj]
      simp (disch := omega) only [w32_of]
      refine ⟨fun c0 => ?_, fun c0 => ?_⟩
      · have hj : count = j := by omega
        subst hj
        rw [if_neg k1, if_neg (fun q => q k2), if_neg (by omega), y1, Int.toNat_natCast] at k
        rw [e6, show aI A + (j : Int) - j = aI A by omega]
        have P2 : MP (aKeep A (aS A) (aI A + j)) (x_w (x_w M1 42 0 ((sN (aS A) : Int) + j)) 41 6 (aI A + j)) h' := MP_nid P1 (fun a i ha => by rw [w_ne (by omega), w_ne (by omega)]) (fun i hi => by rw [w_nj (by omega), w_ne (by decide)]) w_eq (by omega) (by omega)
        have W3 := W.w.ins (t := p) (c := j) (beats := beats) hi.2.1 y2 (by omega) ⟨k2.2.2.1, k2.2.2.2⟩
        have G3 : SG (insS (aS A) p j (aI A) beats) ((x_w (x_w M1 42 0 ((sN (aS A) : Int) + j)) 41 6 (aI A + j)) 42) := by
          refine W.G.bars rfl rfl rfl rfl rfl rfl ?_ (fun q hq => ?_) (fun i h1 h2 => ?_)
          · rw [w_ne (by decide), w_eq]
            show (sN (aS A) : Int) + j = ((sN (aS A) + j : Nat) : Int)
            omega
          · have hq : q < sN (aS A) + j := hq
            obtain ⟨g1, g2⟩ := y7 q (by omega)
            rw [w_ne (by decide), w_nj (by omega), w_ne (by decide), w_nj (by omega), g1, g2, pkw_ins, ins_I]
            unfold shf
            by_cases h1 : (q : Int) < p
            · rw [if_pos h1, if_pos h1, if_neg (by omega), if_neg (by omega), if_neg (by omega), if_neg (by omega), W.G.id (by omega), W.G.w (by omega)]
              exact ⟨rfl, rfl⟩
            · rw [if_neg h1, if_neg h1]
              by_cases h2 : (q : Int) < p + j
              · have h3 : ¬ (p : Int) + j ≤ q := by omega
                have h4 : p ≤ q ∧ q < p + j := by omega
                exact ⟨by rw [if_neg h3, if_pos h4, if_pos h2], by rw [if_neg h3, if_pos h4, if_pos h2]⟩
              · have h3 : (p : Int) + j ≤ q := by omega
                exact ⟨by rw [if_pos h3, if_neg h2], by rw [if_pos h3, if_neg h2]⟩
          · rw [w_ne (by decide), w_nj h1]
            exact y8 i h1 h2
        exact k _ _ (P2.chg G3 W3) ((f1.w (by decide)).w (by decide)) (ma_v ((w_nj (by decide)).trans ((w_ne (by decide)).trans t1)) rfl)
      · refine ⟨by omega, cM_withBit (c := 4) (by omega) (by decide) ?_⟩
        rw [if_pos (show (1 : Int) ≠ 0 by decide), show ((2 ^ 4 : Nat) : Int) = 16 from rfl, show beats - 16 * (beats / 16 % 2) + 16 * 1 = beats + 16 by omega]
        simp only [wq_g3, wq_gc, wq_g, wq_g1, wq_g2, eM_insert, iM_insert_0, iM_insert_24, iM_insert_25, iM_insert_45, iM_insert_54, iM_insert_72, iM_insert_73, iM_insert_81, iM_insert_94, iM_insert_101, iM_insert_113, iM_insert_170, iM_insert_173, iM_insert_224, vM_insert, wps, x_cnd, reduceIte, Nat.reduceAdd, Nat.reduceSub, Nat.reduceEqDiff, Nat.reduceLeDiff, Nat.lt_irrefl, Nat.reduceLT, Int.cast_ofNat_Int, wq_c0, wq_c1, true_and, and_true, and_self, true_implies, forall_const, ne_eq, Decidable.not_not, not_true_eq_false, not_false_eq_true, List.map_nil, List.map_cons, List.sum_nil, List.sum_cons, List.length_cons, List.length_nil, Nat.le_refl, Nat.zero_le, reduceCtorEq, true_or, or_true, false_or, or_false, false_and, and_false, false_implies, Nat.zero_add, Nat.add_zero, Int.reduceEq, Int.reduceNe, Int.reduceLT, Int.reduceLE, Int.reduceNeg, Int.reduceToNat, Nat.not_lt_zero, Int.reduceAdd, fxs F, l0, l2, l3, l5, l6, y0, e6]
        simp (disch := omega) only [w32_of]
        refine ⟨by omega, count.toNat - (j + 1), by omega, P1.w42.w42, (f1.w (by decide)).w (by decide), (w_ne (by decide)).trans ((w_ne (by decide)).trans t1), k1, k2, k3, by rw [w_nj (by omega), w_nj (by omega)]; exact y0, fun i h1 h2 => by rw [w_nj (by omega), w_nj (by omega)]; exact y8 i h1 h2, p, p, j + 1, y1, y2, y3, y4, rfl, ⟨rfl, by omega, rfl, congrArg (fun z => some (xI z)) (by omega)⟩, fun q hq => ?_⟩
        obtain ⟨g3, g4⟩ := y7 q hq
        by_cases hqr : q = p + j
        · have h3 : ¬ (p : Int) + count ≤ q := by omega
          have h4 : p ≤ q ∧ q < p + (j + 1) := by omega
          rw [if_neg h3, if_neg h3, if_pos h4, if_pos h4, show (154 : Int) + q = 154 + p + j by omega, show (4 : Int) + q = 4 + p + j by omega, w_eq, w_nj (by omega), w_eq]
          exact ⟨by omega, rfl⟩
        · rw [w_nj (by omega), w_nj (by omega), w_nj (by omega), w_nj (by omega), g3, g4]
          by_cases h3 : (p : Int) + count ≤ q
          · exact ⟨by rw [if_pos h3, if_pos h3], by rw [if_pos h3, if_pos h3]⟩
          · by_cases h4 : p ≤ q ∧ q < p + j
            · have h5 : p ≤ q ∧ q < p + (j + 1) := by omega
              exact ⟨by rw [if_neg h3, if_neg h3, if_pos h4, if_pos h5], by rw [if_neg h3, if_neg h3, if_pos h4, if_pos h5]⟩
            · have h5 : ¬ (p ≤ q ∧ q < p + (j + 1)) := by omega
              exact ⟨by rw [if_neg h3, if_neg h3, if_neg h4, if_neg h5], by rw [if_neg h3, if_neg h3, if_neg h4, if_neg h5]⟩
end MINS
