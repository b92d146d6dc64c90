/-! the methods of Score -/
section SCM
variable {M : xM} {h : xH} {Φ : xO → xM → xH → Prop} {b : Nat}
set_option maxHeartbeats 1000000
theorem fl_s (M : xM) (a : Nat) (v : Int) (p : Nat) : x_w (x_fl M a v p) a p v = x_fl M a v ((p + 1 : Nat) : Int) := by
  (funext a' i'; simp only [x_w, x_fl, x_cp, x_z]; (repeat' split) <;> first | rfl | omega | (exfalso; omega) | simp_all)
theorem fl_0 (M : xM) (a : Nat) (v : Int) : x_fl M a v 0 = M := by
  (funext a' i'; simp only [x_w, x_fl, x_cp, x_z]; (repeat' split) <;> first | rfl | omega | (exfalso; omega) | simp_all)
theorem cA_fill {a : Nat} {v L : Int} (hk : hK h a = 20) (hL' : hL h a = L) (h0 : 0 ≤ L ∧ L ≤ 100000) (k : Φ (.inl none) (x_fl M a v L) h) : x_Cal zA_fill [xA a, xI v] M h Φ := by
  refine x_metI kA_fill (Nat.le_of_ble_eq_true rfl) (fun t m ls st M' h' c n => t = 5 ∧ st = [] ∧ h' = h ∧ c = 0 ∧ n = 0 ∧ ls 0 = some (xA a) ∧ ls 1 = some (xI v) ∧ ls 3 = some (xI L) ∧ ∃ p : Nat, ls 2 = some (xI p) ∧ (p : Int) ≤ L ∧ m = L.toNat - p ∧ M' = x_fl M a v p) 20 ?_ ?_
  · simp only [wq_g3, wq_gc, wq_g, wq_g1, wq_g2, eA_fill, iA_fill_0, iA_fill_5, iA_fill_20, vA_fill, wps, x_cnd, reduceIte, Nat.reduceAdd, Nat.reduceSub, Nat.reduceEqDiff, Nat.reduceLeDiff, Nat.lt_irrefl, Nat.reduceLT, Int.cast_ofNat_Int, wq_c0, wq_c1, true_and, and_true, and_self, true_implies, forall_const, ne_eq, Decidable.not_not, not_true_eq_false, not_false_eq_true, List.map_nil, List.map_cons, List.sum_nil, List.sum_cons, List.length_cons, List.length_nil, Nat.le_refl, Nat.zero_le, reduceCtorEq, true_or, or_true, false_or, or_false, false_and, and_false, false_implies, Nat.zero_add, Nat.add_zero, hk, hL']
    exact ⟨_, 0, rfl, by omega, rfl, (fl_0 M a v).symm⟩
  · rintro t m ls st M' h' c n ⟨rfl, rfl, rfl, rfl, rfl, l0, l1, l3, p, l2, q1, q2, rfl⟩
    simp only [wq_g3, wq_gc, wq_g, wq_g1, wq_g2, eA_fill, iA_fill_0, iA_fill_5, iA_fill_20, vA_fill, wps, x_cnd, reduceIte, Nat.reduceAdd, Nat.reduceSub, Nat.reduceEqDiff, Nat.reduceLeDiff, Nat.lt_irrefl, Nat.reduceLT, Int.cast_ofNat_Int, wq_c0, wq_c1, true_and, and_true, and_self, true_implies, forall_const, ne_eq, Decidable.not_not, not_true_eq_false, not_false_eq_true, List.map_nil, List.map_cons, List.sum_nil, List.sum_cons, List.length_cons, List.length_nil, Nat.le_refl, Nat.zero_le, reduceCtorEq, true_or, or_true, false_or, or_false, false_and, and_false, false_implies, Nat.zero_add, Nat.add_zero, l0, l1, l2, l3, hk, hL']
    refine ⟨fun c0 => ?_, fun c0 => ⟨by omega, L.toNat - (p + 1), by omega, p + 1, by rw [w32_of (by omega)]; rfl, by omega, rfl, fl_s M a v p⟩⟩
    rw [show (p : Int) = L by omega]
    exact k
theorem cS_placeOf (A : scA h b) {N : Nat} {x : Int} (h5 : M b 0 = N) (h6 : N ≤ 150) (k : Φ (.inl (some (xI (fi (M (b+1)) x N)))) M h) : x_Cal zS_placeOf [xA b, xI x] M h Φ := by
  refine x_metI kS_placeOf (Nat.le_of_ble_eq_true rfl) (fun t m ls st M' h' c n => t = 2 ∧ st = [] ∧ M' = M ∧ h' = h ∧ c = 0 ∧ n = 0 ∧ ls 0 = some (xA b) ∧ ls 1 = some (xI x) ∧ ∃ p : Nat, ls 2 = some (xI p) ∧ p ≤ N ∧ m = N - p ∧ fi (M (b+1)) x p = -1) 20 ?_ ?_
  · simp only [wq_g3, wq_gc, wq_g, wq_g1, wq_g2, eS_placeOf, iS_placeOf_0, iS_placeOf_2, iS_placeOf_22, iS_placeOf_28, vS_placeOf, wps, x_cnd, reduceIte, Nat.reduceAdd, Nat.reduceSub, Nat.reduceEqDiff, Nat.reduceLeDiff, Nat.lt_irrefl, Nat.reduceLT, Int.cast_ofNat_Int, wq_c0, wq_c1, true_and, and_true, and_self, true_implies, forall_const, ne_eq, Decidable.not_not, not_true_eq_false, not_false_eq_true, List.map_nil, List.map_cons, List.sum_nil, List.sum_cons, List.length_cons, List.length_nil, Nat.le_refl, Nat.zero_le, reduceCtorEq, true_or, or_true, false_or, or_false, false_and, and_false, false_implies, Nat.zero_add, Nat.add_zero]
    exact ⟨N, 0, rfl, by omega, by omega, rfl⟩
  · rintro t m ls st M' h' c n ⟨rfl, rfl, rfl, rfl, rfl, rfl, l0, l1, p, l2, q1, q2, q3⟩
    simp only [wq_g3, wq_gc, wq_g, wq_g1, wq_g2, eS_placeOf, iS_placeOf_0, iS_placeOf_2, iS_placeOf_22, iS_placeOf_28, vS_placeOf, wps, x_cnd, reduceIte, Nat.reduceAdd, Nat.reduceSub, Nat.reduceEqDiff, Nat.reduceLeDiff, Nat.lt_irrefl, Nat.reduceLT, Int.cast_ofNat_Int, wq_c0, wq_c1, true_and, and_true, and_self, true_implies, forall_const, ne_eq, Decidable.not_not, not_true_eq_false, not_false_eq_true, List.map_nil, List.map_cons, List.sum_nil, List.sum_cons, List.length_cons, List.length_nil, Nat.le_refl, Nat.zero_le, reduceCtorEq, true_or, or_true, false_or, or_false, false_and, and_false, false_implies, Nat.zero_add, Nat.add_zero, l0, l1, l2, scs A, h5]
    refine ⟨fun c0 => ?_, fun c0 => ⟨by omega, fun c1 => ⟨N - (p + 1), by omega, p + 1, by rw [w32_of (by omega)]; rfl, by omega, rfl, fi_step q3 c1⟩, fun c1 => ?_⟩⟩
    · have : p = N := by omega
      rw [this] at q3
      rw [q3] at k
      exact k
    · rw [fi_found (by omega) c1 q3] at k
      exact k
theorem cS_idAt (A : scA h b) {p : Int} (h5 : M b 0 ≤ 150) (k : Φ (.inl (some (xI (if 0 ≤ p ∧ p < M b 0 then M (b+1) p else -1)))) M h) : x_Cal zS_idAt [xA b, xI p] M h Φ := by
  refine x_met0 kS_idAt (Nat.le_of_ble_eq_true rfl) ?_
  simp only [wq_g3, wq_gc, wq_g, wq_g1, wq_g2, eS_idAt, iS_idAt_0, iS_idAt_21, iS_idAt_22, vS_idAt, wps, x_cnd, reduceIte, Nat.reduceAdd, Nat.reduceSub, Nat.reduceEqDiff, Nat.reduceLeDiff, Nat.lt_irrefl, Nat.reduceLT, Int.cast_ofNat_Int, wq_c0, wq_c1, true_and, and_true, and_self, true_implies, forall_const, ne_eq, Decidable.not_not, not_true_eq_false, not_false_eq_true, List.map_nil, List.map_cons, List.sum_nil, List.sum_cons, List.length_cons, List.length_nil, Nat.le_refl, Nat.zero_le, reduceCtorEq, true_or, or_true, false_or, or_false, false_and, and_false, false_implies, Nat.zero_add, Nat.add_zero, scs A]
  (repeat' (first | apply And.intro | intro _)) <;> first | omega | exact kr k (by split <;> omega)
theorem cS_contentAt (A : scA h b) {part p : Nat} (h5 : part < 6) (h6 : p < 150) (k : Φ (.inl (some (xI (M (b+6) ((part : Int) * 150 + p))))) M h) : x_Cal zS_contentAt [xA b, xI part, xI p] M h Φ := by
  refine x_met0 kS_contentAt (Nat.le_of_ble_eq_true rfl) ?_
  simp only [wq_g3, wq_gc, wq_g, wq_g1, wq_g2, eS_contentAt, iS_contentAt_0, vS_contentAt, wps, x_cnd, reduceIte, Nat.reduceAdd, Nat.reduceSub, Nat.reduceEqDiff, Nat.reduceLeDiff, Nat.lt_irrefl, Nat.reduceLT, Int.cast_ofNat_Int, wq_c0, wq_c1, true_and, and_true, and_self, true_implies, forall_const, ne_eq, Decidable.not_not, not_true_eq_false, not_false_eq_true, List.map_nil, List.map_cons, List.sum_nil, List.sum_cons, List.length_cons, List.length_nil, Nat.le_refl, Nat.zero_le, reduceCtorEq, true_or, or_true, false_or, or_false, false_and, and_false, false_implies, Nat.zero_add, Nat.add_zero, scs A]
  simp (disch := omega) only [w32_of]
  exact ⟨by omega, k⟩
theorem cS_putContent (A : scA h b) {part p : Nat} {v : Int} (h5 : part < 6) (h6 : p < 150) (k : Φ (.inl none) (x_w M (b+6) ((part : Int) * 150 + p) v) h) : x_Cal zS_putContent [xA b, xI part, xI p, xI v] M h Φ := by
  refine x_met0 kS_putContent (Nat.le_of_ble_eq_true rfl) ?_
  simp only [wq_g3, wq_gc, wq_g, wq_g1, wq_g2, eS_putContent, iS_putContent_0, vS_putContent, wps, x_cnd, reduceIte, Nat.reduceAdd, Nat.reduceSub, Nat.reduceEqDiff, Nat.reduceLeDiff, Nat.lt_irrefl, Nat.reduceLT, Int.cast_ofNat_Int, wq_c0, wq_c1, true_and, and_true, and_self, true_implies, forall_const, ne_eq, Decidable.not_not, not_true_eq_false, not_false_eq_true, List.map_nil, List.map_cons, List.sum_nil, List.sum_cons, List.length_cons, List.length_nil, Nat.le_refl, Nat.zero_le, reduceCtorEq, true_or, or_true, false_or, or_false, false_and, and_false, false_implies, Nat.zero_add, Nat.add_zero, scs A]
  simp (disch := omega) only [w32_of]
  exact ⟨by omega, k⟩
theorem cS_hasCut (A : scA h b) {c : Int} (k : Φ (.inl (some (xI (b01 (0 ≤ c ∧ c < 10 ∧ M (b+8) c ≠ -1))))) M h) : x_Cal zS_hasCut [xA b, xI c] M h Φ := by
  refine x_met0 kS_hasCut (Nat.le_of_ble_eq_true rfl) ?_
  simp only [wq_g3, wq_gc, wq_g, wq_g1, wq_g2, eS_hasCut, iS_hasCut_0, iS_hasCut_24, iS_hasCut_25, vS_hasCut, wps, x_cnd, reduceIte, Nat.reduceAdd, Nat.reduceSub, Nat.reduceEqDiff, Nat.reduceLeDiff, Nat.lt_irrefl, Nat.reduceLT, Int.cast_ofNat_Int, wq_c0, wq_c1, true_and, and_true, and_self, true_implies, forall_const, ne_eq, Decidable.not_not, not_true_eq_false, not_false_eq_true, List.map_nil, List.map_cons, List.sum_nil, List.sum_cons, List.length_cons, List.length_nil, Nat.le_refl, Nat.zero_le, reduceCtorEq, true_or, or_true, false_or, or_false, false_and, and_false, false_implies, Nat.zero_add, Nat.add_zero, scs A]
  (repeat' (first | apply And.intro | intro _)) <;> first | omega | exact kr k (by unfold b01; split <;> omega)
theorem cS_hasMark (A : scA h b) {c : Int} (k : Φ (.inl (some (xI (b01 (1 ≤ c ∧ c ≤ 40 ∧ M (b+7) c ≠ -1))))) M h) : x_Cal zS_hasMark [xA b, xI c] M h Φ := by
  refine x_met0 kS_hasMark (Nat.le_of_ble_eq_true rfl) ?_
  simp only [wq_g3, wq_gc, wq_g, wq_g1, wq_g2, eS_hasMark, iS_hasMark_0, iS_hasMark_25, iS_hasMark_26, vS_hasMark, wps, x_cnd, reduceIte, Nat.reduceAdd, Nat.reduceSub, Nat.reduceEqDiff, Nat.reduceLeDiff, Nat.lt_irrefl, Nat.reduceLT, Int.cast_ofNat_Int, wq_c0, wq_c1, true_and, and_true, and_self, true_implies, forall_const, ne_eq, Decidable.not_not, not_true_eq_false, not_false_eq_true, List.map_nil, List.map_cons, List.sum_nil, List.sum_cons, List.length_cons, List.length_nil, Nat.le_refl, Nat.zero_le, reduceCtorEq, true_or, or_true, false_or, or_false, false_and, and_false, false_implies, Nat.zero_add, Nat.add_zero, scs A]
  (repeat' (first | apply And.intro | intro _)) <;> first | omega | exact kr k (by unfold b01; split <;> omega)
theorem cS_setCut (A : scA h b) {c : Nat} {f l : Int} (h5 : c < 10) (k : Φ (.inl none) (x_w (x_w M (b+8) c f) (b+9) c l) h) : x_Cal zS_setCut [xA b, xI c, xI f, xI l] M h Φ := by
  refine x_met0 kS_setCut (Nat.le_of_ble_eq_true rfl) ?_
  simp only [wq_g3, wq_gc, wq_g, wq_g1, wq_g2, eS_setCut, iS_setCut_0, vS_setCut, wps, x_cnd, reduceIte, Nat.reduceAdd, Nat.reduceSub, Nat.reduceEqDiff, Nat.reduceLeDiff, Nat.lt_irrefl, Nat.reduceLT, Int.cast_ofNat_Int, wq_c0, wq_c1, true_and, and_true, and_self, true_implies, forall_const, ne_eq, Decidable.not_not, not_true_eq_false, not_false_eq_true, List.map_nil, List.map_cons, List.sum_nil, List.sum_cons, List.length_cons, List.length_nil, Nat.le_refl, Nat.zero_le, reduceCtorEq, true_or, or_true, false_or, or_false, false_and, and_false, false_implies, Nat.zero_add, Nat.add_zero, scs A]
  exact ⟨by omega, by omega, k⟩
theorem cS_firstFreeCut (A : scA h b) (k : Φ (.inl (some (xI (fi (M (b+8)) (-1) 10)))) M h) : x_Cal zS_firstFreeCut [xA b] M h Φ := by
  refine x_metI kS_firstFreeCut (Nat.le_of_ble_eq_true rfl) (fun t m ls st M' h' c n => t = 2 ∧ st = [] ∧ M' = M ∧ h' = h ∧ c = 0 ∧ n = 0 ∧ ls 0 = some (xA b) ∧ ∃ p : Nat, ls 1 = some (xI p) ∧ p ≤ 10 ∧ m = 10 - p ∧ fi (M (b+8)) (-1) p = -1) 20 ?_ ?_
  · simp only [wq_g3, wq_gc, wq_g, wq_g1, wq_g2, eS_firstFreeCut, iS_firstFreeCut_0, iS_firstFreeCut_2, iS_firstFreeCut_18, iS_firstFreeCut_24, vS_firstFreeCut, wps, x_cnd, reduceIte, Nat.reduceAdd, Nat.reduceSub, Nat.reduceEqDiff, Nat.reduceLeDiff, Nat.lt_irrefl, Nat.reduceLT, Int.cast_ofNat_Int, wq_c0, wq_c1, true_and, and_true, and_self, true_implies, forall_const, ne_eq, Decidable.not_not, not_true_eq_false, not_false_eq_true, List.map_nil, List.map_cons, List.sum_nil, List.sum_cons, List.length_cons, List.length_nil, Nat.le_refl, Nat.zero_le, reduceCtorEq, true_or, or_true, false_or, or_false, false_and, and_false, false_implies, Nat.zero_add, Nat.add_zero]
    exact ⟨10, 0, rfl, by omega, by omega, rfl⟩
  · rintro t m ls st M' h' c n ⟨rfl, rfl, rfl, rfl, rfl, rfl, l0, p, l2, q1, q2, q3⟩
    simp only [wq_g3, wq_gc, wq_g, wq_g1, wq_g2, eS_firstFreeCut, iS_firstFreeCut_0, iS_firstFreeCut_2, iS_firstFreeCut_18, iS_firstFreeCut_24, vS_firstFreeCut, wps, x_cnd, reduceIte, Nat.reduceAdd, Nat.reduceSub, Nat.reduceEqDiff, Nat.reduceLeDiff, Nat.lt_irrefl, Nat.reduceLT, Int.cast_ofNat_Int, wq_c0, wq_c1, true_and, and_true, and_self, true_implies, forall_const, ne_eq, Decidable.not_not, not_true_eq_false, not_false_eq_true, List.map_nil, List.map_cons, List.sum_nil, List.sum_cons, List.length_cons, List.length_nil, Nat.le_refl, Nat.zero_le, reduceCtorEq, true_or, or_true, false_or, or_false, false_and, and_false, false_implies, Nat.zero_add, Nat.add_zero, l0, l2, scs A]
    refine ⟨fun c0 => ?_, fun c0 => cS_hasCut A ?_⟩
    · rw [show p = 10 by omega] at q3
      rw [q3] at k
      exact k
    simp only [wq_g3, wq_gc, wq_g, wq_g1, wq_g2, eS_firstFreeCut, iS_firstFreeCut_0, iS_firstFreeCut_2, iS_firstFreeCut_18, iS_firstFreeCut_24, vS_firstFreeCut, wps, x_cnd, reduceIte, Nat.reduceAdd, Nat.reduceSub, Nat.reduceEqDiff, Nat.reduceLeDiff, Nat.lt_irrefl, Nat.reduceLT, Int.cast_ofNat_Int, wq_c0, wq_c1, true_and, and_true, and_self, true_implies, forall_const, ne_eq, Decidable.not_not, not_true_eq_false, not_false_eq_true, List.map_nil, List.map_cons, List.sum_nil, List.sum_cons, List.length_cons, List.length_nil, Nat.le_refl, Nat.zero_le, reduceCtorEq, true_or, or_true, false_or, or_false, false_and, and_false, false_implies, Nat.zero_add, Nat.add_zero, l0, l2, scs A, b01_0]
    refine ⟨fun c1 => ⟨10 - (p + 1), by omega, p + 1, by rw [w32_of (by omega)]; rfl, by omega, rfl, fi_step q3 (by omega)⟩, fun c1 => ?_⟩
    rw [fi_found (p := p) (by omega) (by omega) q3] at k
    exact k
theorem cS_isEndOfCut (A : scA h b) {x : Int} (k : Φ (.inl (some (xI (b01 (cn (fun c => M (b+8) c != -1 && (M (b+8) c == x || M (b+9) c == x)) 10 ≠ 0))))) M h) : x_Cal zS_isEndOfCut [xA b, xI x] M h Φ := by
  refine x_metI kS_isEndOfCut (Nat.le_of_ble_eq_true rfl) (fun t m ls st M' h' c n => t = 2 ∧ st = [] ∧ M' = M ∧ h' = h ∧ c = 0 ∧ n = 0 ∧ ls 0 = some (xA b) ∧ ls 1 = some (xI x) ∧ ∃ p : Nat, ls 2 = some (xI p) ∧ p ≤ 10 ∧ m = 10 - p ∧ cn (fun c => M (b+8) c != -1 && (M (b+8) c == x || M (b+9) c == x)) p = 0) 20 ?_ ?_
  · simp only [wq_g3, wq_gc, wq_g, wq_g1, wq_g2, eS_isEndOfCut, iS_isEndOfCut_0, iS_isEndOfCut_2, iS_isEndOfCut_36, iS_isEndOfCut_38, iS_isEndOfCut_44, vS_isEndOfCut, wps, x_cnd, reduceIte, Nat.reduceAdd, Nat.reduceSub, Nat.reduceEqDiff, Nat.reduceLeDiff, Nat.lt_irrefl, Nat.reduceLT, Int.cast_ofNat_Int, wq_c0, wq_c1, true_and, and_true, and_self, true_implies, forall_const, ne_eq, Decidable.not_not, not_true_eq_false, not_false_eq_true, List.map_nil, List.map_cons, List.sum_nil, List.sum_cons, List.length_cons, List.length_nil, Nat.le_refl, Nat.zero_le, reduceCtorEq, true_or, or_true, false_or, or_false, false_and, and_false, false_implies, Nat.zero_add, Nat.add_zero]
    exact ⟨10, 0, rfl, by omega, by omega, rfl⟩
  · rintro t m ls st M' h' c n ⟨rfl, rfl, rfl, rfl, rfl, rfl, l0, l1, p, l2, q1, q2, q3⟩
    simp only [wq_g3, wq_gc, wq_g, wq_g1, wq_g2, eS_isEndOfCut, iS_isEndOfCut_0, iS_isEndOfCut_2, iS_isEndOfCut_36, iS_isEndOfCut_38, iS_isEndOfCut_44, vS_isEndOfCut, wps, x_cnd, reduceIte, Nat.reduceAdd, Nat.reduceSub, Nat.reduceEqDiff, Nat.reduceLeDiff, Nat.lt_irrefl, Nat.reduceLT, Int.cast_ofNat_Int, wq_c0, wq_c1, true_and, and_true, and_self, true_implies, forall_const, ne_eq, Decidable.not_not, not_true_eq_false, not_false_eq_true, List.map_nil, List.map_cons, List.sum_nil, List.sum_cons, List.length_cons, List.length_nil, Nat.le_refl, Nat.zero_le, reduceCtorEq, true_or, or_true, false_or, or_false, false_and, and_false, false_implies, Nat.zero_add, Nat.add_zero, l0, l1, l2, scs A]
    refine ⟨fun c0 => ?_, fun c0 => cS_hasCut A ?_⟩
    · rw [show p = 10 by omega] at q3
      rw [b01_f (by omega)] at k
      exact k
    have hs : ∀ v, (M' (b+8) p != -1 && (M' (b+8) p == x || M' (b+9) p == x)) = v → v = true → Φ (.inl (some (xI 1))) M' h' := fun v hv ht => by
      have h1 := cn_lt (P := fun c => M' (b+8) c != -1 && (M' (b+8) c == x || M' (b+9) c == x)) (show p < 10 by omega) (hv.trans ht)
      have h2 := cn_rng (P := fun c => M' (b+8) c != -1 && (M' (b+8) c == x || M' (b+9) c == x)) (n := p)
      rw [b01_t (by omega)] at k
      exact k
    have hn' : (M' (b+8) p != -1 && (M' (b+8) p == x || M' (b+9) p == x)) = false → ∃ m2, m2 < m ∧ ∃ p_1 : Nat, some (xI (w32 (p + 1))) = some (xI p_1) ∧ p_1 ≤ 10 ∧ m2 = 10 - p_1 ∧ cn (fun c => M' (b+8) c != -1 && (M' (b+8) c == x || M' (b+9) c == x)) p_1 = 0 := fun hv => ⟨10 - (p + 1), by omega, p + 1, by rw [w32_of (by omega)]; rfl, by omega, rfl, by rw [cn_s0 hv]; exact q3⟩
    simp only [wq_g3, wq_gc, wq_g, wq_g1, wq_g2, eS_isEndOfCut, iS_isEndOfCut_0, iS_isEndOfCut_2, iS_isEndOfCut_36, iS_isEndOfCut_38, iS_isEndOfCut_44, vS_isEndOfCut, wps, x_cnd, reduceIte, Nat.reduceAdd, Nat.reduceSub, Nat.reduceEqDiff, Nat.reduceLeDiff, Nat.lt_irrefl, Nat.reduceLT, Int.cast_ofNat_Int, wq_c0, wq_c1, true_and, and_true, and_self, true_implies, forall_const, ne_eq, Decidable.not_not, not_true_eq_false, not_false_eq_true, List.map_nil, List.map_cons, List.sum_nil, List.sum_cons, List.length_cons, List.length_nil, Nat.le_refl, Nat.zero_le, reduceCtorEq, true_or, or_true, false_or, or_false, false_and, and_false, false_implies, Nat.zero_add, Nat.add_zero, l0, l1, l2, scs A, b01_0]
    refine ⟨fun c1 => hn' ?_, fun c1 => ⟨by omega, fun c2 => hs _ ?_ rfl, fun c2 => ⟨by omega, fun c3 => hn' ?_, fun c3 => hs _ ?_ rfl⟩⟩⟩
    · have e : M' (b+8) p = -1 := by omega
      simp [e]
    · have e : M' (b+8) p ≠ -1 := by omega
      have e2 : x ≠ -1 := by omega
      simp [e2, c2]
    · simp [c2, c3]
    · have e : M' (b+8) p ≠ -1 := by omega
      simp [e, c3]
theorem cS_setMark (A : scA h b) {l : Nat} {x : Int} (h1 : 1 ≤ l) (h2 : l ≤ 40) (h3 : 0 ≤ M b 2 ∧ M b 2 ≤ 1000) (k : Φ (.inl none) (x_w (x_w M (b+7) l x) b 2 (M b 2 + (b01 (x ≠ -1) - b01 (M (b+7) l ≠ -1)))) h) : x_Cal zS_setMark [xA b, xI l, xI x] M h Φ := by
  refine x_met0 kS_setMark (Nat.le_of_ble_eq_true rfl) ?_
  simp only [wq_g3, wq_gc, wq_g, wq_g1, wq_g2, eS_setMark, iS_setMark_0, iS_setMark_12, iS_setMark_13, iS_setMark_38, iS_setMark_39, vS_setMark, wps, x_cnd, reduceIte, Nat.reduceAdd, Nat.reduceSub, Nat.reduceEqDiff, Nat.reduceLeDiff, Nat.lt_irrefl, Nat.reduceLT, Int.cast_ofNat_Int, wq_c0, wq_c1, true_and, and_true, and_self, true_implies, forall_const, ne_eq, Decidable.not_not, not_true_eq_false, not_false_eq_true, List.map_nil, List.map_cons, List.sum_nil, List.sum_cons, List.length_cons, List.length_nil, Nat.le_refl, Nat.zero_le, reduceCtorEq, true_or, or_true, false_or, or_false, false_and, and_false, false_implies, Nat.zero_add, Nat.add_zero, scs A]
  have e2 : b01 (1 ≤ (l : Int) ∧ (l : Int) ≤ 40 ∧ M (b + 7) l ≠ -1) = b01 (M (b + 7) l ≠ -1) := b01_c (by omega)
  have e3 : b01 (1 ≤ (l : Int) ∧ (l : Int) ≤ 40 ∧ x_w M (b + 7) l x (b + 7) l ≠ -1) = b01 (x ≠ -1) := b01_c (by simp [x_w]; omega)
  have e4 : x_w M (b + 7) l x b 2 = M b 2 := by simp [x_w]
  refine cS_hasMark A ?_
  simp only [wq_g3, wq_gc, wq_g, wq_g1, wq_g2, eS_setMark, iS_setMark_0, iS_setMark_12, iS_setMark_13, iS_setMark_38, iS_setMark_39, vS_setMark, wps, x_cnd, reduceIte, Nat.reduceAdd, Nat.reduceSub, Nat.reduceEqDiff, Nat.reduceLeDiff, Nat.lt_irrefl, Nat.reduceLT, Int.cast_ofNat_Int, wq_c0, wq_c1, true_and, and_true, and_self, true_implies, forall_const, ne_eq, Decidable.not_not, not_true_eq_false, not_false_eq_true, List.map_nil, List.map_cons, List.sum_nil, List.sum_cons, List.length_cons, List.length_nil, Nat.le_refl, Nat.zero_le, reduceCtorEq, true_or, or_true, false_or, or_false, false_and, and_false, false_implies, Nat.zero_add, Nat.add_zero, scs A, e2, b01_0]
  refine ⟨fun c1 => ⟨by omega, cS_hasMark A ?_⟩, fun c1 => ⟨by omega, cS_hasMark A ?_⟩⟩
  · simp only [wq_g3, wq_gc, wq_g, wq_g1, wq_g2, eS_setMark, iS_setMark_0, iS_setMark_12, iS_setMark_13, iS_setMark_38, iS_setMark_39, vS_setMark, wps, x_cnd, reduceIte, Nat.reduceAdd, Nat.reduceSub, Nat.reduceEqDiff, Nat.reduceLeDiff, Nat.lt_irrefl, Nat.reduceLT, Int.cast_ofNat_Int, wq_c0, wq_c1, true_and, and_true, and_self, true_implies, forall_const, ne_eq, Decidable.not_not, not_true_eq_false, not_false_eq_true, List.map_nil, List.map_cons, List.sum_nil, List.sum_cons, List.length_cons, List.length_nil, Nat.le_refl, Nat.zero_le, reduceCtorEq, true_or, or_true, false_or, or_false, false_and, and_false, false_implies, Nat.zero_add, Nat.add_zero, scs A, e3, e4, b01_0]
    have f1 : b01 (M (b + 7) l ≠ -1) = 0 := b01_f (by simpa [b01_0] using c1)
    rw [f1] at k
    refine ⟨fun c2 => ?_, fun c2 => ?_⟩
    · rw [b01_f (fun q => q c2)] at k
      simp (disch := omega) only [w32_of]
      exact k
    · rw [b01_t c2] at k
      simp (disch := omega) only [w32_of]
      exact k
  · simp only [wq_g3, wq_gc, wq_g, wq_g1, wq_g2, eS_setMark, iS_setMark_0, iS_setMark_12, iS_setMark_13, iS_setMark_38, iS_setMark_39, vS_setMark, wps, x_cnd, reduceIte, Nat.reduceAdd, Nat.reduceSub, Nat.reduceEqDiff, Nat.reduceLeDiff, Nat.lt_irrefl, Nat.reduceLT, Int.cast_ofNat_Int, wq_c0, wq_c1, true_and, and_true, and_self, true_implies, forall_const, ne_eq, Decidable.not_not, not_true_eq_false, not_false_eq_true, List.map_nil, List.map_cons, List.sum_nil, List.sum_cons, List.length_cons, List.length_nil, Nat.le_refl, Nat.zero_le, reduceCtorEq, true_or, or_true, false_or, or_false, false_and, and_false, false_implies, Nat.zero_add, Nat.add_zero, scs A, e3, e4, b01_0]
    have f1 : b01 (M (b + 7) l ≠ -1) = 1 := b01_t (by simpa [b01_0] using c1)
    rw [f1] at k
    refine ⟨fun c2 => ?_, fun c2 => ?_⟩
    · rw [b01_f (fun q => q c2)] at k
      simp (disch := omega) only [w32_of]
      exact k
    · rw [b01_t c2] at k
      simp (disch := omega) only [w32_of]
      exact k
theorem cS_clear (A : scA h b) (k : ∀ h', (∀ a i, hP h' a i = if a = b + 10 ∧ 0 ≤ i ∧ i < 6 then 0 else hP h a i) → h'.2 = h.2 → Φ (.inl none) (x_fl (x_fl (x_fl (x_w (x_w (x_w M b 0 0) b 1 0) b 2 0) (b+7) (-1) 41) (b+8) (-1) 10) (b+9) (-1) 10) h') : x_Cal zS_clear [xA b] M h Φ := by
  refine x_metI kS_clear (Nat.le_of_ble_eq_true rfl) (fun t m ls st M' h' c n => t = 41 ∧ st = [] ∧ c = 0 ∧ n = 0 ∧ ls 0 = some (xA b) ∧ M' = x_fl (x_fl (x_fl (x_w (x_w (x_w M b 0 0) b 1 0) b 2 0) (b+7) (-1) 41) (b+8) (-1) 10) (b+9) (-1) 10 ∧ ∃ p : Nat, ls 1 = some (xI p) ∧ p ≤ 6 ∧ m = 6 - p ∧ h'.2 = h.2 ∧ (∀ a i, hP h' a i = if a = b + 10 ∧ 0 ≤ i ∧ i < p then 0 else hP h a i)) 20 ?_ ?_
  · simp only [wq_g3, wq_gc, wq_g, wq_g1, wq_g2, eS_clear, iS_clear_0, iS_clear_41, iS_clear_60, vS_clear, wps, x_cnd, reduceIte, Nat.reduceAdd, Nat.reduceSub, Nat.reduceEqDiff, Nat.reduceLeDiff, Nat.lt_irrefl, Nat.reduceLT, Int.cast_ofNat_Int, wq_c0, wq_c1, true_and, and_true, and_self, true_implies, forall_const, ne_eq, Decidable.not_not, not_true_eq_false, not_false_eq_true, List.map_nil, List.map_cons, List.sum_nil, List.sum_cons, List.length_cons, List.length_nil, Nat.le_refl, Nat.zero_le, reduceCtorEq, true_or, or_true, false_or, or_false, false_and, and_false, false_implies, Nat.zero_add, Nat.add_zero, scs A]
    refine cA_fill (L := 41) (by simp only [scs A]) (by simp only [scs A]) (by omega) ?_
    simp only [wq_g3, wq_gc, wq_g, wq_g1, wq_g2, eS_clear, iS_clear_0, iS_clear_41, iS_clear_60, vS_clear, wps, x_cnd, reduceIte, Nat.reduceAdd, Nat.reduceSub, Nat.reduceEqDiff, Nat.reduceLeDiff, Nat.lt_irrefl, Nat.reduceLT, Int.cast_ofNat_Int, wq_c0, wq_c1, true_and, and_true, and_self, true_implies, forall_const, ne_eq, Decidable.not_not, not_true_eq_false, not_false_eq_true, List.map_nil, List.map_cons, List.sum_nil, List.sum_cons, List.length_cons, List.length_nil, Nat.le_refl, Nat.zero_le, reduceCtorEq, true_or, or_true, false_or, or_false, false_and, and_false, false_implies, Nat.zero_add, Nat.add_zero, scs A]
    refine cA_fill (L := 10) (by simp only [scs A]) (by simp only [scs A]) (by omega) ?_
    simp only [wq_g3, wq_gc, wq_g, wq_g1, wq_g2, eS_clear, iS_clear_0, iS_clear_41, iS_clear_60, vS_clear, wps, x_cnd, reduceIte, Nat.reduceAdd, Nat.reduceSub, Nat.reduceEqDiff, Nat.reduceLeDiff, Nat.lt_irrefl, Nat.reduceLT, Int.cast_ofNat_Int, wq_c0, wq_c1, true_and, and_true, and_self, true_implies, forall_const, ne_eq, Decidable.not_not, not_true_eq_false, not_false_eq_true, List.map_nil, List.map_cons, List.sum_nil, List.sum_cons, List.length_cons, List.length_nil, Nat.le_refl, Nat.zero_le, reduceCtorEq, true_or, or_true, false_or, or_false, false_and, and_false, false_implies, Nat.zero_add, Nat.add_zero, scs A]
    refine cA_fill (L := 10) (by simp only [scs A]) (by simp only [scs A]) (by omega) ?_
    simp only [wq_g3, wq_gc, wq_g, wq_g1, wq_g2, eS_clear, iS_clear_0, iS_clear_41, iS_clear_60, vS_clear, wps, x_cnd, reduceIte, Nat.reduceAdd, Nat.reduceSub, Nat.reduceEqDiff, Nat.reduceLeDiff, Nat.lt_irrefl, Nat.reduceLT, Int.cast_ofNat_Int, wq_c0, wq_c1, true_and, and_true, and_self, true_implies, forall_const, ne_eq, Decidable.not_not, not_true_eq_false, not_false_eq_true, List.map_nil, List.map_cons, List.sum_nil, List.sum_cons, List.length_cons, List.length_nil, Nat.le_refl, Nat.zero_le, reduceCtorEq, true_or, or_true, false_or, or_false, false_and, and_false, false_implies, Nat.zero_add, Nat.add_zero, scs A]
    exact ⟨6, 0, rfl, by omega, rfl, fun a i => by rw [if_neg (by omega)]⟩
  · rintro t m ls st M' h' c n ⟨rfl, rfl, rfl, rfl, l0, rfl, p, l2, q1, q2, q3, q4⟩
    obtain ⟨e1, e2, e3⟩ := h2_k q3
    have A1 : hP h' b 12 = b + 10 := by
      rw [q4, if_neg (by omega)]
      simp only [scs A]
    simp only [wq_g3, wq_gc, wq_g, wq_g1, wq_g2, eS_clear, iS_clear_0, iS_clear_41, iS_clear_60, vS_clear, wps, x_cnd, reduceIte, Nat.reduceAdd, Nat.reduceSub, Nat.reduceEqDiff, Nat.reduceLeDiff, Nat.lt_irrefl, Nat.reduceLT, Int.cast_ofNat_Int, wq_c0, wq_c1, true_and, and_true, and_self, true_implies, forall_const, ne_eq, Decidable.not_not, not_true_eq_false, not_false_eq_true, List.map_nil, List.map_cons, List.sum_nil, List.sum_cons, List.length_cons, List.length_nil, Nat.le_refl, Nat.zero_le, reduceCtorEq, true_or, or_true, false_or, or_false, false_and, and_false, false_implies, Nat.zero_add, Nat.add_zero, l0, l2, e1, e2, A1, scs A]
    refine ⟨fun c0 => ?_, fun c0 => ⟨by omega, 6 - (p + 1), by omega, p + 1, by rw [w32_of (by omega)]; rfl, by omega, rfl, q3, fun a i => ?_⟩⟩
    · rw [show p = 6 by omega] at q4
      exact k h' q4 q3
    · rw [hP_pw, q4]
      split
      · rw [if_pos (by omega)]
      · split
        · rw [if_pos (by omega)]
        · rw [if_neg (by omega)]
/-- the memory when c places from s are moved to t -/
def mvM (M : xM) (b : Nat) (s t c : Int) : xM := fun a j => if b + 1 ≤ a ∧ a ≤ b + 5 ∧ t ≤ j ∧ j < t + c then M a (j + (s - t)) else if a = b + 6 ∧ 0 ≤ j ∧ j < 900 ∧ t ≤ j % 150 ∧ j % 150 < t + c then M a (j + (s - t)) else M a j
def mvk (M : xM) (b : Nat) (s t c q : Int) : xM := fun a j => if b + 1 ≤ a ∧ a ≤ b + 5 ∧ t ≤ j ∧ j < t + c then M a (j + (s - t)) else if a = b + 6 ∧ 0 ≤ j ∧ j < 900 ∧ t ≤ j % 150 ∧ j % 150 < t + c ∧ j < q * 150 then M a (j + (s - t)) else M a j
theorem mv_0 (M : xM) (b : Nat) (s t c : Int) : x_cp (x_cp (x_cp (x_cp (x_cp M (b+1) s (b+1) t c) (b+2) s (b+2) t c) (b+3) s (b+3) t c) (b+4) s (b+4) t c) (b+5) s (b+5) t c = mvk M b s t c 0 := by
  funext a j
  have e : s + (j - t) = j + (s - t) := by omega
  unfold mvk
  simp only [x_cp, e]
  by_cases h5 : a = b + 5
  · subst h5; simp
  by_cases h4 : a = b + 4
  · subst h4; simp
  by_cases h3 : a = b + 3
  · subst h3; simp
  by_cases h2 : a = b + 2
  · subst h2; simp
  by_cases h1 : a = b + 1
  · subst h1; simp
  rw [if_neg (by omega), if_neg (by omega), if_neg (by omega), if_neg (by omega), if_neg (by omega), if_neg (by omega), if_neg (by omega)]
theorem mv_6 (M : xM) (b : Nat) (s t c : Int) : mvk M b s t c 6 = mvM M b s t c := by
  funext a j
  unfold mvk mvM
  split
  · rfl
  · split
    · rw [if_pos (by omega)]
    · rw [if_neg (by omega)]
theorem mv_s (M : xM) (b : Nat) (s t c q : Int) (h1 : 0 ≤ q ∧ q ≤ 5) (h2 : 0 ≤ s) (h3 : 0 ≤ t) (h4 : t + c ≤ 150) (h5 : s + c ≤ 150) : x_cp (mvk M b s t c q) (b + 6) (q * 150 + s) (b + 6) (q * 150 + t) c = mvk M b s t c (q + 1) := by
  funext a j
  unfold x_cp
  by_cases h : a = b + 6 ∧ q * 150 + t ≤ j ∧ j < q * 150 + t + c
  · rw [if_pos h, h.1]
    unfold mvk
    rw [if_neg (by omega), if_neg (by omega), if_neg (by omega), if_pos (by omega)]
    congr 1
    omega
  · rw [if_neg h]
    unfold mvk
    split
    · rfl
    · split
      · rw [if_pos (by omega)]
      · rw [if_neg (by omega)]
theorem cS_moveBars (A : scA h b) {s t N : Nat} (h5 : M b 0 = N) (h6 : N ≤ 150) (hs : s ≤ 150) (ht : t ≤ 150) (h7 : t + (N - s) ≤ 150) (k : Φ (.inl none) (mvM M b s t ((N - s : Nat) : Int)) h) : x_Cal zS_moveBars [xA b, xI s, xI t] M h Φ := by
  refine x_metI kS_moveBars (Nat.le_of_ble_eq_true rfl) (fun pc m ls st M' h' c n => pc = 85 ∧ st = [] ∧ h' = h ∧ c = 0 ∧ n = 0 ∧ s < N ∧ ls 0 = some (xA b) ∧ ls 1 = some (xI s) ∧ ls 2 = some (xI t) ∧ ls 3 = some (xI ((N - s : Nat) : Int)) ∧ ∃ q : Nat, ls 4 = some (xI q) ∧ q ≤ 6 ∧ m = 6 - q ∧ M' = mvk M b s t ((N - s : Nat) : Int) q) 20 ?_ ?_
  · simp only [wq_g3, wq_gc, wq_g, wq_g1, wq_g2, eS_moveBars, iS_moveBars_0, iS_moveBars_12, iS_moveBars_85, iS_moveBars_126, vS_moveBars, wps, x_cnd, reduceIte, Nat.reduceAdd, Nat.reduceSub, Nat.reduceEqDiff, Nat.reduceLeDiff, Nat.lt_irrefl, Nat.reduceLT, Int.cast_ofNat_Int, wq_c0, wq_c1, true_and, and_true, and_self, true_implies, forall_const, ne_eq, Decidable.not_not, not_true_eq_false, not_false_eq_true, List.map_nil, List.map_cons, List.sum_nil, List.sum_cons, List.length_cons, List.length_nil, Nat.le_refl, Nat.zero_le, reduceCtorEq, true_or, or_true, false_or, or_false, false_and, and_false, false_implies, Nat.zero_add, Nat.add_zero, scs A, h5]
    simp (disch := omega) only [w32_of]
    refine ⟨fun c0 => ?_, fun c0 => ?_⟩
    · refine ⟨by omega, by omega, by omega, by omega, by omega, 6, by omega, by rw [show ((N - s : Nat) : Int) = N - s by omega], 0, rfl, by omega, rfl, ?_⟩
      rw [show ((N - s : Nat) : Int) = N - s by omega]
      exact mv_0 ..
    · have e : mvM M b s t ((N - s : Nat) : Int) = M := by
        funext a j
        unfold mvM
        rw [if_neg (by omega), if_neg (by omega)]
      rw [e] at k
      exact k
  · rintro pc m ls st M' h' c n ⟨rfl, rfl, rfl, rfl, rfl, hsN, l0, l1, l2, l3, q, l4, q1, q2, rfl⟩
    simp only [wq_g3, wq_gc, wq_g, wq_g1, wq_g2, eS_moveBars, iS_moveBars_0, iS_moveBars_12, iS_moveBars_85, iS_moveBars_126, vS_moveBars, wps, x_cnd, reduceIte, Nat.reduceAdd, Nat.reduceSub, Nat.reduceEqDiff, Nat.reduceLeDiff, Nat.lt_irrefl, Nat.reduceLT, Int.cast_ofNat_Int, wq_c0, wq_c1, true_and, and_true, and_self, true_implies, forall_const, ne_eq, Decidable.not_not, not_true_eq_false, not_false_eq_true, List.map_nil, List.map_cons, List.sum_nil, List.sum_cons, List.length_cons, List.length_nil, Nat.le_refl, Nat.zero_le, reduceCtorEq, true_or, or_true, false_or, or_false, false_and, and_false, false_implies, Nat.zero_add, Nat.add_zero, l0, l1, l2, l3, l4, scs A]
    refine ⟨fun c0 => ?_, fun c0 => ?_⟩
    · rw [show (q : Int) = 6 by omega, mv_6] 
      exact k
    · simp (disch := omega) only [w32_of]
      refine ⟨by omega, 6 - (q + 1), by omega, hsN, q + 1, rfl, by omega, rfl, ?_⟩
      rw [mv_s _ _ _ _ _ _ (by omega) (by omega) (by omega) (by omega) (by omega)]
      rfl
end SCM
