/-! the questions of ScoreParts -/
section ASK
variable {A : xAb} {M : xM} {h : xH} {Φ : xO → xM → xH → Prop}
set_option maxHeartbeats 1000000
theorem cP_bars (C : CW A M h) (k : Φ (.inl (some (xI (sN (aS A))))) M h) : x_Cal zP_bars [xA 1] M h Φ := by
  refine x_met0 kP_bars (Nat.le_of_ble_eq_true rfl) ?_
  simp only [wq_g3, wq_gc, wq_g, wq_g1, wq_g2, eP_bars, iP_bars_0, vP_bars, wps, x_cnd, reduceIte, Nat.reduceAdd, Nat.reduceSub, Nat.reduceEqDiff, Nat.reduceLeDiff, Nat.lt_irrefl, Nat.reduceLT, Int.cast_ofNat_Int, wq_c0, wq_c1, true_and, and_true, and_self, true_implies, forall_const, ne_eq, Decidable.not_not, not_true_eq_false, not_false_eq_true, List.map_nil, List.map_cons, List.sum_nil, List.sum_cons, List.length_cons, List.length_nil, Nat.le_refl, Nat.zero_le, reduceCtorEq, true_or, or_true, false_or, or_false, false_and, and_false, false_implies, Nat.zero_add, Nat.add_zero, Int.reduceEq, Int.reduceNe, Int.reduceLT, Int.reduceLE, Int.reduceNeg, Int.reduceToNat, Nat.not_lt_zero, Int.reduceAdd, fxs C.F, C.R.n]
  exact k
theorem cP_marks (C : CW A M h) (k : Φ (.inl (some (xI (mkN (aS A))))) M h) : x_Cal zP_marks [xA 1] M h Φ := by
  refine x_met0 kP_marks (Nat.le_of_ble_eq_true rfl) ?_
  simp only [wq_g3, wq_gc, wq_g, wq_g1, wq_g2, eP_marks, iP_marks_0, vP_marks, wps, x_cnd, reduceIte, Nat.reduceAdd, Nat.reduceSub, Nat.reduceEqDiff, Nat.reduceLeDiff, Nat.lt_irrefl, Nat.reduceLT, Int.cast_ofNat_Int, wq_c0, wq_c1, true_and, and_true, and_self, true_implies, forall_const, ne_eq, Decidable.not_not, not_true_eq_false, not_false_eq_true, List.map_nil, List.map_cons, List.sum_nil, List.sum_cons, List.length_cons, List.length_nil, Nat.le_refl, Nat.zero_le, reduceCtorEq, true_or, or_true, false_or, or_false, false_and, and_false, false_implies, Nat.zero_add, Nat.add_zero, Int.reduceEq, Int.reduceNe, Int.reduceLT, Int.reduceLE, Int.reduceNeg, Int.reduceToNat, Nat.not_lt_zero, Int.reduceAdd, fxs C.F, C.R.m]
  exact k
theorem cP_parts (C : CW A M h) (k : Φ (.inl (some (xI (sP (aS A))))) M h) : x_Cal zP_parts [xA 1] M h Φ := by
  refine x_met0 kP_parts (Nat.le_of_ble_eq_true rfl) ?_
  simp only [wq_g3, wq_gc, wq_g, wq_g1, wq_g2, eP_parts, iP_parts_0, vP_parts, wps, x_cnd, reduceIte, Nat.reduceAdd, Nat.reduceSub, Nat.reduceEqDiff, Nat.reduceLeDiff, Nat.lt_irrefl, Nat.reduceLT, Int.cast_ofNat_Int, wq_c0, wq_c1, true_and, and_true, and_self, true_implies, forall_const, ne_eq, Decidable.not_not, not_true_eq_false, not_false_eq_true, List.map_nil, List.map_cons, List.sum_nil, List.sum_cons, List.length_cons, List.length_nil, Nat.le_refl, Nat.zero_le, reduceCtorEq, true_or, or_true, false_or, or_false, false_and, and_false, false_implies, Nat.zero_add, Nat.add_zero, Int.reduceEq, Int.reduceNe, Int.reduceLT, Int.reduceLE, Int.reduceNeg, Int.reduceToNat, Nat.not_lt_zero, Int.reduceAdd, fxs C.F, C.R.p]
  exact k
theorem cP_played (C : CW A M h) (k : Φ (.inl (some (xI (pN (aS A))))) M h) : x_Cal zP_played [xA 1] M h Φ := by
  refine x_met0 kP_played (Nat.le_of_ble_eq_true rfl) ?_
  simp only [wq_g3, wq_gc, wq_g, wq_g1, wq_g2, eP_played, iP_played_0, vP_played, wps, x_cnd, reduceIte, Nat.reduceAdd, Nat.reduceSub, Nat.reduceEqDiff, Nat.reduceLeDiff, Nat.lt_irrefl, Nat.reduceLT, Int.cast_ofNat_Int, wq_c0, wq_c1, true_and, and_true, and_self, true_implies, forall_const, ne_eq, Decidable.not_not, not_true_eq_false, not_false_eq_true, List.map_nil, List.map_cons, List.sum_nil, List.sum_cons, List.length_cons, List.length_nil, Nat.le_refl, Nat.zero_le, reduceCtorEq, true_or, or_true, false_or, or_false, false_and, and_false, false_implies, Nat.zero_add, Nat.add_zero, Int.reduceEq, Int.reduceNe, Int.reduceLT, Int.reduceLE, Int.reduceNeg, Int.reduceToNat, Nat.not_lt_zero, Int.reduceAdd, fxs C.F, C.V.n]
  exact k
theorem cP_undoCount (C : CW A M h) (k : Φ (.inl (some (xI (aH A)))) M h) : x_Cal zP_undoCount [xA 1] M h Φ := by
  refine x_met0 kP_undoCount (Nat.le_of_ble_eq_true rfl) ?_
  simp only [wq_g3, wq_gc, wq_g, wq_g1, wq_g2, eP_undoCount, iP_undoCount_0, vP_undoCount, wps, x_cnd, reduceIte, Nat.reduceAdd, Nat.reduceSub, Nat.reduceEqDiff, Nat.reduceLeDiff, Nat.lt_irrefl, Nat.reduceLT, Int.cast_ofNat_Int, wq_c0, wq_c1, true_and, and_true, and_self, true_implies, forall_const, ne_eq, Decidable.not_not, not_true_eq_false, not_false_eq_true, List.map_nil, List.map_cons, List.sum_nil, List.sum_cons, List.length_cons, List.length_nil, Nat.le_refl, Nat.zero_le, reduceCtorEq, true_or, or_true, false_or, or_false, false_and, and_false, false_implies, Nat.zero_add, Nat.add_zero, Int.reduceEq, Int.reduceNe, Int.reduceLT, Int.reduceLE, Int.reduceNeg, Int.reduceToNat, Nat.not_lt_zero, Int.reduceAdd, fxs C.F, C.H.1.1]
  exact k
theorem cP_beats (C : CW A M h) (k : Φ (.inl (some (xI (bts (aS A) 0 (pN (aS A)).toNat)))) M h) : x_Cal zP_beats [xA 1] M h Φ := by
  have hpn := pN_rng (S := aS A)
  obtain ⟨n, hn⟩ : ∃ n : Nat, pN (aS A) = n := ⟨(pN (aS A)).toNat, by omega⟩
  have e : M 16 1 = n := C.V.n.trans hn
  refine x_met0 kP_beats (Nat.le_of_ble_eq_true rfl) ?_
  simp only [wq_g3, wq_gc, wq_g, wq_g1, wq_g2, eP_beats, iP_beats_0, vP_beats, wps, x_cnd, reduceIte, Nat.reduceAdd, Nat.reduceSub, Nat.reduceEqDiff, Nat.reduceLeDiff, Nat.lt_irrefl, Nat.reduceLT, Int.cast_ofNat_Int, wq_c0, wq_c1, true_and, and_true, and_self, true_implies, forall_const, ne_eq, Decidable.not_not, not_true_eq_false, not_false_eq_true, List.map_nil, List.map_cons, List.sum_nil, List.sum_cons, List.length_cons, List.length_nil, Nat.le_refl, Nat.zero_le, reduceCtorEq, true_or, or_true, false_or, or_false, false_and, and_false, false_implies, Nat.zero_add, Nat.add_zero, Int.reduceEq, Int.reduceNe, Int.reduceLT, Int.reduceLE, Int.reduceNeg, Int.reduceToNat, Nat.not_lt_zero, Int.reduceAdd, fxs C.F, e]
  refine cV_sumBeats (a := 0) (b := n) C.F C.R C.w C.V (by omega) (by omega) ?_
  simp only [wq_g3, wq_gc, wq_g, wq_g1, wq_g2, eP_beats, iP_beats_0, vP_beats, wps, x_cnd, reduceIte, Nat.reduceAdd, Nat.reduceSub, Nat.reduceEqDiff, Nat.reduceLeDiff, Nat.lt_irrefl, Nat.reduceLT, Int.cast_ofNat_Int, wq_c0, wq_c1, true_and, and_true, and_self, true_implies, forall_const, ne_eq, Decidable.not_not, not_true_eq_false, not_false_eq_true, List.map_nil, List.map_cons, List.sum_nil, List.sum_cons, List.length_cons, List.length_nil, Nat.le_refl, Nat.zero_le, reduceCtorEq, true_or, or_true, false_or, or_false, false_and, and_false, false_implies, Nat.zero_add, Nat.add_zero, Int.reduceEq, Int.reduceNe, Int.reduceLT, Int.reduceLE, Int.reduceNeg, Int.reduceToNat, Nat.not_lt_zero, Int.reduceAdd]
  rw [hn] at k
  exact k
theorem cP_barAt (C : CW A M h) {p : Int} (k : Φ (xo (anBarAt (aS A) p)) M h) : x_Cal zP_barAt [xA 1, xI p] M h Φ := by
  have hN := C.w.N
  have e : M 17 0 = sN (aS A) := C.R.n
  refine x_met0 kP_barAt (Nat.le_of_ble_eq_true rfl) ?_
  simp only [wq_g3, wq_gc, wq_g, wq_g1, wq_g2, eP_barAt, iP_barAt_0, iP_barAt_15, iP_barAt_23, vP_barAt, wps, x_cnd, reduceIte, Nat.reduceAdd, Nat.reduceSub, Nat.reduceEqDiff, Nat.reduceLeDiff, Nat.lt_irrefl, Nat.reduceLT, Int.cast_ofNat_Int, wq_c0, wq_c1, true_and, and_true, and_self, true_implies, forall_const, ne_eq, Decidable.not_not, not_true_eq_false, not_false_eq_true, List.map_nil, List.map_cons, List.sum_nil, List.sum_cons, List.length_cons, List.length_nil, Nat.le_refl, Nat.zero_le, reduceCtorEq, true_or, or_true, false_or, or_false, false_and, and_false, false_implies, Nat.zero_add, Nat.add_zero, Int.reduceEq, Int.reduceNe, Int.reduceLT, Int.reduceLE, Int.reduceNeg, Int.reduceToNat, Nat.not_lt_zero, Int.reduceAdd, fxs C.F, e]
  unfold anBarAt at k
  refine ⟨fun c0 => ke k (by rw [if_neg (by omega)]), fun c0 => ⟨fun c1 => ⟨by omega, ?_⟩, fun c1 => ke k (by rw [if_neg (by omega)])⟩⟩
  obtain ⟨n, hn⟩ : ∃ n : Nat, p = n := ⟨p.toNat, by omega⟩
  subst hn
  have e2 : M 18 n = sI (aS A) n := C.R.id (by omega)
  rw [e2]
  exact kv k (by rw [if_pos (by omega)])
theorem cP_bar (C : CW A M h) {b w : Int} (k : Φ (xo (anBar (aS A) b w)) M h) : x_Cal zP_bar [xA 1, xI b, xI w] M h Φ := by
  have hN := C.w.N
  refine x_met0 kP_bar (Nat.le_of_ble_eq_true rfl) ?_
  simp only [wq_g3, wq_gc, wq_g, wq_g1, wq_g2, eP_bar, iP_bar_0, iP_bar_56, iP_bar_58, iP_bar_68, iP_bar_78, iP_bar_88, iP_bar_98, iP_bar_108, iP_bar_123, iP_bar_124, iP_bar_125, iP_bar_135, iP_bar_145, vP_bar, wps, x_cnd, reduceIte, Nat.reduceAdd, Nat.reduceSub, Nat.reduceEqDiff, Nat.reduceLeDiff, Nat.lt_irrefl, Nat.reduceLT, Int.cast_ofNat_Int, wq_c0, wq_c1, true_and, and_true, and_self, true_implies, forall_const, ne_eq, Decidable.not_not, not_true_eq_false, not_false_eq_true, List.map_nil, List.map_cons, List.sum_nil, List.sum_cons, List.length_cons, List.length_nil, Nat.le_refl, Nat.zero_le, reduceCtorEq, true_or, or_true, false_or, or_false, false_and, and_false, false_implies, Nat.zero_add, Nat.add_zero, Int.reduceEq, Int.reduceNe, Int.reduceLT, Int.reduceLE, Int.reduceNeg, Int.reduceToNat, Nat.not_lt_zero, Int.reduceAdd, fxs C.F]
  unfold anBar at k
  refine cP_requirePlace C (fun c0 => ?_) (fun p p1 p2 p3 => ?_)
  · simp only [wq_g3, wq_gc, wq_g, wq_g1, wq_g2, eP_bar, iP_bar_0, iP_bar_56, iP_bar_58, iP_bar_68, iP_bar_78, iP_bar_88, iP_bar_98, iP_bar_108, iP_bar_123, iP_bar_124, iP_bar_125, iP_bar_135, iP_bar_145, vP_bar, wps, x_cnd, reduceIte, Nat.reduceAdd, Nat.reduceSub, Nat.reduceEqDiff, Nat.reduceLeDiff, Nat.lt_irrefl, Nat.reduceLT, Int.cast_ofNat_Int, wq_c0, wq_c1, true_and, and_true, and_self, true_implies, forall_const, ne_eq, Decidable.not_not, not_true_eq_false, not_false_eq_true, List.map_nil, List.map_cons, List.sum_nil, List.sum_cons, List.length_cons, List.length_nil, Nat.le_refl, Nat.zero_le, reduceCtorEq, true_or, or_true, false_or, or_false, false_and, and_false, false_implies, Nat.zero_add, Nat.add_zero, Int.reduceEq, Int.reduceNe, Int.reduceLT, Int.reduceLE, Int.reduceNeg, Int.reduceToNat, Nat.not_lt_zero, Int.reduceAdd, fxs C.F]
    exact ke k (by rw [if_pos c0])
  have e1 := C.V.lab p1
  have e2 : M 19 p = sB (aS A) p := C.R.bt p1
  have e3 : M 20 p = sX (aS A) p := C.R.x p1
  have e4 : M 21 p = sT (aS A) p := C.R.t p1
  have e5 : M 22 p = sD (aS A) p := C.R.d p1
  have e7 := C.V.lt p1
  have e8 := C.V.sit p1
  rw [if_neg (by omega), p2] at k
  simp only [wq_g3, wq_gc, wq_g, wq_g1, wq_g2, eP_bar, iP_bar_0, iP_bar_56, iP_bar_58, iP_bar_68, iP_bar_78, iP_bar_88, iP_bar_98, iP_bar_108, iP_bar_123, iP_bar_124, iP_bar_125, iP_bar_135, iP_bar_145, vP_bar, wps, x_cnd, reduceIte, Nat.reduceAdd, Nat.reduceSub, Nat.reduceEqDiff, Nat.reduceLeDiff, Nat.lt_irrefl, Nat.reduceLT, Int.cast_ofNat_Int, wq_c0, wq_c1, true_and, and_true, and_self, true_implies, forall_const, ne_eq, Decidable.not_not, not_true_eq_false, not_false_eq_true, List.map_nil, List.map_cons, List.sum_nil, List.sum_cons, List.length_cons, List.length_nil, Nat.le_refl, Nat.zero_le, reduceCtorEq, true_or, or_true, false_or, or_false, false_and, and_false, false_implies, Nat.zero_add, Nat.add_zero, Int.reduceEq, Int.reduceNe, Int.reduceLT, Int.reduceLE, Int.reduceNeg, Int.reduceToNat, Nat.not_lt_zero, Int.reduceAdd, fxs C.F, e1, e2, e3, e4, e5, e7, e8]
  refine ⟨fun c => ?_, fun c => ⟨by omega, ?_⟩, fun c => ⟨by omega, ?_⟩, fun c => ⟨by omega, ?_⟩, fun c => ⟨by omega, ?_⟩, fun c => ⟨by omega, ?_⟩, fun c => ?_, fun c => ⟨by omega, ?_⟩, fun c => ⟨by omega, ?_⟩, fun c => ?_⟩
  · exact kv k (by rw [if_pos c])
  · exact kv k (by subst c; rfl)
  · exact kv k (by subst c; rfl)
  · exact kv k (by subst c; rfl)
  · exact kv k (by subst c; rfl)
  · exact kv k (by subst c; rfl)
  · subst c
    refine cV_isPlayed C.F C.w C.V p1 ?_
    simp only [wq_g3, wq_gc, wq_g, wq_g1, wq_g2, eP_bar, iP_bar_0, iP_bar_56, iP_bar_58, iP_bar_68, iP_bar_78, iP_bar_88, iP_bar_98, iP_bar_108, iP_bar_123, iP_bar_124, iP_bar_125, iP_bar_135, iP_bar_145, vP_bar, wps, x_cnd, reduceIte, Nat.reduceAdd, Nat.reduceSub, Nat.reduceEqDiff, Nat.reduceLeDiff, Nat.lt_irrefl, Nat.reduceLT, Int.cast_ofNat_Int, wq_c0, wq_c1, true_and, and_true, and_self, true_implies, forall_const, ne_eq, Decidable.not_not, not_true_eq_false, not_false_eq_true, List.map_nil, List.map_cons, List.sum_nil, List.sum_cons, List.length_cons, List.length_nil, Nat.le_refl, Nat.zero_le, reduceCtorEq, true_or, or_true, false_or, or_false, false_and, and_false, false_implies, Nat.zero_add, Nat.add_zero, Int.reduceEq, Int.reduceNe, Int.reduceLT, Int.reduceLE, Int.reduceNeg, Int.reduceToNat, Nat.not_lt_zero, Int.reduceAdd, fxs C.F, b01_0]
    have k2 : Φ (.inl (some (xI (b01 (cov (aS A) p = 0))))) M h := kv k rfl
    refine ⟨fun c1 => ?_, fun c1 => ?_⟩
    · rw [b01_f c1] at k2
      exact k2
    · rw [b01_t c1] at k2
      exact k2
  · exact kv k (by subst c; rfl)
  · exact kv k (by subst c; rfl)
  · exact ke k (by rw [if_neg (by omega), if_neg (by omega), if_neg (by omega), if_neg (by omega), if_neg (by omega), if_neg (by omega), if_neg (by omega), if_neg (by omega), if_neg (by omega)])
theorem cP_labelled (C : CW A M h) {l : Int} (k : Φ (xo (anLabelled (aS A) l)) M h) : x_Cal zP_labelled [xA 1, xI l] M h Φ := by
  have hN := C.w.N
  have e : M 17 0 = sN (aS A) := C.R.n
  refine x_metI kP_labelled (Nat.le_of_ble_eq_true rfl) (fun t m ls st M' h' c n => t = 2 ∧ st = [] ∧ M' = M ∧ h' = h ∧ c = 0 ∧ n = 0 ∧ ls 0 = some (xA 1) ∧ ls 1 = some (xI l) ∧ ∃ p : Nat, ls 2 = some (xI p) ∧ p ≤ sN (aS A) ∧ m = sN (aS A) - p ∧ fi (fun q => lab (aS A) q.toNat) l p = -1) 20 ?_ ?_
  · simp only [wq_g3, wq_gc, wq_g, wq_g1, wq_g2, eP_labelled, iP_labelled_0, iP_labelled_2, iP_labelled_36, iP_labelled_42, vP_labelled, wps, x_cnd, reduceIte, Nat.reduceAdd, Nat.reduceSub, Nat.reduceEqDiff, Nat.reduceLeDiff, Nat.lt_irrefl, Nat.reduceLT, Int.cast_ofNat_Int, wq_c0, wq_c1, true_and, and_true, and_self, true_implies, forall_const, ne_eq, Decidable.not_not, not_true_eq_false, not_false_eq_true, List.map_nil, List.map_cons, List.sum_nil, List.sum_cons, List.length_cons, List.length_nil, Nat.le_refl, Nat.zero_le, reduceCtorEq, true_or, or_true, false_or, or_false, false_and, and_false, false_implies, Nat.zero_add, Nat.add_zero, Int.reduceEq, Int.reduceNe, Int.reduceLT, Int.reduceLE, Int.reduceNeg, Int.reduceToNat, Nat.not_lt_zero, Int.reduceAdd]
    exact ⟨_, 0, rfl, by omega, rfl, rfl⟩
  · rintro t m ls st M' h' c n ⟨rfl, rfl, rfl, rfl, rfl, rfl, l0, l1, p, l2, q1, q2, q3⟩
    simp only [wq_g3, wq_gc, wq_g, wq_g1, wq_g2, eP_labelled, iP_labelled_0, iP_labelled_2, iP_labelled_36, iP_labelled_42, vP_labelled, wps, x_cnd, reduceIte, Nat.reduceAdd, Nat.reduceSub, Nat.reduceEqDiff, Nat.reduceLeDiff, Nat.lt_irrefl, Nat.reduceLT, Int.cast_ofNat_Int, wq_c0, wq_c1, true_and, and_true, and_self, true_implies, forall_const, ne_eq, Decidable.not_not, not_true_eq_false, not_false_eq_true, List.map_nil, List.map_cons, List.sum_nil, List.sum_cons, List.length_cons, List.length_nil, Nat.le_refl, Nat.zero_le, reduceCtorEq, true_or, or_true, false_or, or_false, false_and, and_false, false_implies, Nat.zero_add, Nat.add_zero, Int.reduceEq, Int.reduceNe, Int.reduceLT, Int.reduceLE, Int.reduceNeg, Int.reduceToNat, Nat.not_lt_zero, Int.reduceAdd, fxs C.F, e, l0, l1, l2]
    unfold anLabelled labP at k
    refine ⟨fun c0 => ?_, fun c0 => ⟨by omega, ?_⟩⟩
    · rw [show p = sN (aS A) by omega] at q3
      exact ke k (by rw [if_pos q3])
    · have e1 := C.V.lab (p := p) (by omega)
      have e2 : M' 18 p = sI (aS A) p := C.R.id (by omega)
      rw [e1, e2]
      refine ⟨fun c1 => ?_, fun c1 => ⟨by omega, ?_⟩⟩
      · simp (disch := omega) only [w32_of]
        exact ⟨sN (aS A) - (p + 1), by omega, p + 1, rfl, by omega, rfl, fi_step q3 c1⟩
      · have e3 := fi_found (f := fun q => lab (aS A) q.toNat) (p := p) (n := sN (aS A)) (by omega) c1 q3
        exact kv k (by rw [if_neg (by omega), e3])
theorem cP_cuts (C : CW A M h) (k : Φ (.inl (some (xI (bs (hasC (aS A)) 10)))) M h) : x_Cal zP_cuts [xA 1] M h Φ := by
  refine x_metI kP_cuts (Nat.le_of_ble_eq_true rfl) (fun t m ls st M' h' c n => t = 4 ∧ st = [] ∧ M' = M ∧ h' = h ∧ c = 0 ∧ n = 0 ∧ ls 0 = some (xA 1) ∧ ∃ p : Nat, ls 2 = some (xI p) ∧ p ≤ 10 ∧ m = 10 - p ∧ ls 1 = some (xI (bs (hasC (aS A)) p))) 20 ?_ ?_
  · simp only [wq_g3, wq_gc, wq_g, wq_g1, wq_g2, eP_cuts, iP_cuts_0, iP_cuts_4, iP_cuts_27, iP_cuts_33, vP_cuts, wps, x_cnd, reduceIte, Nat.reduceAdd, Nat.reduceSub, Nat.reduceEqDiff, Nat.reduceLeDiff, Nat.lt_irrefl, Nat.reduceLT, Int.cast_ofNat_Int, wq_c0, wq_c1, true_and, and_true, and_self, true_implies, forall_const, ne_eq, Decidable.not_not, not_true_eq_false, not_false_eq_true, List.map_nil, List.map_cons, List.sum_nil, List.sum_cons, List.length_cons, List.length_nil, Nat.le_refl, Nat.zero_le, reduceCtorEq, true_or, or_true, false_or, or_false, false_and, and_false, false_implies, Nat.zero_add, Nat.add_zero, Int.reduceEq, Int.reduceNe, Int.reduceLT, Int.reduceLE, Int.reduceNeg, Int.reduceToNat, Nat.not_lt_zero, Int.reduceAdd]
    exact ⟨_, 0, rfl, by omega, rfl, rfl⟩
  · rintro t m ls st M' h' c n ⟨rfl, rfl, rfl, rfl, rfl, rfl, l0, p, l2, q1, q2, l1⟩
    simp only [wq_g3, wq_gc, wq_g, wq_g1, wq_g2, eP_cuts, iP_cuts_0, iP_cuts_4, iP_cuts_27, iP_cuts_33, vP_cuts, wps, x_cnd, reduceIte, Nat.reduceAdd, Nat.reduceSub, Nat.reduceEqDiff, Nat.reduceLeDiff, Nat.lt_irrefl, Nat.reduceLT, Int.cast_ofNat_Int, wq_c0, wq_c1, true_and, and_true, and_self, true_implies, forall_const, ne_eq, Decidable.not_not, not_true_eq_false, not_false_eq_true, List.map_nil, List.map_cons, List.sum_nil, List.sum_cons, List.length_cons, List.length_nil, Nat.le_refl, Nat.zero_le, reduceCtorEq, true_or, or_true, false_or, or_false, false_and, and_false, false_implies, Nat.zero_add, Nat.add_zero, Int.reduceEq, Int.reduceNe, Int.reduceLT, Int.reduceLE, Int.reduceNeg, Int.reduceToNat, Nat.not_lt_zero, Int.reduceAdd, fxs C.F, l0, l1, l2]
    refine ⟨fun c0 => ?_, fun c0 => cS_hasCut C.F.s17 ?_⟩
    · rw [show p = 10 by omega]
      exact k
    have e8 : M' 25 p = sF (aS A) p := C.R.cf (by omega)
    simp only [wq_g3, wq_gc, wq_g, wq_g1, wq_g2, eP_cuts, iP_cuts_0, iP_cuts_4, iP_cuts_27, iP_cuts_33, vP_cuts, wps, x_cnd, reduceIte, Nat.reduceAdd, Nat.reduceSub, Nat.reduceEqDiff, Nat.reduceLeDiff, Nat.lt_irrefl, Nat.reduceLT, Int.cast_ofNat_Int, wq_c0, wq_c1, true_and, and_true, and_self, true_implies, forall_const, ne_eq, Decidable.not_not, not_true_eq_false, not_false_eq_true, List.map_nil, List.map_cons, List.sum_nil, List.sum_cons, List.length_cons, List.length_nil, Nat.le_refl, Nat.zero_le, reduceCtorEq, true_or, or_true, false_or, or_false, false_and, and_false, false_implies, Nat.zero_add, Nat.add_zero, Int.reduceEq, Int.reduceNe, Int.reduceLT, Int.reduceLE, Int.reduceNeg, Int.reduceToNat, Nat.not_lt_zero, Int.reduceAdd, fxs C.F, l0, l1, l2, b01_0, e8]
    refine ⟨fun c1 => ?_, fun c1 => ?_⟩
    · simp (disch := omega) only [w32_of]
      refine ⟨10 - (p + 1), by omega, p + 1, rfl, by omega, rfl, ?_⟩
      rw [bs_0 (by unfold hasC; simp; omega)]
    · simp (disch := omega) only [w32_of]
      refine ⟨10 - (p + 1), by omega, p + 1, rfl, by omega, rfl, ?_⟩
      rw [x_or_bs (by omega) (by unfold hasC; simp; omega)]
theorem cP_mark (C : CW A M h) {l w : Int} (k : Φ (xo (anMark (aS A) l w)) M h) : x_Cal zP_mark [xA 1, xI l, xI w] M h Φ := by
  have hN := C.w.N
  refine x_met0 kP_mark (Nat.le_of_ble_eq_true rfl) ?_
  simp only [wq_g3, wq_gc, wq_g, wq_g1, wq_g2, eP_mark, iP_mark_0, iP_mark_32, iP_mark_42, iP_mark_58, iP_mark_74, iP_mark_75, iP_mark_76, vP_mark, wps, x_cnd, reduceIte, Nat.reduceAdd, Nat.reduceSub, Nat.reduceEqDiff, Nat.reduceLeDiff, Nat.lt_irrefl, Nat.reduceLT, Int.cast_ofNat_Int, wq_c0, wq_c1, true_and, and_true, and_self, true_implies, forall_const, ne_eq, Decidable.not_not, not_true_eq_false, not_false_eq_true, List.map_nil, List.map_cons, List.sum_nil, List.sum_cons, List.length_cons, List.length_nil, Nat.le_refl, Nat.zero_le, reduceCtorEq, true_or, or_true, false_or, or_false, false_and, and_false, false_implies, Nat.zero_add, Nat.add_zero, Int.reduceEq, Int.reduceNe, Int.reduceLT, Int.reduceLE, Int.reduceNeg, Int.reduceToNat, Nat.not_lt_zero, Int.reduceAdd, fxs C.F]
  unfold anMark at k
  refine cP_requireMark C (fun c0 => ?_) (fun n h1 h2 h3 h4 => ?_)
  · simp only [wq_g3, wq_gc, wq_g, wq_g1, wq_g2, eP_mark, iP_mark_0, iP_mark_32, iP_mark_42, iP_mark_58, iP_mark_74, iP_mark_75, iP_mark_76, vP_mark, wps, x_cnd, reduceIte, Nat.reduceAdd, Nat.reduceSub, Nat.reduceEqDiff, Nat.reduceLeDiff, Nat.lt_irrefl, Nat.reduceLT, Int.cast_ofNat_Int, wq_c0, wq_c1, true_and, and_true, and_self, true_implies, forall_const, ne_eq, Decidable.not_not, not_true_eq_false, not_false_eq_true, List.map_nil, List.map_cons, List.sum_nil, List.sum_cons, List.length_cons, List.length_nil, Nat.le_refl, Nat.zero_le, reduceCtorEq, true_or, or_true, false_or, or_false, false_and, and_false, false_implies, Nat.zero_add, Nat.add_zero, Int.reduceEq, Int.reduceNe, Int.reduceLT, Int.reduceLE, Int.reduceNeg, Int.reduceToNat, Nat.not_lt_zero, Int.reduceAdd]
    exact ke k (by rw [if_neg c0])
  subst h1
  rw [if_pos ⟨by omega, by omega, h4⟩] at k
  have e7 : M 24 n = sM (aS A) n := C.R.mk h2 h3
  simp only [wq_g3, wq_gc, wq_g, wq_g1, wq_g2, eP_mark, iP_mark_0, iP_mark_32, iP_mark_42, iP_mark_58, iP_mark_74, iP_mark_75, iP_mark_76, vP_mark, wps, x_cnd, reduceIte, Nat.reduceAdd, Nat.reduceSub, Nat.reduceEqDiff, Nat.reduceLeDiff, Nat.lt_irrefl, Nat.reduceLT, Int.cast_ofNat_Int, wq_c0, wq_c1, true_and, and_true, and_self, true_implies, forall_const, ne_eq, Decidable.not_not, not_true_eq_false, not_false_eq_true, List.map_nil, List.map_cons, List.sum_nil, List.sum_cons, List.length_cons, List.length_nil, Nat.le_refl, Nat.zero_le, reduceCtorEq, true_or, or_true, false_or, or_false, false_and, and_false, false_implies, Nat.zero_add, Nat.add_zero, Int.reduceEq, Int.reduceNe, Int.reduceLT, Int.reduceLE, Int.reduceNeg, Int.reduceToNat, Nat.not_lt_zero, Int.reduceAdd, fxs C.F, e7]
  refine ⟨fun c => ⟨by omega, kv k (by rw [if_pos c])⟩, fun c => cV_placeShown C.F C.R C.w C.V ?_, fun c => cV_placeOfLetter C.F C.R C.w C.V ?_, fun c => ke k (by rw [if_neg (by omega), if_neg (by omega), if_neg (by omega)])⟩
  · subst c
    simp only [wq_g3, wq_gc, wq_g, wq_g1, wq_g2, eP_mark, iP_mark_0, iP_mark_32, iP_mark_42, iP_mark_58, iP_mark_74, iP_mark_75, iP_mark_76, vP_mark, wps, x_cnd, reduceIte, Nat.reduceAdd, Nat.reduceSub, Nat.reduceEqDiff, Nat.reduceLeDiff, Nat.lt_irrefl, Nat.reduceLT, Int.cast_ofNat_Int, wq_c0, wq_c1, true_and, and_true, and_self, true_implies, forall_const, ne_eq, Decidable.not_not, not_true_eq_false, not_false_eq_true, List.map_nil, List.map_cons, List.sum_nil, List.sum_cons, List.length_cons, List.length_nil, Nat.le_refl, Nat.zero_le, reduceCtorEq, true_or, or_true, false_or, or_false, false_and, and_false, false_implies, Nat.zero_add, Nat.add_zero, Int.reduceEq, Int.reduceNe, Int.reduceLT, Int.reduceLE, Int.reduceNeg, Int.reduceToNat, Nat.not_lt_zero, Int.reduceAdd, fxs C.F]
    have hr := shl_rng (S := aS A) (l := (n : Int))
    refine cS_idAt C.F.s17 (by rw [C.R.n]; omega) ?_
    simp only [wq_g3, wq_gc, wq_g, wq_g1, wq_g2, eP_mark, iP_mark_0, iP_mark_32, iP_mark_42, iP_mark_58, iP_mark_74, iP_mark_75, iP_mark_76, vP_mark, wps, x_cnd, reduceIte, Nat.reduceAdd, Nat.reduceSub, Nat.reduceEqDiff, Nat.reduceLeDiff, Nat.lt_irrefl, Nat.reduceLT, Int.cast_ofNat_Int, wq_c0, wq_c1, true_and, and_true, and_self, true_implies, forall_const, ne_eq, Decidable.not_not, not_true_eq_false, not_false_eq_true, List.map_nil, List.map_cons, List.sum_nil, List.sum_cons, List.length_cons, List.length_nil, Nat.le_refl, Nat.zero_le, reduceCtorEq, true_or, or_true, false_or, or_false, false_and, and_false, false_implies, Nat.zero_add, Nat.add_zero, Int.reduceEq, Int.reduceNe, Int.reduceLT, Int.reduceLE, Int.reduceNeg, Int.reduceToNat, Nat.not_lt_zero, Int.reduceAdd]
    refine kv k ?_
    rw [if_neg (by decide), if_pos rfl]
    unfold idA
    rw [C.R.n]
    split
    · rename_i hh
      obtain ⟨q, hq⟩ : ∃ q : Nat, shl (aS A) n = q := ⟨(shl (aS A) n).toNat, by omega⟩
      rw [hq, C.R.id (by omega)]
    · rfl
  · subst c
    simp only [wq_g3, wq_gc, wq_g, wq_g1, wq_g2, eP_mark, iP_mark_0, iP_mark_32, iP_mark_42, iP_mark_58, iP_mark_74, iP_mark_75, iP_mark_76, vP_mark, wps, x_cnd, reduceIte, Nat.reduceAdd, Nat.reduceSub, Nat.reduceEqDiff, Nat.reduceLeDiff, Nat.lt_irrefl, Nat.reduceLT, Int.cast_ofNat_Int, wq_c0, wq_c1, true_and, and_true, and_self, true_implies, forall_const, ne_eq, Decidable.not_not, not_true_eq_false, not_false_eq_true, List.map_nil, List.map_cons, List.sum_nil, List.sum_cons, List.length_cons, List.length_nil, Nat.le_refl, Nat.zero_le, reduceCtorEq, true_or, or_true, false_or, or_false, false_and, and_false, false_implies, Nat.zero_add, Nat.add_zero, Int.reduceEq, Int.reduceNe, Int.reduceLT, Int.reduceLE, Int.reduceNeg, Int.reduceToNat, Nat.not_lt_zero, Int.reduceAdd, fxs C.F]
    have k2 : Φ (.inl (some (xI (b01 (cts (aS A) n ≠ -1))))) M h := kv k rfl
    refine ⟨fun c1 => ?_, fun c1 => ?_⟩
    · rw [b01_t c1] at k2
      exact k2
    · rw [b01_f (fun q => q c1)] at k2
      exact k2
theorem x_cmp_lt {a b : Int} : (x_cmp a b < 0) = (a < b) := by
  unfold x_cmp
  refine propext ⟨fun q => ?_, fun q => by rw [if_pos q]; decide⟩
  split at q
  · assumption
  · split at q <;> omega
theorem x_cmp_ge {a b : Int} : (0 ≤ x_cmp a b) = (b ≤ a) := by
  unfold x_cmp
  refine propext ⟨fun q => ?_, fun q => ?_⟩
  · split at q <;> omega
  · rw [if_neg (by omega)]
    split <;> decide
theorem cP_from (C : CW A M h) {l n : Int} (hn0 : x_i32 n) (k : Φ (xo (anFrom (aS A) l n)) M h) : x_Cal zP_from [xA 1, xI l, xI n] M h Φ := by
  have hN := C.w.N
  have hpn := pN_rng (S := aS A)
  have hr := cts_rng (S := aS A) (l := l)
  refine x_met0 kP_from (Nat.le_of_ble_eq_true rfl) ?_
  simp only [wq_g3, wq_gc, wq_g, wq_g1, wq_g2, eP_from, iP_from_0, iP_from_22, iP_from_58, iP_from_66, vP_from, wps, x_cnd, reduceIte, Nat.reduceAdd, Nat.reduceSub, Nat.reduceEqDiff, Nat.reduceLeDiff, Nat.lt_irrefl, Nat.reduceLT, Int.cast_ofNat_Int, wq_c0, wq_c1, true_and, and_true, and_self, true_implies, forall_const, ne_eq, Decidable.not_not, not_true_eq_false, not_false_eq_true, List.map_nil, List.map_cons, List.sum_nil, List.sum_cons, List.length_cons, List.length_nil, Nat.le_refl, Nat.zero_le, reduceCtorEq, true_or, or_true, false_or, or_false, false_and, and_false, false_implies, Nat.zero_add, Nat.add_zero, Int.reduceEq, Int.reduceNe, Int.reduceLT, Int.reduceLE, Int.reduceNeg, Int.reduceToNat, Nat.not_lt_zero, Int.reduceAdd, fxs C.F]
  refine cV_placeOfLetter C.F C.R C.w C.V ?_
  simp only [wq_g3, wq_gc, wq_g, wq_g1, wq_g2, eP_from, iP_from_0, iP_from_22, iP_from_58, iP_from_66, vP_from, wps, x_cnd, reduceIte, Nat.reduceAdd, Nat.reduceSub, Nat.reduceEqDiff, Nat.reduceLeDiff, Nat.lt_irrefl, Nat.reduceLT, Int.cast_ofNat_Int, wq_c0, wq_c1, true_and, and_true, and_self, true_implies, forall_const, ne_eq, Decidable.not_not, not_true_eq_false, not_false_eq_true, List.map_nil, List.map_cons, List.sum_nil, List.sum_cons, List.length_cons, List.length_nil, Nat.le_refl, Nat.zero_le, reduceCtorEq, true_or, or_true, false_or, or_false, false_and, and_false, false_implies, Nat.zero_add, Nat.add_zero, Int.reduceEq, Int.reduceNe, Int.reduceLT, Int.reduceLE, Int.reduceNeg, Int.reduceToNat, Nat.not_lt_zero, Int.reduceAdd, fxs C.F]
  unfold anFrom at k
  obtain ⟨m1, m2⟩ := hn0
  refine ⟨fun c0 => ?_, fun c0 => ?_⟩
  · obtain ⟨q, hq⟩ : ∃ q : Nat, cts (aS A) l = q := ⟨(cts (aS A) l).toNat, by omega⟩
    have g0 := pb_rng (S := aS A) (p := q)
    have e1 : M 29 q = pb (aS A) q := C.V.pb (by omega)
    rw [hq, show (q : Int).toNat = q from rfl] at k
    simp only [hq, e1, w64_of (show -9223372036854775808 ≤ pb (aS A) q + n ∧ pb (aS A) q + n < 9223372036854775808 by omega), show (((0 : Fin 2).val : Nat) : Int) = 0 from rfl, x_cmp_lt, x_cmp_ge, C.V.n]
    refine ⟨by omega, fun c1 => ke k (by rw [if_neg (by omega)]), fun c1 => ⟨fun c2 => ?_, fun c2 => ke k (by rw [if_neg (by omega)])⟩⟩
    obtain ⟨i, hi⟩ : ∃ i : Nat, pb (aS A) q + n = i := ⟨(pb (aS A) q + n).toNat, by omega⟩
    obtain ⟨r, r1, r2, r3, r4⟩ := pp_some (S := aS A) (k := (i : Int)) (by omega) (by omega)
    have e2 : M 28 i = r := (C.V.ppk (by omega)).trans r4
    have e3 : M 18 r = sI (aS A) r := C.R.id r1
    rw [hi] at c1 c2 k ⊢
    simp (disch := omega) only [w32_of]
    rw [e2, e3]
    exact ⟨by omega, by omega, kv k (by rw [if_pos ⟨by omega, by omega, by omega⟩, r4])⟩
  · exact ke k (by rw [if_neg (fun q => q.1 (by omega))])
theorem cP_called (C : CW A M h) {b : Int} (k : Φ (xo (anCalled (aS A) b)) M h) : x_Cal zP_called [xA 1, xI b] M h Φ := by
  have hN := C.w.N
  have hpn := pN_rng (S := aS A)
  unfold anCalled anPl at k
  by_cases hbad : pl (aS A) b = -1 ∨ cov (aS A) (pl (aS A) b) ≠ 0
  · refine x_metI kP_called (Nat.le_of_ble_eq_true rfl) (fun _ _ _ _ _ _ _ _ => False) 20 ?_ (fun _ _ _ _ _ _ _ _ hf => hf.elim)
    simp only [wq_g3, wq_gc, wq_g, wq_g1, wq_g2, eP_called, iP_called_0, iP_called_8, iP_called_47, iP_called_53, vP_called, wps, x_cnd, reduceIte, Nat.reduceAdd, Nat.reduceSub, Nat.reduceEqDiff, Nat.reduceLeDiff, Nat.lt_irrefl, Nat.reduceLT, Int.cast_ofNat_Int, wq_c0, wq_c1, true_and, and_true, and_self, true_implies, forall_const, ne_eq, Decidable.not_not, not_true_eq_false, not_false_eq_true, List.map_nil, List.map_cons, List.sum_nil, List.sum_cons, List.length_cons, List.length_nil, Nat.le_refl, Nat.zero_le, reduceCtorEq, true_or, or_true, false_or, or_false, false_and, and_false, false_implies, Nat.zero_add, Nat.add_zero, Int.reduceEq, Int.reduceNe, Int.reduceLT, Int.reduceLE, Int.reduceNeg, Int.reduceToNat, Nat.not_lt_zero, Int.reduceAdd, fxs C.F]
    refine cP_requirePlayedIndex (f := fun _ => 0) C (fun c0 => ?_) (fun p p1 p2 p3 => ?_) (fun p i p1 p2 p3 => by rw [p2] at hbad; omega)
    · simp only [wq_g3, wq_gc, wq_g, wq_g1, wq_g2, eP_called, iP_called_0, iP_called_8, iP_called_47, iP_called_53, vP_called, wps, x_cnd, reduceIte, Nat.reduceAdd, Nat.reduceSub, Nat.reduceEqDiff, Nat.reduceLeDiff, Nat.lt_irrefl, Nat.reduceLT, Int.cast_ofNat_Int, wq_c0, wq_c1, true_and, and_true, and_self, true_implies, forall_const, ne_eq, Decidable.not_not, not_true_eq_false, not_false_eq_true, List.map_nil, List.map_cons, List.sum_nil, List.sum_cons, List.length_cons, List.length_nil, Nat.le_refl, Nat.zero_le, reduceCtorEq, true_or, or_true, false_or, or_false, false_and, and_false, false_implies, Nat.zero_add, Nat.add_zero, Int.reduceEq, Int.reduceNe, Int.reduceLT, Int.reduceLE, Int.reduceNeg, Int.reduceToNat, Nat.not_lt_zero, Int.reduceAdd, fxs C.F]
      exact ke k (by rw [if_pos c0])
    · simp only [wq_g3, wq_gc, wq_g, wq_g1, wq_g2, eP_called, iP_called_0, iP_called_8, iP_called_47, iP_called_53, vP_called, wps, x_cnd, reduceIte, Nat.reduceAdd, Nat.reduceSub, Nat.reduceEqDiff, Nat.reduceLeDiff, Nat.lt_irrefl, Nat.reduceLT, Int.cast_ofNat_Int, wq_c0, wq_c1, true_and, and_true, and_self, true_implies, forall_const, ne_eq, Decidable.not_not, not_true_eq_false, not_false_eq_true, List.map_nil, List.map_cons, List.sum_nil, List.sum_cons, List.length_cons, List.length_nil, Nat.le_refl, Nat.zero_le, reduceCtorEq, true_or, or_true, false_or, or_false, false_and, and_false, false_implies, Nat.zero_add, Nat.add_zero, Int.reduceEq, Int.reduceNe, Int.reduceLT, Int.reduceLE, Int.reduceNeg, Int.reduceToNat, Nat.not_lt_zero, Int.reduceAdd, fxs C.F]
      rw [p2] at k
      exact ke k (by rw [if_neg (by omega), if_pos p3])
  · obtain ⟨p, p1, p2, -⟩ := pl_some (fun q => hbad (Or.inl q))
    rw [p2] at hbad k
    have hcv : cov (aS A) p = 0 := by omega
    have g1 := pb_lt p1 (isP_iff.mpr hcv)
    have g0 := pb_rng (S := aS A) (p := p)
    obtain ⟨i, hi⟩ : ∃ i : Nat, pb (aS A) p = i := ⟨(pb (aS A) p).toNat, by omega⟩
    rw [if_neg (by omega), if_neg (fun q => q hcv), show (p : Int).toNat = p from rfl, hi, show (i : Int).toNat = i from rfl] at k
    refine x_metI kP_called (Nat.le_of_ble_eq_true rfl) (fun t m ls st M' h' c n => t = 8 ∧ st = [] ∧ M' = M ∧ h' = h ∧ c = 2 ∧ n = 12 ∧ ls 0 = some (xA 1) ∧ ls 2 = some (xI i) ∧ ∃ q : Nat, q ≤ i + 1 ∧ ls 3 = some (xI ((q : Int) - 1)) ∧ m = q ∧ clk (aS A) i q = clk (aS A) i (i + 1)) 20 ?_ ?_
    · simp only [wq_g3, wq_gc, wq_g, wq_g1, wq_g2, eP_called, iP_called_0, iP_called_8, iP_called_47, iP_called_53, vP_called, wps, x_cnd, reduceIte, Nat.reduceAdd, Nat.reduceSub, Nat.reduceEqDiff, Nat.reduceLeDiff, Nat.lt_irrefl, Nat.reduceLT, Int.cast_ofNat_Int, wq_c0, wq_c1, true_and, and_true, and_self, true_implies, forall_const, ne_eq, Decidable.not_not, not_true_eq_false, not_false_eq_true, List.map_nil, List.map_cons, List.sum_nil, List.sum_cons, List.length_cons, List.length_nil, Nat.le_refl, Nat.zero_le, reduceCtorEq, true_or, or_true, false_or, or_false, false_and, and_false, false_implies, Nat.zero_add, Nat.add_zero, Int.reduceEq, Int.reduceNe, Int.reduceLT, Int.reduceLE, Int.reduceNeg, Int.reduceToNat, Nat.not_lt_zero, Int.reduceAdd, fxs C.F]
      refine cP_requirePlayedIndex (f := fun _ => 0) C (fun c0 => by omega) (fun p' z1 z2 z3 => ?_) (fun p' i' z1 z2 z3 z4 z5 z6 => ?_)
      · have : p' = p := by omega
        subst this
        exact absurd hcv z3
      · have : p' = p := by omega
        subst this
        have : i' = i := by omega
        subst this
        simp only [wq_g3, wq_gc, wq_g, wq_g1, wq_g2, eP_called, iP_called_0, iP_called_8, iP_called_47, iP_called_53, vP_called, wps, x_cnd, reduceIte, Nat.reduceAdd, Nat.reduceSub, Nat.reduceEqDiff, Nat.reduceLeDiff, Nat.lt_irrefl, Nat.reduceLT, Int.cast_ofNat_Int, wq_c0, wq_c1, true_and, and_true, and_self, true_implies, forall_const, ne_eq, Decidable.not_not, not_true_eq_false, not_false_eq_true, List.map_nil, List.map_cons, List.sum_nil, List.sum_cons, List.length_cons, List.length_nil, Nat.le_refl, Nat.zero_le, reduceCtorEq, true_or, or_true, false_or, or_false, false_and, and_false, false_implies, Nat.zero_add, Nat.add_zero, Int.reduceEq, Int.reduceNe, Int.reduceLT, Int.reduceLE, Int.reduceNeg, Int.reduceToNat, Nat.not_lt_zero, Int.reduceAdd, fxs C.F]
        exact ⟨i' + 1, i' + 1, by omega, by rw [show ((i' + 1 : Nat) : Int) - 1 = i' by omega], rfl, rfl⟩
    · rintro t m ls st M' h' c n ⟨rfl, rfl, rfl, rfl, rfl, rfl, l0, l2, q, q1, l3, q2, q3⟩
      simp only [wq_g3, wq_gc, wq_g, wq_g1, wq_g2, eP_called, iP_called_0, iP_called_8, iP_called_47, iP_called_53, vP_called, wps, x_cnd, reduceIte, Nat.reduceAdd, Nat.reduceSub, Nat.reduceEqDiff, Nat.reduceLeDiff, Nat.lt_irrefl, Nat.reduceLT, Int.cast_ofNat_Int, wq_c0, wq_c1, true_and, and_true, and_self, true_implies, forall_const, ne_eq, Decidable.not_not, not_true_eq_false, not_false_eq_true, List.map_nil, List.map_cons, List.sum_nil, List.sum_cons, List.length_cons, List.length_nil, Nat.le_refl, Nat.zero_le, reduceCtorEq, true_or, or_true, false_or, or_false, false_and, and_false, false_implies, Nat.zero_add, Nat.add_zero, Int.reduceEq, Int.reduceNe, Int.reduceLT, Int.reduceLE, Int.reduceNeg, Int.reduceToNat, Nat.not_lt_zero, Int.reduceAdd, fxs C.F, l0, l2, l3]
      refine ⟨fun c0 => ?_, fun c0 => ?_⟩
      · rw [show q = 0 by omega] at q3
        exact kv k (congrArg Sum.inl q3.symm)
      obtain ⟨q', hq'⟩ : ∃ q' : Nat, q = q' + 1 := ⟨q - 1, by omega⟩
      subst hq'
      rw [show ((q' + 1 : Nat) : Int) - 1 = q' by omega]
      obtain ⟨r, r1, r2, r3, r4⟩ := pp_some (S := aS A) (k := (q' : Int)) (by omega) (by omega)
      have e1 : M' 28 q' = r := (C.V.ppk (by omega)).trans r4
      have e2 := C.V.lt r1
      have e3 : 0 ≤ lt (aS A) r ∧ lt (aS A) r ≤ 40 := lt_rng
      rw [e1, e2]
      have hcl : clk (aS A) i (q' + 1) = if lt (aS A) r ≠ 0 then 1000 * lt (aS A) r + (i - q') else clk (aS A) i q' := by
        show (if lt (aS A) (pp (aS A) q') ≠ 0 then _ else _) = _
        rw [r4]
      rw [hcl] at q3
      simp (disch := omega) only [w32_of]
      refine ⟨by omega, by omega, fun c1 => ?_, fun c1 => ?_⟩
      · rw [if_neg (by omega)] at q3
        exact ⟨q', by omega, q', by omega, rfl, rfl, q3⟩
      · rw [if_pos (by omega)] at q3
        exact kv k (congrArg Sum.inl q3.symm)
theorem cP_content (C : CW A M h) {part b : Int} (k : Φ (xo (anContent (aS A) part b)) M h) : x_Cal zP_content [xA 1, xI part, xI b] M h Φ := by
  have hN := C.w.N
  unfold anContent anPt at k
  refine x_met0 kP_content (Nat.le_of_ble_eq_true rfl) ?_
  simp only [wq_g3, wq_gc, wq_g, wq_g1, wq_g2, eP_content, iP_content_0, vP_content, wps, x_cnd, reduceIte, Nat.reduceAdd, Nat.reduceSub, Nat.reduceEqDiff, Nat.reduceLeDiff, Nat.lt_irrefl, Nat.reduceLT, Int.cast_ofNat_Int, wq_c0, wq_c1, true_and, and_true, and_self, true_implies, forall_const, ne_eq, Decidable.not_not, not_true_eq_false, not_false_eq_true, List.map_nil, List.map_cons, List.sum_nil, List.sum_cons, List.length_cons, List.length_nil, Nat.le_refl, Nat.zero_le, reduceCtorEq, true_or, or_true, false_or, or_false, false_and, and_false, false_implies, Nat.zero_add, Nat.add_zero, Int.reduceEq, Int.reduceNe, Int.reduceLT, Int.reduceLE, Int.reduceNeg, Int.reduceToNat, Nat.not_lt_zero, Int.reduceAdd, fxs C.F]
  refine cP_requirePart C (fun c0 => ?_) (fun n h1 h2 h6 => ?_)
  · simp only [wq_g3, wq_gc, wq_g, wq_g1, wq_g2, eP_content, iP_content_0, vP_content, wps, x_cnd, reduceIte, Nat.reduceAdd, Nat.reduceSub, Nat.reduceEqDiff, Nat.reduceLeDiff, Nat.lt_irrefl, Nat.reduceLT, Int.cast_ofNat_Int, wq_c0, wq_c1, true_and, and_true, and_self, true_implies, forall_const, ne_eq, Decidable.not_not, not_true_eq_false, not_false_eq_true, List.map_nil, List.map_cons, List.sum_nil, List.sum_cons, List.length_cons, List.length_nil, Nat.le_refl, Nat.zero_le, reduceCtorEq, true_or, or_true, false_or, or_false, false_and, and_false, false_implies, Nat.zero_add, Nat.add_zero, Int.reduceEq, Int.reduceNe, Int.reduceLT, Int.reduceLE, Int.reduceNeg, Int.reduceToNat, Nat.not_lt_zero, Int.reduceAdd]
    exact ke k (by rw [if_neg c0])
  subst h1
  rw [if_pos ⟨by omega, by omega⟩] at k
  simp only [wq_g3, wq_gc, wq_g, wq_g1, wq_g2, eP_content, iP_content_0, vP_content, wps, x_cnd, reduceIte, Nat.reduceAdd, Nat.reduceSub, Nat.reduceEqDiff, Nat.reduceLeDiff, Nat.lt_irrefl, Nat.reduceLT, Int.cast_ofNat_Int, wq_c0, wq_c1, true_and, and_true, and_self, true_implies, forall_const, ne_eq, Decidable.not_not, not_true_eq_false, not_false_eq_true, List.map_nil, List.map_cons, List.sum_nil, List.sum_cons, List.length_cons, List.length_nil, Nat.le_refl, Nat.zero_le, reduceCtorEq, true_or, or_true, false_or, or_false, false_and, and_false, false_implies, Nat.zero_add, Nat.add_zero, Int.reduceEq, Int.reduceNe, Int.reduceLT, Int.reduceLE, Int.reduceNeg, Int.reduceToNat, Nat.not_lt_zero, Int.reduceAdd, fxs C.F]
  refine cP_requirePlace C (fun c0 => ?_) (fun p p1 p2 p3 => ?_)
  · simp only [wq_g3, wq_gc, wq_g, wq_g1, wq_g2, eP_content, iP_content_0, vP_content, wps, x_cnd, reduceIte, Nat.reduceAdd, Nat.reduceSub, Nat.reduceEqDiff, Nat.reduceLeDiff, Nat.lt_irrefl, Nat.reduceLT, Int.cast_ofNat_Int, wq_c0, wq_c1, true_and, and_true, and_self, true_implies, forall_const, ne_eq, Decidable.not_not, not_true_eq_false, not_false_eq_true, List.map_nil, List.map_cons, List.sum_nil, List.sum_cons, List.length_cons, List.length_nil, Nat.le_refl, Nat.zero_le, reduceCtorEq, true_or, or_true, false_or, or_false, false_and, and_false, false_implies, Nat.zero_add, Nat.add_zero, Int.reduceEq, Int.reduceNe, Int.reduceLT, Int.reduceLE, Int.reduceNeg, Int.reduceToNat, Nat.not_lt_zero, Int.reduceAdd]
    exact ke k (by rw [if_pos c0])
  rw [if_neg (by omega), p2] at k
  simp only [wq_g3, wq_gc, wq_g, wq_g1, wq_g2, eP_content, iP_content_0, vP_content, wps, x_cnd, reduceIte, Nat.reduceAdd, Nat.reduceSub, Nat.reduceEqDiff, Nat.reduceLeDiff, Nat.lt_irrefl, Nat.reduceLT, Int.cast_ofNat_Int, wq_c0, wq_c1, true_and, and_true, and_self, true_implies, forall_const, ne_eq, Decidable.not_not, not_true_eq_false, not_false_eq_true, List.map_nil, List.map_cons, List.sum_nil, List.sum_cons, List.length_cons, List.length_nil, Nat.le_refl, Nat.zero_le, reduceCtorEq, true_or, or_true, false_or, or_false, false_and, and_false, false_implies, Nat.zero_add, Nat.add_zero, Int.reduceEq, Int.reduceNe, Int.reduceLT, Int.reduceLE, Int.reduceNeg, Int.reduceToNat, Nat.not_lt_zero, Int.reduceAdd, fxs C.F]
  refine cS_contentAt C.F.s17 h6 (by omega) ?_
  have e : M (17 + 6) ((n : Int) * 150 + p) = sC (aS A) n p := C.R.c p1 h6
  rw [e]
  simp only [wq_g3, wq_gc, wq_g, wq_g1, wq_g2, eP_content, iP_content_0, vP_content, wps, x_cnd, reduceIte, Nat.reduceAdd, Nat.reduceSub, Nat.reduceEqDiff, Nat.reduceLeDiff, Nat.lt_irrefl, Nat.reduceLT, Int.cast_ofNat_Int, wq_c0, wq_c1, true_and, and_true, and_self, true_implies, forall_const, ne_eq, Decidable.not_not, not_true_eq_false, not_false_eq_true, List.map_nil, List.map_cons, List.sum_nil, List.sum_cons, List.length_cons, List.length_nil, Nat.le_refl, Nat.zero_le, reduceCtorEq, true_or, or_true, false_or, or_false, false_and, and_false, false_implies, Nat.zero_add, Nat.add_zero, Int.reduceEq, Int.reduceNe, Int.reduceLT, Int.reduceLE, Int.reduceNeg, Int.reduceToNat, Nat.not_lt_zero, Int.reduceAdd]
  exact k
theorem cP_reason (C : CW A M h) {b : Int} (k : Φ (xo (anReason (aS A) b)) M h) : x_Cal zP_reason [xA 1, xI b] M h Φ := by
  have hN := C.w.N
  have hpn := pN_rng (S := aS A)
  unfold anReason anPl at k
  refine x_met0 kP_reason (Nat.le_of_ble_eq_true rfl) ?_
  simp only [wq_g3, wq_gc, wq_g, wq_g1, wq_g2, eP_reason, iP_reason_0, vP_reason, wps, x_cnd, reduceIte, Nat.reduceAdd, Nat.reduceSub, Nat.reduceEqDiff, Nat.reduceLeDiff, Nat.lt_irrefl, Nat.reduceLT, Int.cast_ofNat_Int, wq_c0, wq_c1, true_and, and_true, and_self, true_implies, forall_const, ne_eq, Decidable.not_not, not_true_eq_false, not_false_eq_true, List.map_nil, List.map_cons, List.sum_nil, List.sum_cons, List.length_cons, List.length_nil, Nat.le_refl, Nat.zero_le, reduceCtorEq, true_or, or_true, false_or, or_false, false_and, and_false, false_implies, Nat.zero_add, Nat.add_zero, Int.reduceEq, Int.reduceNe, Int.reduceLT, Int.reduceLE, Int.reduceNeg, Int.reduceToNat, Nat.not_lt_zero, Int.reduceAdd, fxs C.F]
  refine cP_requirePlayedIndex (f := fun _ => 0) C (fun c0 => ?_) (fun p p1 p2 p3 => ?_) (fun p i p1 p2 p3 p4 p5 p6 => ?_)
  · simp only [wq_g3, wq_gc, wq_g, wq_g1, wq_g2, eP_reason, iP_reason_0, vP_reason, wps, x_cnd, reduceIte, Nat.reduceAdd, Nat.reduceSub, Nat.reduceEqDiff, Nat.reduceLeDiff, Nat.lt_irrefl, Nat.reduceLT, Int.cast_ofNat_Int, wq_c0, wq_c1, true_and, and_true, and_self, true_implies, forall_const, ne_eq, Decidable.not_not, not_true_eq_false, not_false_eq_true, List.map_nil, List.map_cons, List.sum_nil, List.sum_cons, List.length_cons, List.length_nil, Nat.le_refl, Nat.zero_le, reduceCtorEq, true_or, or_true, false_or, or_false, false_and, and_false, false_implies, Nat.zero_add, Nat.add_zero, Int.reduceEq, Int.reduceNe, Int.reduceLT, Int.reduceLE, Int.reduceNeg, Int.reduceToNat, Nat.not_lt_zero, Int.reduceAdd]
    exact ke k (by rw [if_pos c0])
  · simp only [wq_g3, wq_gc, wq_g, wq_g1, wq_g2, eP_reason, iP_reason_0, vP_reason, wps, x_cnd, reduceIte, Nat.reduceAdd, Nat.reduceSub, Nat.reduceEqDiff, Nat.reduceLeDiff, Nat.lt_irrefl, Nat.reduceLT, Int.cast_ofNat_Int, wq_c0, wq_c1, true_and, and_true, and_self, true_implies, forall_const, ne_eq, Decidable.not_not, not_true_eq_false, not_false_eq_true, List.map_nil, List.map_cons, List.sum_nil, List.sum_cons, List.length_cons, List.length_nil, Nat.le_refl, Nat.zero_le, reduceCtorEq, true_or, or_true, false_or, or_false, false_and, and_false, false_implies, Nat.zero_add, Nat.add_zero, Int.reduceEq, Int.reduceNe, Int.reduceLT, Int.reduceLE, Int.reduceNeg, Int.reduceToNat, Nat.not_lt_zero, Int.reduceAdd]
    rw [p2] at k
    exact ke k (by rw [if_neg (by omega), if_pos p3])
  rw [p2, if_neg (by omega), if_neg (fun q => q p3), show (p : Int).toNat = p from rfl, p4, show (i : Int).toNat = i from rfl] at k
  obtain ⟨r, r1, r2, r3, r4⟩ := pp_some (S := aS A) (k := (i : Int)) (by omega) (by omega)
  have e2 : M 28 i = p := (C.V.ppk (by omega)).trans p6
  have e3 : M 34 p = rsn (aS A) i := by
    have := C.V.rsn (k := i) p5
    rw [p6] at this
    exact this
  simp only [wq_g3, wq_gc, wq_g, wq_g1, wq_g2, eP_reason, iP_reason_0, vP_reason, wps, x_cnd, reduceIte, Nat.reduceAdd, Nat.reduceSub, Nat.reduceEqDiff, Nat.reduceLeDiff, Nat.lt_irrefl, Nat.reduceLT, Int.cast_ofNat_Int, wq_c0, wq_c1, true_and, and_true, and_self, true_implies, forall_const, ne_eq, Decidable.not_not, not_true_eq_false, not_false_eq_true, List.map_nil, List.map_cons, List.sum_nil, List.sum_cons, List.length_cons, List.length_nil, Nat.le_refl, Nat.zero_le, reduceCtorEq, true_or, or_true, false_or, or_false, false_and, and_false, false_implies, Nat.zero_add, Nat.add_zero, Int.reduceEq, Int.reduceNe, Int.reduceLT, Int.reduceLE, Int.reduceNeg, Int.reduceToNat, Nat.not_lt_zero, Int.reduceAdd, fxs C.F, e2, e3]
  exact ⟨by omega, by omega, k⟩
theorem cP_items (C : CW A M h) {part : Int} (k : Φ (xo (anItems (aS A) part)) M h) : x_Cal zP_items [xA 1, xI part] M h Φ := by
  have hpn := pN_rng (S := aS A)
  obtain ⟨m, hm⟩ : ∃ m : Nat, pN (aS A) = m := ⟨(pN (aS A)).toNat, by omega⟩
  have e : M 16 1 = m := C.V.n.trans hm
  unfold anItems anPt at k
  refine x_met0 kP_items (Nat.le_of_ble_eq_true rfl) ?_
  simp only [wq_g3, wq_gc, wq_g, wq_g1, wq_g2, eP_items, iP_items_0, vP_items, wps, x_cnd, reduceIte, Nat.reduceAdd, Nat.reduceSub, Nat.reduceEqDiff, Nat.reduceLeDiff, Nat.lt_irrefl, Nat.reduceLT, Int.cast_ofNat_Int, wq_c0, wq_c1, true_and, and_true, and_self, true_implies, forall_const, ne_eq, Decidable.not_not, not_true_eq_false, not_false_eq_true, List.map_nil, List.map_cons, List.sum_nil, List.sum_cons, List.length_cons, List.length_nil, Nat.le_refl, Nat.zero_le, reduceCtorEq, true_or, or_true, false_or, or_false, false_and, and_false, false_implies, Nat.zero_add, Nat.add_zero, Int.reduceEq, Int.reduceNe, Int.reduceLT, Int.reduceLE, Int.reduceNeg, Int.reduceToNat, Nat.not_lt_zero, Int.reduceAdd, fxs C.F]
  refine cP_requirePart C (fun c0 => ?_) (fun n h1 h2 h6 => ?_)
  · simp only [wq_g3, wq_gc, wq_g, wq_g1, wq_g2, eP_items, iP_items_0, vP_items, wps, x_cnd, reduceIte, Nat.reduceAdd, Nat.reduceSub, Nat.reduceEqDiff, Nat.reduceLeDiff, Nat.lt_irrefl, Nat.reduceLT, Int.cast_ofNat_Int, wq_c0, wq_c1, true_and, and_true, and_self, true_implies, forall_const, ne_eq, Decidable.not_not, not_true_eq_false, not_false_eq_true, List.map_nil, List.map_cons, List.sum_nil, List.sum_cons, List.length_cons, List.length_nil, Nat.le_refl, Nat.zero_le, reduceCtorEq, true_or, or_true, false_or, or_false, false_and, and_false, false_implies, Nat.zero_add, Nat.add_zero, Int.reduceEq, Int.reduceNe, Int.reduceLT, Int.reduceLE, Int.reduceNeg, Int.reduceToNat, Nat.not_lt_zero, Int.reduceAdd]
    exact ke k (by rw [if_neg c0])
  subst h1
  rw [if_pos ⟨by omega, by omega⟩] at k
  simp only [wq_g3, wq_gc, wq_g, wq_g1, wq_g2, eP_items, iP_items_0, vP_items, wps, x_cnd, reduceIte, Nat.reduceAdd, Nat.reduceSub, Nat.reduceEqDiff, Nat.reduceLeDiff, Nat.lt_irrefl, Nat.reduceLT, Int.cast_ofNat_Int, wq_c0, wq_c1, true_and, and_true, and_self, true_implies, forall_const, ne_eq, Decidable.not_not, not_true_eq_false, not_false_eq_true, List.map_nil, List.map_cons, List.sum_nil, List.sum_cons, List.length_cons, List.length_nil, Nat.le_refl, Nat.zero_le, reduceCtorEq, true_or, or_true, false_or, or_false, false_and, and_false, false_implies, Nat.zero_add, Nat.add_zero, Int.reduceEq, Int.reduceNe, Int.reduceLT, Int.reduceLE, Int.reduceNeg, Int.reduceToNat, Nat.not_lt_zero, Int.reduceAdd, fxs C.F, e]
  refine cV_countItems (e := m) C.F C.R C.w C.V h6 (by omega) ?_
  simp only [wq_g3, wq_gc, wq_g, wq_g1, wq_g2, eP_items, iP_items_0, vP_items, wps, x_cnd, reduceIte, Nat.reduceAdd, Nat.reduceSub, Nat.reduceEqDiff, Nat.reduceLeDiff, Nat.lt_irrefl, Nat.reduceLT, Int.cast_ofNat_Int, wq_c0, wq_c1, true_and, and_true, and_self, true_implies, forall_const, ne_eq, Decidable.not_not, not_true_eq_false, not_false_eq_true, List.map_nil, List.map_cons, List.sum_nil, List.sum_cons, List.length_cons, List.length_nil, Nat.le_refl, Nat.zero_le, reduceCtorEq, true_or, or_true, false_or, or_false, false_and, and_false, false_implies, Nat.zero_add, Nat.add_zero, Int.reduceEq, Int.reduceNe, Int.reduceLT, Int.reduceLE, Int.reduceNeg, Int.reduceToNat, Nat.not_lt_zero, Int.reduceAdd]
  unfold itN at k
  rw [hm] at k
  exact k
theorem cP_longestRest (C : CW A M h) {part : Int} (k : Φ (xo (anLongest (aS A) part)) M h) : x_Cal zP_longestRest [xA 1, xI part] M h Φ := by
  unfold anLongest anPt at k
  refine x_met0 kP_longestRest (Nat.le_of_ble_eq_true rfl) ?_
  simp only [wq_g3, wq_gc, wq_g, wq_g1, wq_g2, eP_longestRest, iP_longestRest_0, vP_longestRest, wps, x_cnd, reduceIte, Nat.reduceAdd, Nat.reduceSub, Nat.reduceEqDiff, Nat.reduceLeDiff, Nat.lt_irrefl, Nat.reduceLT, Int.cast_ofNat_Int, wq_c0, wq_c1, true_and, and_true, and_self, true_implies, forall_const, ne_eq, Decidable.not_not, not_true_eq_false, not_false_eq_true, List.map_nil, List.map_cons, List.sum_nil, List.sum_cons, List.length_cons, List.length_nil, Nat.le_refl, Nat.zero_le, reduceCtorEq, true_or, or_true, false_or, or_false, false_and, and_false, false_implies, Nat.zero_add, Nat.add_zero, Int.reduceEq, Int.reduceNe, Int.reduceLT, Int.reduceLE, Int.reduceNeg, Int.reduceToNat, Nat.not_lt_zero, Int.reduceAdd, fxs C.F]
  refine cP_requirePart C (fun c0 => ?_) (fun n h1 h2 h6 => ?_)
  · simp only [wq_g3, wq_gc, wq_g, wq_g1, wq_g2, eP_longestRest, iP_longestRest_0, vP_longestRest, wps, x_cnd, reduceIte, Nat.reduceAdd, Nat.reduceSub, Nat.reduceEqDiff, Nat.reduceLeDiff, Nat.lt_irrefl, Nat.reduceLT, Int.cast_ofNat_Int, wq_c0, wq_c1, true_and, and_true, and_self, true_implies, forall_const, ne_eq, Decidable.not_not, not_true_eq_false, not_false_eq_true, List.map_nil, List.map_cons, List.sum_nil, List.sum_cons, List.length_cons, List.length_nil, Nat.le_refl, Nat.zero_le, reduceCtorEq, true_or, or_true, false_or, or_false, false_and, and_false, false_implies, Nat.zero_add, Nat.add_zero, Int.reduceEq, Int.reduceNe, Int.reduceLT, Int.reduceLE, Int.reduceNeg, Int.reduceToNat, Nat.not_lt_zero, Int.reduceAdd]
    exact ke k (by rw [if_neg c0])
  subst h1
  rw [if_pos ⟨by omega, by omega⟩] at k
  simp only [wq_g3, wq_gc, wq_g, wq_g1, wq_g2, eP_longestRest, iP_longestRest_0, vP_longestRest, wps, x_cnd, reduceIte, Nat.reduceAdd, Nat.reduceSub, Nat.reduceEqDiff, Nat.reduceLeDiff, Nat.lt_irrefl, Nat.reduceLT, Int.cast_ofNat_Int, wq_c0, wq_c1, true_and, and_true, and_self, true_implies, forall_const, ne_eq, Decidable.not_not, not_true_eq_false, not_false_eq_true, List.map_nil, List.map_cons, List.sum_nil, List.sum_cons, List.length_cons, List.length_nil, Nat.le_refl, Nat.zero_le, reduceCtorEq, true_or, or_true, false_or, or_false, false_and, and_false, false_implies, Nat.zero_add, Nat.add_zero, Int.reduceEq, Int.reduceNe, Int.reduceLT, Int.reduceLE, Int.reduceNeg, Int.reduceToNat, Nat.not_lt_zero, Int.reduceAdd, fxs C.F]
  refine cV_longestRestOf C.F C.R C.w C.V h6 ?_
  simp only [wq_g3, wq_gc, wq_g, wq_g1, wq_g2, eP_longestRest, iP_longestRest_0, vP_longestRest, wps, x_cnd, reduceIte, Nat.reduceAdd, Nat.reduceSub, Nat.reduceEqDiff, Nat.reduceLeDiff, Nat.lt_irrefl, Nat.reduceLT, Int.cast_ofNat_Int, wq_c0, wq_c1, true_and, and_true, and_self, true_implies, forall_const, ne_eq, Decidable.not_not, not_true_eq_false, not_false_eq_true, List.map_nil, List.map_cons, List.sum_nil, List.sum_cons, List.length_cons, List.length_nil, Nat.le_refl, Nat.zero_le, reduceCtorEq, true_or, or_true, false_or, or_false, false_and, and_false, false_implies, Nat.zero_add, Nat.add_zero, Int.reduceEq, Int.reduceNe, Int.reduceLT, Int.reduceLE, Int.reduceNeg, Int.reduceToNat, Nat.not_lt_zero, Int.reduceAdd]
  exact k
theorem cP_isPrinted (C : CW A M h) {part : Int} (k : Φ (xo (anPrinted (aS A) part)) M h) : x_Cal zP_isPrinted [xA 1, xI part] M h Φ := by
  unfold anPrinted anPt at k
  refine x_met0 kP_isPrinted (Nat.le_of_ble_eq_true rfl) ?_
  simp only [wq_g3, wq_gc, wq_g, wq_g1, wq_g2, eP_isPrinted, iP_isPrinted_0, iP_isPrinted_21, iP_isPrinted_22, vP_isPrinted, wps, x_cnd, reduceIte, Nat.reduceAdd, Nat.reduceSub, Nat.reduceEqDiff, Nat.reduceLeDiff, Nat.lt_irrefl, Nat.reduceLT, Int.cast_ofNat_Int, wq_c0, wq_c1, true_and, and_true, and_self, true_implies, forall_const, ne_eq, Decidable.not_not, not_true_eq_false, not_false_eq_true, List.map_nil, List.map_cons, List.sum_nil, List.sum_cons, List.length_cons, List.length_nil, Nat.le_refl, Nat.zero_le, reduceCtorEq, true_or, or_true, false_or, or_false, false_and, and_false, false_implies, Nat.zero_add, Nat.add_zero, Int.reduceEq, Int.reduceNe, Int.reduceLT, Int.reduceLE, Int.reduceNeg, Int.reduceToNat, Nat.not_lt_zero, Int.reduceAdd, fxs C.F]
  refine cP_requirePart C (fun c0 => ?_) (fun n h1 h2 h6 => ?_)
  · simp only [wq_g3, wq_gc, wq_g, wq_g1, wq_g2, eP_isPrinted, iP_isPrinted_0, iP_isPrinted_21, iP_isPrinted_22, vP_isPrinted, wps, x_cnd, reduceIte, Nat.reduceAdd, Nat.reduceSub, Nat.reduceEqDiff, Nat.reduceLeDiff, Nat.lt_irrefl, Nat.reduceLT, Int.cast_ofNat_Int, wq_c0, wq_c1, true_and, and_true, and_self, true_implies, forall_const, ne_eq, Decidable.not_not, not_true_eq_false, not_false_eq_true, List.map_nil, List.map_cons, List.sum_nil, List.sum_cons, List.length_cons, List.length_nil, Nat.le_refl, Nat.zero_le, reduceCtorEq, true_or, or_true, false_or, or_false, false_and, and_false, false_implies, Nat.zero_add, Nat.add_zero, Int.reduceEq, Int.reduceNe, Int.reduceLT, Int.reduceLE, Int.reduceNeg, Int.reduceToNat, Nat.not_lt_zero, Int.reduceAdd]
    exact ke k (by rw [if_neg c0])
  subst h1
  rw [if_pos ⟨by omega, by omega⟩] at k
  simp only [wq_g3, wq_gc, wq_g, wq_g1, wq_g2, eP_isPrinted, iP_isPrinted_0, iP_isPrinted_21, iP_isPrinted_22, vP_isPrinted, wps, x_cnd, reduceIte, Nat.reduceAdd, Nat.reduceSub, Nat.reduceEqDiff, Nat.reduceLeDiff, Nat.lt_irrefl, Nat.reduceLT, Int.cast_ofNat_Int, wq_c0, wq_c1, true_and, and_true, and_self, true_implies, forall_const, ne_eq, Decidable.not_not, not_true_eq_false, not_false_eq_true, List.map_nil, List.map_cons, List.sum_nil, List.sum_cons, List.length_cons, List.length_nil, Nat.le_refl, Nat.zero_le, reduceCtorEq, true_or, or_true, false_or, or_false, false_and, and_false, false_implies, Nat.zero_add, Nat.add_zero, Int.reduceEq, Int.reduceNe, Int.reduceLT, Int.reduceLE, Int.reduceNeg, Int.reduceToNat, Nat.not_lt_zero, Int.reduceAdd, fxs C.F]
  rcases C.R.pr h6 with ⟨e1, e2⟩ | ⟨e1, e2⟩
  · have e3 : hP h 27 n = 0 := e2
    rw [b01_f (by omega)] at k
    refine ⟨by omega, fun c => k, fun c => absurd e3 c⟩
  · have e3 : hP h 27 n ≠ 0 := by
      have z : 42 ≤ hP h 27 n := e2.1.2.1
      omega
    rw [b01_t e1] at k
    refine ⟨by omega, fun c => absurd c e3, fun c => k⟩
theorem cP_itemOf (C : CW A M h) {part b : Int} (k : Φ (xo (anItemOf (aS A) part b)) M h) : x_Cal zP_itemOf [xA 1, xI part, xI b] M h Φ := by
  have hN := C.w.N
  have hpn := pN_rng (S := aS A)
  unfold anItemOf anPt anPl at k
  refine x_met0 kP_itemOf (Nat.le_of_ble_eq_true rfl) ?_
  simp only [wq_g3, wq_gc, wq_g, wq_g1, wq_g2, eP_itemOf, iP_itemOf_0, vP_itemOf, wps, x_cnd, reduceIte, Nat.reduceAdd, Nat.reduceSub, Nat.reduceEqDiff, Nat.reduceLeDiff, Nat.lt_irrefl, Nat.reduceLT, Int.cast_ofNat_Int, wq_c0, wq_c1, true_and, and_true, and_self, true_implies, forall_const, ne_eq, Decidable.not_not, not_true_eq_false, not_false_eq_true, List.map_nil, List.map_cons, List.sum_nil, List.sum_cons, List.length_cons, List.length_nil, Nat.le_refl, Nat.zero_le, reduceCtorEq, true_or, or_true, false_or, or_false, false_and, and_false, false_implies, Nat.zero_add, Nat.add_zero, Int.reduceEq, Int.reduceNe, Int.reduceLT, Int.reduceLE, Int.reduceNeg, Int.reduceToNat, Nat.not_lt_zero, Int.reduceAdd, fxs C.F]
  refine cP_requirePart C (fun c0 => ?_) (fun n h1 h2 h6 => ?_)
  · simp only [wq_g3, wq_gc, wq_g, wq_g1, wq_g2, eP_itemOf, iP_itemOf_0, vP_itemOf, wps, x_cnd, reduceIte, Nat.reduceAdd, Nat.reduceSub, Nat.reduceEqDiff, Nat.reduceLeDiff, Nat.lt_irrefl, Nat.reduceLT, Int.cast_ofNat_Int, wq_c0, wq_c1, true_and, and_true, and_self, true_implies, forall_const, ne_eq, Decidable.not_not, not_true_eq_false, not_false_eq_true, List.map_nil, List.map_cons, List.sum_nil, List.sum_cons, List.length_cons, List.length_nil, Nat.le_refl, Nat.zero_le, reduceCtorEq, true_or, or_true, false_or, or_false, false_and, and_false, false_implies, Nat.zero_add, Nat.add_zero, Int.reduceEq, Int.reduceNe, Int.reduceLT, Int.reduceLE, Int.reduceNeg, Int.reduceToNat, Nat.not_lt_zero, Int.reduceAdd]
    exact ke k (by rw [if_neg c0])
  subst h1
  rw [if_pos ⟨by omega, by omega⟩] at k
  simp only [wq_g3, wq_gc, wq_g, wq_g1, wq_g2, eP_itemOf, iP_itemOf_0, vP_itemOf, wps, x_cnd, reduceIte, Nat.reduceAdd, Nat.reduceSub, Nat.reduceEqDiff, Nat.reduceLeDiff, Nat.lt_irrefl, Nat.reduceLT, Int.cast_ofNat_Int, wq_c0, wq_c1, true_and, and_true, and_self, true_implies, forall_const, ne_eq, Decidable.not_not, not_true_eq_false, not_false_eq_true, List.map_nil, List.map_cons, List.sum_nil, List.sum_cons, List.length_cons, List.length_nil, Nat.le_refl, Nat.zero_le, reduceCtorEq, true_or, or_true, false_or, or_false, false_and, and_false, false_implies, Nat.zero_add, Nat.add_zero, Int.reduceEq, Int.reduceNe, Int.reduceLT, Int.reduceLE, Int.reduceNeg, Int.reduceToNat, Nat.not_lt_zero, Int.reduceAdd, fxs C.F]
  refine cP_requirePlayedIndex (f := fun _ => 0) C (fun c0 => ?_) (fun p p1 p2 p3 => ?_) (fun p i p1 p2 p3 p4 p5 p6 => ?_)
  · simp only [wq_g3, wq_gc, wq_g, wq_g1, wq_g2, eP_itemOf, iP_itemOf_0, vP_itemOf, wps, x_cnd, reduceIte, Nat.reduceAdd, Nat.reduceSub, Nat.reduceEqDiff, Nat.reduceLeDiff, Nat.lt_irrefl, Nat.reduceLT, Int.cast_ofNat_Int, wq_c0, wq_c1, true_and, and_true, and_self, true_implies, forall_const, ne_eq, Decidable.not_not, not_true_eq_false, not_false_eq_true, List.map_nil, List.map_cons, List.sum_nil, List.sum_cons, List.length_cons, List.length_nil, Nat.le_refl, Nat.zero_le, reduceCtorEq, true_or, or_true, false_or, or_false, false_and, and_false, false_implies, Nat.zero_add, Nat.add_zero, Int.reduceEq, Int.reduceNe, Int.reduceLT, Int.reduceLE, Int.reduceNeg, Int.reduceToNat, Nat.not_lt_zero, Int.reduceAdd]
    exact ke k (by rw [if_pos c0])
  · simp only [wq_g3, wq_gc, wq_g, wq_g1, wq_g2, eP_itemOf, iP_itemOf_0, vP_itemOf, wps, x_cnd, reduceIte, Nat.reduceAdd, Nat.reduceSub, Nat.reduceEqDiff, Nat.reduceLeDiff, Nat.lt_irrefl, Nat.reduceLT, Int.cast_ofNat_Int, wq_c0, wq_c1, true_and, and_true, and_self, true_implies, forall_const, ne_eq, Decidable.not_not, not_true_eq_false, not_false_eq_true, List.map_nil, List.map_cons, List.sum_nil, List.sum_cons, List.length_cons, List.length_nil, Nat.le_refl, Nat.zero_le, reduceCtorEq, true_or, or_true, false_or, or_false, false_and, and_false, false_implies, Nat.zero_add, Nat.add_zero, Int.reduceEq, Int.reduceNe, Int.reduceLT, Int.reduceLE, Int.reduceNeg, Int.reduceToNat, Nat.not_lt_zero, Int.reduceAdd]
    rw [p2] at k
    exact ke k (by rw [if_neg (by omega), if_pos p3])
  rw [p2, if_neg (by omega), if_neg (fun z => z p3), show (p : Int).toNat = p from rfl, p4, show (i : Int).toNat = i from rfl] at k
  simp only [wq_g3, wq_gc, wq_g, wq_g1, wq_g2, eP_itemOf, iP_itemOf_0, vP_itemOf, wps, x_cnd, reduceIte, Nat.reduceAdd, Nat.reduceSub, Nat.reduceEqDiff, Nat.reduceLeDiff, Nat.lt_irrefl, Nat.reduceLT, Int.cast_ofNat_Int, wq_c0, wq_c1, true_and, and_true, and_self, true_implies, forall_const, ne_eq, Decidable.not_not, not_true_eq_false, not_false_eq_true, List.map_nil, List.map_cons, List.sum_nil, List.sum_cons, List.length_cons, List.length_nil, Nat.le_refl, Nat.zero_le, reduceCtorEq, true_or, or_true, false_or, or_false, false_and, and_false, false_implies, Nat.zero_add, Nat.add_zero, Int.reduceEq, Int.reduceNe, Int.reduceLT, Int.reduceLE, Int.reduceNeg, Int.reduceToNat, Nat.not_lt_zero, Int.reduceAdd, fxs C.F]
  simp (disch := omega) only [w32_of]
  refine cV_countItems (e := i + 1) C.F C.R C.w C.V h6 (by omega) ?_
  have hc := cn_rng (P := stt (aS A) n) (n := i + 1)
  simp only [wq_g3, wq_gc, wq_g, wq_g1, wq_g2, eP_itemOf, iP_itemOf_0, vP_itemOf, wps, x_cnd, reduceIte, Nat.reduceAdd, Nat.reduceSub, Nat.reduceEqDiff, Nat.reduceLeDiff, Nat.lt_irrefl, Nat.reduceLT, Int.cast_ofNat_Int, wq_c0, wq_c1, true_and, and_true, and_self, true_implies, forall_const, ne_eq, Decidable.not_not, not_true_eq_false, not_false_eq_true, List.map_nil, List.map_cons, List.sum_nil, List.sum_cons, List.length_cons, List.length_nil, Nat.le_refl, Nat.zero_le, reduceCtorEq, true_or, or_true, false_or, or_false, false_and, and_false, false_implies, Nat.zero_add, Nat.add_zero, Int.reduceEq, Int.reduceNe, Int.reduceLT, Int.reduceLE, Int.reduceNeg, Int.reduceToNat, Nat.not_lt_zero, Int.reduceAdd, fxs C.F]
  simp (disch := omega) only [w32_of]
  refine cV_startOfItem C.F C.R C.w C.V h6 ?_
  have hs := nth_rng (P := stt (aS A) n) (n := (pN (aS A)).toNat) (j := cn (stt (aS A) n) (i + 1) - 1)
  simp only [wq_g3, wq_gc, wq_g, wq_g1, wq_g2, eP_itemOf, iP_itemOf_0, vP_itemOf, wps, x_cnd, reduceIte, Nat.reduceAdd, Nat.reduceSub, Nat.reduceEqDiff, Nat.reduceLeDiff, Nat.lt_irrefl, Nat.reduceLT, Int.cast_ofNat_Int, wq_c0, wq_c1, true_and, and_true, and_self, true_implies, forall_const, ne_eq, Decidable.not_not, not_true_eq_false, not_false_eq_true, List.map_nil, List.map_cons, List.sum_nil, List.sum_cons, List.length_cons, List.length_nil, Nat.le_refl, Nat.zero_le, reduceCtorEq, true_or, or_true, false_or, or_false, false_and, and_false, false_implies, Nat.zero_add, Nat.add_zero, Int.reduceEq, Int.reduceNe, Int.reduceLT, Int.reduceLE, Int.reduceNeg, Int.reduceToNat, Nat.not_lt_zero, Int.reduceAdd]
  simp (disch := omega) only [w32_of]
  exact k
theorem cP_item (C : CW A M h) {part i w : Int} (k : Φ (xo (anItem (aS A) part i w)) M h) : x_Cal zP_item [xA 1, xI part, xI i, xI w] M h Φ := by
  have hN := C.w.N
  have hpn := pN_rng (S := aS A)
  unfold anItem anPt at k
  refine x_met0 kP_item (Nat.le_of_ble_eq_true rfl) ?_
  simp only [wq_g3, wq_gc, wq_g, wq_g1, wq_g2, eP_item, iP_item_0, iP_item_14, iP_item_22, iP_item_47, iP_item_88, iP_item_107, iP_item_113, iP_item_132, vP_item, wps, x_cnd, reduceIte, Nat.reduceAdd, Nat.reduceSub, Nat.reduceEqDiff, Nat.reduceLeDiff, Nat.lt_irrefl, Nat.reduceLT, Int.cast_ofNat_Int, wq_c0, wq_c1, true_and, and_true, and_self, true_implies, forall_const, ne_eq, Decidable.not_not, not_true_eq_false, not_false_eq_true, List.map_nil, List.map_cons, List.sum_nil, List.sum_cons, List.length_cons, List.length_nil, Nat.le_refl, Nat.zero_le, reduceCtorEq, true_or, or_true, false_or, or_false, false_and, and_false, false_implies, Nat.zero_add, Nat.add_zero, Int.reduceEq, Int.reduceNe, Int.reduceLT, Int.reduceLE, Int.reduceNeg, Int.reduceToNat, Nat.not_lt_zero, Int.reduceAdd, fxs C.F]
  refine cP_requirePart C (fun c0 => ?_) (fun n h1 h2 h6 => ?_)
  · simp only [wq_g3, wq_gc, wq_g, wq_g1, wq_g2, eP_item, iP_item_0, iP_item_14, iP_item_22, iP_item_47, iP_item_88, iP_item_107, iP_item_113, iP_item_132, vP_item, wps, x_cnd, reduceIte, Nat.reduceAdd, Nat.reduceSub, Nat.reduceEqDiff, Nat.reduceLeDiff, Nat.lt_irrefl, Nat.reduceLT, Int.cast_ofNat_Int, wq_c0, wq_c1, true_and, and_true, and_self, true_implies, forall_const, ne_eq, Decidable.not_not, not_true_eq_false, not_false_eq_true, List.map_nil, List.map_cons, List.sum_nil, List.sum_cons, List.length_cons, List.length_nil, Nat.le_refl, Nat.zero_le, reduceCtorEq, true_or, or_true, false_or, or_false, false_and, and_false, false_implies, Nat.zero_add, Nat.add_zero, Int.reduceEq, Int.reduceNe, Int.reduceLT, Int.reduceLE, Int.reduceNeg, Int.reduceToNat, Nat.not_lt_zero, Int.reduceAdd]
    exact ke k (by rw [if_neg c0])
  subst h1
  rw [if_pos ⟨by omega, by omega⟩] at k
  simp only [wq_g3, wq_gc, wq_g, wq_g1, wq_g2, eP_item, iP_item_0, iP_item_14, iP_item_22, iP_item_47, iP_item_88, iP_item_107, iP_item_113, iP_item_132, vP_item, wps, x_cnd, reduceIte, Nat.reduceAdd, Nat.reduceSub, Nat.reduceEqDiff, Nat.reduceLeDiff, Nat.lt_irrefl, Nat.reduceLT, Int.cast_ofNat_Int, wq_c0, wq_c1, true_and, and_true, and_self, true_implies, forall_const, ne_eq, Decidable.not_not, not_true_eq_false, not_false_eq_true, List.map_nil, List.map_cons, List.sum_nil, List.sum_cons, List.length_cons, List.length_nil, Nat.le_refl, Nat.zero_le, reduceCtorEq, true_or, or_true, false_or, or_false, false_and, and_false, false_implies, Nat.zero_add, Nat.add_zero, Int.reduceEq, Int.reduceNe, Int.reduceLT, Int.reduceLE, Int.reduceNeg, Int.reduceToNat, Nat.not_lt_zero, Int.reduceAdd, fxs C.F]
  refine ⟨fun c0 => ke k (by rw [if_pos (by omega)]), fun c0 => ⟨fun c1 => ?_, fun c1 => ke k (by rw [if_pos (by omega)])⟩⟩
  rw [if_neg (by omega)] at k
  refine cV_startOfItem C.F C.R C.w C.V h6 ?_
  have hs := nth_rng (P := stt (aS A) n) (n := (pN (aS A)).toNat) (j := i)
  unfold itE at k
  have hS : nth (stt (aS A) n) (pN (aS A)).toNat i = itS (aS A) n i := rfl
  rw [hS] at hs ⊢
  generalize itS (aS A) n i = s at k hs ⊢
  simp only [wq_g3, wq_gc, wq_g, wq_g1, wq_g2, eP_item, iP_item_0, iP_item_14, iP_item_22, iP_item_47, iP_item_88, iP_item_107, iP_item_113, iP_item_132, vP_item, wps, x_cnd, reduceIte, Nat.reduceAdd, Nat.reduceSub, Nat.reduceEqDiff, Nat.reduceLeDiff, Nat.lt_irrefl, Nat.reduceLT, Int.cast_ofNat_Int, wq_c0, wq_c1, true_and, and_true, and_self, true_implies, forall_const, ne_eq, Decidable.not_not, not_true_eq_false, not_false_eq_true, List.map_nil, List.map_cons, List.sum_nil, List.sum_cons, List.length_cons, List.length_nil, Nat.le_refl, Nat.zero_le, reduceCtorEq, true_or, or_true, false_or, or_false, false_and, and_false, false_implies, Nat.zero_add, Nat.add_zero, Int.reduceEq, Int.reduceNe, Int.reduceLT, Int.reduceLE, Int.reduceNeg, Int.reduceToNat, Nat.not_lt_zero, Int.reduceAdd, fxs C.F]
  refine ⟨fun c2 => ?_, fun c2 => ke k (by rw [if_pos c2])⟩
  obtain ⟨s', hs'⟩ : ∃ s' : Nat, s = s' := ⟨s.toNat, by omega⟩
  subst hs'
  rw [if_neg c2, show (s' : Int).toNat = s' from rfl] at k
  obtain ⟨m, hm⟩ : ∃ m : Nat, pN (aS A) = m := ⟨(pN (aS A)).toNat, by omega⟩
  refine cV_endOfItem C.F C.R C.w C.V h6 (by omega) ?_
  rw [hm, show (m : Int).toNat = m from rfl] at k ⊢
  obtain ⟨g1, g2, g3⟩ := nx_spec (P := stt (aS A) n) (s := s') (n := m)
  have g4 : s' < nx (stt (aS A) n) s' m := by
    by_cases hz : nx (stt (aS A) n) s' m < m
    · exact (g3 hz).1
    · omega
  generalize nx (stt (aS A) n) s' m = e at k g1 g2 g3 g4 ⊢
  obtain ⟨r, r1, r2, r3, r4⟩ := pp_some (S := aS A) (k := (s' : Int)) (by omega) (by omega)
  have e2 : M 28 s' = r := (C.V.ppk (by omega)).trans r4
  have e3 : M 18 r = sI (aS A) r := C.R.id r1
  have e4 : M (17 + 6) ((n : Int) * 150 + r) = sC (aS A) n r := C.R.c r1 h6
  rw [r4] at k
  simp only [wq_g3, wq_gc, wq_g, wq_g1, wq_g2, eP_item, iP_item_0, iP_item_14, iP_item_22, iP_item_47, iP_item_88, iP_item_107, iP_item_113, iP_item_132, vP_item, wps, x_cnd, reduceIte, Nat.reduceAdd, Nat.reduceSub, Nat.reduceEqDiff, Nat.reduceLeDiff, Nat.lt_irrefl, Nat.reduceLT, Int.cast_ofNat_Int, wq_c0, wq_c1, true_and, and_true, and_self, true_implies, forall_const, ne_eq, Decidable.not_not, not_true_eq_false, not_false_eq_true, List.map_nil, List.map_cons, List.sum_nil, List.sum_cons, List.length_cons, List.length_nil, Nat.le_refl, Nat.zero_le, reduceCtorEq, true_or, or_true, false_or, or_false, false_and, and_false, false_implies, Nat.zero_add, Nat.add_zero, Int.reduceEq, Int.reduceNe, Int.reduceLT, Int.reduceLE, Int.reduceNeg, Int.reduceToNat, Nat.not_lt_zero, Int.reduceAdd, fxs C.F, e2, e3]
  refine ⟨fun c3 => ⟨by omega, by omega, kv k (by rw [if_pos c3])⟩, fun c3 => kv k ?_, fun c3 => ⟨by omega, ?_⟩, fun c3 => ?_⟩
  · simp (disch := omega) only [w32_of]
    rw [if_neg (by omega), if_pos c3]
  · refine cS_contentAt C.F.s17 h6 (by omega) ?_
    rw [e4]
    simp only [wq_g3, wq_gc, wq_g, wq_g1, wq_g2, eP_item, iP_item_0, iP_item_14, iP_item_22, iP_item_47, iP_item_88, iP_item_107, iP_item_113, iP_item_132, vP_item, wps, x_cnd, reduceIte, Nat.reduceAdd, Nat.reduceSub, Nat.reduceEqDiff, Nat.reduceLeDiff, Nat.lt_irrefl, Nat.reduceLT, Int.cast_ofNat_Int, wq_c0, wq_c1, true_and, and_true, and_self, true_implies, forall_const, ne_eq, Decidable.not_not, not_true_eq_false, not_false_eq_true, List.map_nil, List.map_cons, List.sum_nil, List.sum_cons, List.length_cons, List.length_nil, Nat.le_refl, Nat.zero_le, reduceCtorEq, true_or, or_true, false_or, or_false, false_and, and_false, false_implies, Nat.zero_add, Nat.add_zero, Int.reduceEq, Int.reduceNe, Int.reduceLT, Int.reduceLE, Int.reduceNeg, Int.reduceToNat, Nat.not_lt_zero, Int.reduceAdd]
    exact kv k (by rw [if_neg (by omega), if_neg (by omega), if_pos c3])
  · refine cV_sumBeats C.F C.R C.w C.V (by omega) (by omega) ?_
    simp only [wq_g3, wq_gc, wq_g, wq_g1, wq_g2, eP_item, iP_item_0, iP_item_14, iP_item_22, iP_item_47, iP_item_88, iP_item_107, iP_item_113, iP_item_132, vP_item, wps, x_cnd, reduceIte, Nat.reduceAdd, Nat.reduceSub, Nat.reduceEqDiff, Nat.reduceLeDiff, Nat.lt_irrefl, Nat.reduceLT, Int.cast_ofNat_Int, wq_c0, wq_c1, true_and, and_true, and_self, true_implies, forall_const, ne_eq, Decidable.not_not, not_true_eq_false, not_false_eq_true, List.map_nil, List.map_cons, List.sum_nil, List.sum_cons, List.length_cons, List.length_nil, Nat.le_refl, Nat.zero_le, reduceCtorEq, true_or, or_true, false_or, or_false, false_and, and_false, false_implies, Nat.zero_add, Nat.add_zero, Int.reduceEq, Int.reduceNe, Int.reduceLT, Int.reduceLE, Int.reduceNeg, Int.reduceToNat, Nat.not_lt_zero, Int.reduceAdd]
    exact kv k (by rw [if_neg (by omega), if_neg (by omega), if_neg (by omega)])
theorem cP_requirePrint (C : CW A M h) {n : Nat} (h6 : n < 6) (k0 : sQ (aS A) n ≠ 1 → Φ (.inr 0) M h) (k : ∀ r : Nat, sQ (aS A) n = 1 → repN (sR (aS A) n) M h r → Φ (.inl (some (xA r))) M h) : x_Cal zP_requirePrint [xA 1, xI n] M h Φ := by
  refine x_met0 kP_requirePrint (Nat.le_of_ble_eq_true rfl) ?_
  simp only [wq_g3, wq_gc, wq_g, wq_g1, wq_g2, eP_requirePrint, iP_requirePrint_0, iP_requirePrint_22, vP_requirePrint, wps, x_cnd, reduceIte, Nat.reduceAdd, Nat.reduceSub, Nat.reduceEqDiff, Nat.reduceLeDiff, Nat.lt_irrefl, Nat.reduceLT, Int.cast_ofNat_Int, wq_c0, wq_c1, true_and, and_true, and_self, true_implies, forall_const, ne_eq, Decidable.not_not, not_true_eq_false, not_false_eq_true, List.map_nil, List.map_cons, List.sum_nil, List.sum_cons, List.length_cons, List.length_nil, Nat.le_refl, Nat.zero_le, reduceCtorEq, true_or, or_true, false_or, or_false, false_and, and_false, false_implies, Nat.zero_add, Nat.add_zero, Int.reduceEq, Int.reduceNe, Int.reduceLT, Int.reduceLE, Int.reduceNeg, Int.reduceToNat, Nat.not_lt_zero, Int.reduceAdd, fxs C.F]
  rcases C.R.pr h6 with ⟨e1, e2⟩ | ⟨e1, e2⟩
  · have e3 : hP h 27 n = 0 := e2
    exact ⟨by omega, fun c => absurd e3 c, fun c => k0 (by omega)⟩
  · have e3 : hP h 27 n ≠ 0 := by
      have z : 42 ≤ hP h 27 n := e2.1.2.1
      omega
    exact ⟨by omega, fun c => k _ e1 e2, fun c => absurd c e3⟩
theorem cP_errata (C : CW A M h) {part : Int} (k : ∀ M', (∀ a j, ¬ (a = 36 ∧ 0 ≤ j ∧ j ≤ 2) → M' a j = M a j) → Φ (xo (anErrata (aS A) (aI A) part)) M' h) : x_Cal zP_errata [xA 1, xI part] M h Φ := by
  unfold anErrata anPt at k
  refine x_met0 kP_errata (Nat.le_of_ble_eq_true rfl) ?_
  simp only [wq_g3, wq_gc, wq_g, wq_g1, wq_g2, eP_errata, iP_errata_0, vP_errata, wps, x_cnd, reduceIte, Nat.reduceAdd, Nat.reduceSub, Nat.reduceEqDiff, Nat.reduceLeDiff, Nat.lt_irrefl, Nat.reduceLT, Int.cast_ofNat_Int, wq_c0, wq_c1, true_and, and_true, and_self, true_implies, forall_const, ne_eq, Decidable.not_not, not_true_eq_false, not_false_eq_true, List.map_nil, List.map_cons, List.sum_nil, List.sum_cons, List.length_cons, List.length_nil, Nat.le_refl, Nat.zero_le, reduceCtorEq, true_or, or_true, false_or, or_false, false_and, and_false, false_implies, Nat.zero_add, Nat.add_zero, Int.reduceEq, Int.reduceNe, Int.reduceLT, Int.reduceLE, Int.reduceNeg, Int.reduceToNat, Nat.not_lt_zero, Int.reduceAdd, fxs C.F]
  refine cP_requirePart C (fun c0 => ?_) (fun n h1 h2 h6 => ?_)
  · simp only [wq_g3, wq_gc, wq_g, wq_g1, wq_g2, eP_errata, iP_errata_0, vP_errata, wps, x_cnd, reduceIte, Nat.reduceAdd, Nat.reduceSub, Nat.reduceEqDiff, Nat.reduceLeDiff, Nat.lt_irrefl, Nat.reduceLT, Int.cast_ofNat_Int, wq_c0, wq_c1, true_and, and_true, and_self, true_implies, forall_const, ne_eq, Decidable.not_not, not_true_eq_false, not_false_eq_true, List.map_nil, List.map_cons, List.sum_nil, List.sum_cons, List.length_cons, List.length_nil, Nat.le_refl, Nat.zero_le, reduceCtorEq, true_or, or_true, false_or, or_false, false_and, and_false, false_implies, Nat.zero_add, Nat.add_zero, Int.reduceEq, Int.reduceNe, Int.reduceLT, Int.reduceLE, Int.reduceNeg, Int.reduceToNat, Nat.not_lt_zero, Int.reduceAdd]
    exact ke (k M (fun _ _ _ => rfl)) (by rw [if_neg c0])
  subst h1
  rw [if_pos ⟨by omega, by omega⟩] at k
  simp only [wq_g3, wq_gc, wq_g, wq_g1, wq_g2, eP_errata, iP_errata_0, vP_errata, wps, x_cnd, reduceIte, Nat.reduceAdd, Nat.reduceSub, Nat.reduceEqDiff, Nat.reduceLeDiff, Nat.lt_irrefl, Nat.reduceLT, Int.cast_ofNat_Int, wq_c0, wq_c1, true_and, and_true, and_self, true_implies, forall_const, ne_eq, Decidable.not_not, not_true_eq_false, not_false_eq_true, List.map_nil, List.map_cons, List.sum_nil, List.sum_cons, List.length_cons, List.length_nil, Nat.le_refl, Nat.zero_le, reduceCtorEq, true_or, or_true, false_or, or_false, false_and, and_false, false_implies, Nat.zero_add, Nat.add_zero, Int.reduceEq, Int.reduceNe, Int.reduceLT, Int.reduceLE, Int.reduceNeg, Int.reduceToNat, Nat.not_lt_zero, Int.reduceAdd, fxs C.F]
  refine cP_requirePrint C h6 (fun c0 => ?_) (fun r c0 rN => ?_)
  · simp only [wq_g3, wq_gc, wq_g, wq_g1, wq_g2, eP_errata, iP_errata_0, vP_errata, wps, x_cnd, reduceIte, Nat.reduceAdd, Nat.reduceSub, Nat.reduceEqDiff, Nat.reduceLeDiff, Nat.lt_irrefl, Nat.reduceLT, Int.cast_ofNat_Int, wq_c0, wq_c1, true_and, and_true, and_self, true_implies, forall_const, ne_eq, Decidable.not_not, not_true_eq_false, not_false_eq_true, List.map_nil, List.map_cons, List.sum_nil, List.sum_cons, List.length_cons, List.length_nil, Nat.le_refl, Nat.zero_le, reduceCtorEq, true_or, or_true, false_or, or_false, false_and, and_false, false_implies, Nat.zero_add, Nat.add_zero, Int.reduceEq, Int.reduceNe, Int.reduceLT, Int.reduceLE, Int.reduceNeg, Int.reduceToNat, Nat.not_lt_zero, Int.reduceAdd]
    exact ke (k M (fun _ _ _ => rfl)) (by rw [if_neg c0])
  rw [if_pos c0] at k
  simp only [wq_g3, wq_gc, wq_g, wq_g1, wq_g2, eP_errata, iP_errata_0, vP_errata, wps, x_cnd, reduceIte, Nat.reduceAdd, Nat.reduceSub, Nat.reduceEqDiff, Nat.reduceLeDiff, Nat.lt_irrefl, Nat.reduceLT, Int.cast_ofNat_Int, wq_c0, wq_c1, true_and, and_true, and_self, true_implies, forall_const, ne_eq, Decidable.not_not, not_true_eq_false, not_false_eq_true, List.map_nil, List.map_cons, List.sum_nil, List.sum_cons, List.length_cons, List.length_nil, Nat.le_refl, Nat.zero_le, reduceCtorEq, true_or, or_true, false_or, or_false, false_and, and_false, false_implies, Nat.zero_add, Nat.add_zero, Int.reduceEq, Int.reduceNe, Int.reduceLT, Int.reduceLE, Int.reduceNeg, Int.reduceToNat, Nat.not_lt_zero, Int.reduceAdd, fxs C.F]
  have hi := C.i
  refine cE_walk (nid := aI A) C.F C.R C.w C.V rN h6 (by omega) (by omega) (fun id hf => by rcases C.w.r h6 id with z | z; exact absurd z hf; exact z.1.2) (fun M' m f1 f2 f3 f4 => ?_)
  have g : erN (aS A) n (sR (aS A) n) (aI A) ≤ 300 := erN_300 C.w rN
  simp only [wq_g3, wq_gc, wq_g, wq_g1, wq_g2, eP_errata, iP_errata_0, vP_errata, wps, x_cnd, reduceIte, Nat.reduceAdd, Nat.reduceSub, Nat.reduceEqDiff, Nat.reduceLeDiff, Nat.lt_irrefl, Nat.reduceLT, Int.cast_ofNat_Int, wq_c0, wq_c1, true_and, and_true, and_self, true_implies, forall_const, ne_eq, Decidable.not_not, not_true_eq_false, not_false_eq_true, List.map_nil, List.map_cons, List.sum_nil, List.sum_cons, List.length_cons, List.length_nil, Nat.le_refl, Nat.zero_le, reduceCtorEq, true_or, or_true, false_or, or_false, false_and, and_false, false_implies, Nat.zero_add, Nat.add_zero, Int.reduceEq, Int.reduceNe, Int.reduceLT, Int.reduceLE, Int.reduceNeg, Int.reduceToNat, Nat.not_lt_zero, Int.reduceAdd]
  exact kv (k M' f1) (by rw [show m = erN (aS A) n (sR (aS A) n) (aI A) by omega])
theorem cP_erratum (C : CW A M h) {part e w : Int} (k : ∀ M', (∀ a j, ¬ (a = 36 ∧ 0 ≤ j ∧ j ≤ 2) → M' a j = M a j) → Φ (xo (anErratum (aS A) (aI A) part e w)) M' h) : x_Cal zP_erratum [xA 1, xI part, xI e, xI w] M h Φ := by
  unfold anErratum anPt at k
  refine x_met0 kP_erratum (Nat.le_of_ble_eq_true rfl) ?_
  simp only [wq_g3, wq_gc, wq_g, wq_g1, wq_g2, eP_erratum, iP_erratum_0, iP_erratum_14, iP_erratum_22, iP_erratum_52, iP_erratum_60, iP_erratum_88, iP_erratum_96, iP_erratum_104, vP_erratum, wps, x_cnd, reduceIte, Nat.reduceAdd, Nat.reduceSub, Nat.reduceEqDiff, Nat.reduceLeDiff, Nat.lt_irrefl, Nat.reduceLT, Int.cast_ofNat_Int, wq_c0, wq_c1, true_and, and_true, and_self, true_implies, forall_const, ne_eq, Decidable.not_not, not_true_eq_false, not_false_eq_true, List.map_nil, List.map_cons, List.sum_nil, List.sum_cons, List.length_cons, List.length_nil, Nat.le_refl, Nat.zero_le, reduceCtorEq, true_or, or_true, false_or, or_false, false_and, and_false, false_implies, Nat.zero_add, Nat.add_zero, Int.reduceEq, Int.reduceNe, Int.reduceLT, Int.reduceLE, Int.reduceNeg, Int.reduceToNat, Nat.not_lt_zero, Int.reduceAdd, fxs C.F]
  refine cP_requirePart C (fun c0 => ?_) (fun n h1 h2 h6 => ?_)
  · simp only [wq_g3, wq_gc, wq_g, wq_g1, wq_g2, eP_erratum, iP_erratum_0, iP_erratum_14, iP_erratum_22, iP_erratum_52, iP_erratum_60, iP_erratum_88, iP_erratum_96, iP_erratum_104, vP_erratum, wps, x_cnd, reduceIte, Nat.reduceAdd, Nat.reduceSub, Nat.reduceEqDiff, Nat.reduceLeDiff, Nat.lt_irrefl, Nat.reduceLT, Int.cast_ofNat_Int, wq_c0, wq_c1, true_and, and_true, and_self, true_implies, forall_const, ne_eq, Decidable.not_not, not_true_eq_false, not_false_eq_true, List.map_nil, List.map_cons, List.sum_nil, List.sum_cons, List.length_cons, List.length_nil, Nat.le_refl, Nat.zero_le, reduceCtorEq, true_or, or_true, false_or, or_false, false_and, and_false, false_implies, Nat.zero_add, Nat.add_zero, Int.reduceEq, Int.reduceNe, Int.reduceLT, Int.reduceLE, Int.reduceNeg, Int.reduceToNat, Nat.not_lt_zero, Int.reduceAdd]
    exact ke (k M (fun _ _ _ => rfl)) (by rw [if_neg c0])
  subst h1
  rw [if_pos ⟨by omega, by omega⟩] at k
  simp only [wq_g3, wq_gc, wq_g, wq_g1, wq_g2, eP_erratum, iP_erratum_0, iP_erratum_14, iP_erratum_22, iP_erratum_52, iP_erratum_60, iP_erratum_88, iP_erratum_96, iP_erratum_104, vP_erratum, wps, x_cnd, reduceIte, Nat.reduceAdd, Nat.reduceSub, Nat.reduceEqDiff, Nat.reduceLeDiff, Nat.lt_irrefl, Nat.reduceLT, Int.cast_ofNat_Int, wq_c0, wq_c1, true_and, and_true, and_self, true_implies, forall_const, ne_eq, Decidable.not_not, not_true_eq_false, not_false_eq_true, List.map_nil, List.map_cons, List.sum_nil, List.sum_cons, List.length_cons, List.length_nil, Nat.le_refl, Nat.zero_le, reduceCtorEq, true_or, or_true, false_or, or_false, false_and, and_false, false_implies, Nat.zero_add, Nat.add_zero, Int.reduceEq, Int.reduceNe, Int.reduceLT, Int.reduceLE, Int.reduceNeg, Int.reduceToNat, Nat.not_lt_zero, Int.reduceAdd, fxs C.F]
  refine ⟨fun c0 => ke (k M (fun _ _ _ => rfl)) (by rw [if_pos (by omega)]), fun c0 => ⟨fun c1 => ?_, fun c1 => ke (k M (fun _ _ _ => rfl)) (by rw [if_pos (by omega)])⟩⟩
  rw [if_neg (by omega)] at k
  refine cP_requirePrint C h6 (fun c2 => ?_) (fun r c2 rN => ?_)
  · simp only [wq_g3, wq_gc, wq_g, wq_g1, wq_g2, eP_erratum, iP_erratum_0, iP_erratum_14, iP_erratum_22, iP_erratum_52, iP_erratum_60, iP_erratum_88, iP_erratum_96, iP_erratum_104, vP_erratum, wps, x_cnd, reduceIte, Nat.reduceAdd, Nat.reduceSub, Nat.reduceEqDiff, Nat.reduceLeDiff, Nat.lt_irrefl, Nat.reduceLT, Int.cast_ofNat_Int, wq_c0, wq_c1, true_and, and_true, and_self, true_implies, forall_const, ne_eq, Decidable.not_not, not_true_eq_false, not_false_eq_true, List.map_nil, List.map_cons, List.sum_nil, List.sum_cons, List.length_cons, List.length_nil, Nat.le_refl, Nat.zero_le, reduceCtorEq, true_or, or_true, false_or, or_false, false_and, and_false, false_implies, Nat.zero_add, Nat.add_zero, Int.reduceEq, Int.reduceNe, Int.reduceLT, Int.reduceLE, Int.reduceNeg, Int.reduceToNat, Nat.not_lt_zero, Int.reduceAdd]
    exact ke (k M (fun _ _ _ => rfl)) (by rw [if_neg c2])
  rw [if_pos c2] at k
  simp only [wq_g3, wq_gc, wq_g, wq_g1, wq_g2, eP_erratum, iP_erratum_0, iP_erratum_14, iP_erratum_22, iP_erratum_52, iP_erratum_60, iP_erratum_88, iP_erratum_96, iP_erratum_104, vP_erratum, wps, x_cnd, reduceIte, Nat.reduceAdd, Nat.reduceSub, Nat.reduceEqDiff, Nat.reduceLeDiff, Nat.lt_irrefl, Nat.reduceLT, Int.cast_ofNat_Int, wq_c0, wq_c1, true_and, and_true, and_self, true_implies, forall_const, ne_eq, Decidable.not_not, not_true_eq_false, not_false_eq_true, List.map_nil, List.map_cons, List.sum_nil, List.sum_cons, List.length_cons, List.length_nil, Nat.le_refl, Nat.zero_le, reduceCtorEq, true_or, or_true, false_or, or_false, false_and, and_false, false_implies, Nat.zero_add, Nat.add_zero, Int.reduceEq, Int.reduceNe, Int.reduceLT, Int.reduceLE, Int.reduceNeg, Int.reduceToNat, Nat.not_lt_zero, Int.reduceAdd, fxs C.F]
  have hi := C.i
  refine ⟨fun c3 => ke (k M (fun _ _ _ => rfl)) (by rw [if_pos (Or.inl c3)]), fun c3 => ?_⟩
  refine cE_walk (nid := aI A) C.F C.R C.w C.V rN h6 (by omega) (by omega) (fun id hf => by rcases C.w.r h6 id with z | z; exact absurd z hf; exact z.1.2) (fun M' m f1 f2 f3 f4 => ?_)
  have g2 : erN (aS A) n (sR (aS A) n) (aI A) = cn (kdB (aS A) n (sR (aS A) n)) (aI A).toNat := rfl
  simp only [wq_g3, wq_gc, wq_g, wq_g1, wq_g2, eP_erratum, iP_erratum_0, iP_erratum_14, iP_erratum_22, iP_erratum_52, iP_erratum_60, iP_erratum_88, iP_erratum_96, iP_erratum_104, vP_erratum, wps, x_cnd, reduceIte, Nat.reduceAdd, Nat.reduceSub, Nat.reduceEqDiff, Nat.reduceLeDiff, Nat.lt_irrefl, Nat.reduceLT, Int.cast_ofNat_Int, wq_c0, wq_c1, true_and, and_true, and_self, true_implies, forall_const, ne_eq, Decidable.not_not, not_true_eq_false, not_false_eq_true, List.map_nil, List.map_cons, List.sum_nil, List.sum_cons, List.length_cons, List.length_nil, Nat.le_refl, Nat.zero_le, reduceCtorEq, true_or, or_true, false_or, or_false, false_and, and_false, false_implies, Nat.zero_add, Nat.add_zero, Int.reduceEq, Int.reduceNe, Int.reduceLT, Int.reduceLE, Int.reduceNeg, Int.reduceToNat, Nat.not_lt_zero, Int.reduceAdd, fxs C.F]
  refine ⟨fun c4 => ?_, fun c4 => ke (k M' f1) (by rw [if_pos (by omega)])⟩
  have e1 : m = e + 1 := by omega
  obtain ⟨z1, z2, z3⟩ := f4 (by omega)
  rw [e1, show e + 1 - 1 = e by omega] at z1 z2 z3
  have z0 : nth (kdB (aS A) n (sR (aS A) n)) (aI A).toNat e = erI (aS A) (aI A) n e := rfl
  rw [z0] at z1 z2 z3
  rw [z1, z2, z3]
  have k2 := k M' f1
  rw [if_neg (by omega)] at k2
  refine ⟨fun c5 => kv k2 (by rw [if_pos c5]), fun c5 => ⟨fun c6 => kv k2 (by rw [if_neg (by omega), if_pos c6]), fun c6 => kv k2 (by rw [if_neg (by omega), if_neg (by omega)])⟩⟩
theorem repN_ntl {f : Int → Int} {r N : Nat} {nid l : Int} (R : repN f M h r) (hN : M r 0 = N) (hf : ∀ id, f id ≠ -1 → 0 ≤ id ∧ id < nid) (hl : 1 ≤ l) : (if fi (M (r + 3)) l N = -1 then -1 else M (r + 1) (fi (M (r + 3)) l N)) = ntl f l nid := by
  have hc : ntc M r = N := by unfold ntc; omega
  unfold ntl
  rcases fi_lt (f := M (r + 3)) (x := l) (n := N) with h1 | ⟨e, e1, e2, e3, e4⟩
  · rw [if_pos h1, fi_none]
    intro q hq
    by_cases h2 : f q = -1
    · rw [if_pos h2]
      omega
    · rw [if_neg h2]
      obtain ⟨i, i1, i2⟩ := R.some h2
      obtain ⟨j1, j0, j2, j3, j4, j5⟩ := R.at i1
      have h3 := fi_no h1 i (by omega)
      rw [i2] at j1
      rw [j1]
      have := pk4_d (l := M (r + 2) i) j3 j4 j5
      omega
  · obtain ⟨j1, j0, j2, j3, j4, j5⟩ := R.at (e := e) (by omega)
    have hp := pk4_p j2.1 j3 j4 j5
    have hne : f (M (r + 1) e) ≠ -1 := by omega
    obtain ⟨b1, b2⟩ := hf _ hne
    obtain ⟨x, hx⟩ : ∃ x : Nat, M (r + 1) e = x := ⟨(M (r + 1) e).toNat, by omega⟩
    rw [e2, if_neg (by omega), hx]
    rw [hx] at j1 hne b2
    have := pk4_d (l := M (r + 2) e) j3 j4 j5
    refine (fi_eq (by omega) ?_ (fun q hq => ?_)).symm
    · show (if f x = -1 then _ else _) = l
      rw [if_neg hne, j1]
      omega
    · show (if f q = -1 then _ else _) ≠ l
      by_cases h2 : f q = -1
      · rw [if_pos h2]
        omega
      · rw [if_neg h2]
        obtain ⟨i, i1, i2⟩ := R.some h2
        obtain ⟨y1, y0, y2, y3, y4, y5⟩ := R.at i1
        have y6 := R.mono (i := i) (j := e) (by omega) i1 (by omega)
        have y7 := e4 i y6
        rw [i2] at y1
        rw [y1]
        have := pk4_d (l := M (r + 2) i) y3 y4 y5
        omega
end ASK
