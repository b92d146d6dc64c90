/-! the questions of ScoreParts -/
section ASK
variable {A : xAb} {M : xM} {h : xH} {Φ : xO → xM → xH → Prop}
set_option maxHeartbeats 1000000
theorem cP_errorCode (C : CW A M h) (k : Φ (.inl (some (xI (aE A)))) M h) : x_Cal zP_errorCode [xA 1] M h Φ := by
  refine x_met0 kP_errorCode (Nat.le_of_ble_eq_true rfl) ?_
  simp only [wq_g3, wq_gc, wq_g, wq_g1, wq_g2, eP_errorCode, iP_errorCode_0, vP_errorCode, wps, x_cnd, reduceIte, Nat.reduceAdd, Nat.reduceSub, Nat.reduceEqDiff, Nat.reduceLeDiff, Nat.lt_irrefl, Nat.reduceLT, Int.cast_ofNat_Int, wq_c0, wq_c1, true_and, and_true, and_self, true_implies, forall_const, ne_eq, Decidable.not_not, not_true_eq_false, not_false_eq_true, List.map_nil, List.map_cons, List.sum_nil, List.sum_cons, List.length_cons, List.length_nil, Nat.le_refl, Nat.zero_le, reduceCtorEq, true_or, or_true, false_or, or_false, false_and, and_false, false_implies, Nat.zero_add, Nat.add_zero, Int.reduceEq, Int.reduceNe, Int.reduceLT, Int.reduceLE, Int.reduceNeg, Int.reduceToNat, Nat.not_lt_zero, Int.reduceAdd, fxs C.F, C.r.2.1.1]
  exact k
theorem cP_errorPosition (C : CW A M h) (k : Φ (.inl (some (xI (aP A)))) M h) : x_Cal zP_errorPosition [xA 1] M h Φ := by
  refine x_met0 kP_errorPosition (Nat.le_of_ble_eq_true rfl) ?_
  simp only [wq_g3, wq_gc, wq_g, wq_g1, wq_g2, eP_errorPosition, iP_errorPosition_0, vP_errorPosition, wps, x_cnd, reduceIte, Nat.reduceAdd, Nat.reduceSub, Nat.reduceEqDiff, Nat.reduceLeDiff, Nat.lt_irrefl, Nat.reduceLT, Int.cast_ofNat_Int, wq_c0, wq_c1, true_and, and_true, and_self, true_implies, forall_const, ne_eq, Decidable.not_not, not_true_eq_false, not_false_eq_true, List.map_nil, List.map_cons, List.sum_nil, List.sum_cons, List.length_cons, List.length_nil, Nat.le_refl, Nat.zero_le, reduceCtorEq, true_or, or_true, false_or, or_false, false_and, and_false, false_implies, Nat.zero_add, Nat.add_zero, Int.reduceEq, Int.reduceNe, Int.reduceLT, Int.reduceLE, Int.reduceNeg, Int.reduceToNat, Nat.not_lt_zero, Int.reduceAdd, fxs C.F, C.r.2.1.2]
  exact k
theorem cP_bars (C : CW A M h) (k : Φ (.inl (some (xI (sN (aS A))))) M h) : x_Cal zP_bars [xA 1] M h Φ := by
  refine x_met0 kP_bars (Nat.le_of_ble_eq_true rfl) ?_
  simp only [wq_g3, wq_gc, wq_g, wq_g1, wq_g2, eP_bars, iP_bars_0, vP_bars, wps, x_cnd, reduceIte, Nat.reduceAdd, Nat.reduceSub, Nat.reduceEqDiff, Nat.reduceLeDiff, Nat.lt_irrefl, Nat.reduceLT, Int.cast_ofNat_Int, wq_c0, wq_c1, true_and, and_true, and_self, true_implies, forall_const, ne_eq, Decidable.not_not, not_true_eq_false, not_false_eq_true, List.map_nil, List.map_cons, List.sum_nil, List.sum_cons, List.length_cons, List.length_nil, Nat.le_refl, Nat.zero_le, reduceCtorEq, true_or, or_true, false_or, or_false, false_and, and_false, false_implies, Nat.zero_add, Nat.add_zero, Int.reduceEq, Int.reduceNe, Int.reduceLT, Int.reduceLE, Int.reduceNeg, Int.reduceToNat, Nat.not_lt_zero, Int.reduceAdd, fxs C.F, C.R.n]
  exact k
theorem cP_marks (C : CW A M h) (k : Φ (.inl (some (xI (mkN (aS A))))) M h) : x_Cal zP_marks [xA 1] M h Φ := by
  refine x_met0 kP_marks (Nat.le_of_ble_eq_true rfl) ?_
  simp only [wq_g3, wq_gc, wq_g, wq_g1, wq_g2, eP_marks, iP_marks_0, vP_marks, wps, x_cnd, reduceIte, Nat.reduceAdd, Nat.reduceSub, Nat.reduceEqDiff, Nat.reduceLeDiff, Nat.lt_irrefl, Nat.reduceLT, Int.cast_ofNat_Int, wq_c0, wq_c1, true_and, and_true, and_self, true_implies, forall_const, ne_eq, Decidable.not_not, not_true_eq_false, not_false_eq_true, List.map_nil, List.map_cons, List.sum_nil, List.sum_cons, List.length_cons, List.length_nil, Nat.le_refl, Nat.zero_le, reduceCtorEq, true_or, or_true, false_or, or_false, false_and, and_false, false_implies, Nat.zero_add, Nat.add_zero, Int.reduceEq, Int.reduceNe, Int.reduceLT, Int.reduceLE, Int.reduceNeg, Int.reduceToNat, Nat.not_lt_zero, Int.reduceAdd, fxs C.F, C.R.m]
  exact k
theorem cP_parts (C : CW A M h) (k : Φ (.inl (some (xI (sP (aS A))))) M h) : x_Cal zP_parts [xA 1] M h Φ := by
  refine x_met0 kP_parts (Nat.le_of_ble_eq_true rfl) ?_
  simp only [wq_g3, wq_gc, wq_g, wq_g1, wq_g2, eP_parts, iP_parts_0, vP_parts, wps, x_cnd, reduceIte, Nat.reduceAdd, Nat.reduceSub, Nat.reduceEqDiff, Nat.reduceLeDiff, Nat.lt_irrefl, Nat.reduceLT, Int.cast_ofNat_Int, wq_c0, wq_c1, true_and, and_true, and_self, true_implies, forall_const, ne_eq, Decidable.not_not, not_true_eq_false, not_false_eq_true, List.map_nil, List.map_cons, List.sum_nil, List.sum_cons, List.length_cons, List.length_nil, Nat.le_refl, Nat.zero_le, reduceCtorEq, true_or, or_true, false_or, or_false, false_and, and_false, false_implies, Nat.zero_add, Nat.add_zero, Int.reduceEq, Int.reduceNe, Int.reduceLT, Int.reduceLE, Int.reduceNeg, Int.reduceToNat, Nat.not_lt_zero, Int.reduceAdd, fxs C.F, C.R.p]
  exact k
theorem cP_played (C : CW A M h) (k : Φ (.inl (some (xI (pN (aS A))))) M h) : x_Cal zP_played [xA 1] M h Φ := by
  refine x_met0 kP_played (Nat.le_of_ble_eq_true rfl) ?_
  simp only [wq_g3, wq_gc, wq_g, wq_g1, wq_g2, eP_played, iP_played_0, vP_played, wps, x_cnd, reduceIte, Nat.reduceAdd, Nat.reduceSub, Nat.reduceEqDiff, Nat.reduceLeDiff, Nat.lt_irrefl, Nat.reduceLT, Int.cast_ofNat_Int, wq_c0, wq_c1, true_and, and_true, and_self, true_implies, forall_const, ne_eq, Decidable.not_not, not_true_eq_false, not_false_eq_true, List.map_nil, List.map_cons, List.sum_nil, List.sum_cons, List.length_cons, List.length_nil, Nat.le_refl, Nat.zero_le, reduceCtorEq, true_or, or_true, false_or, or_false, false_and, and_false, false_implies, Nat.zero_add, Nat.add_zero, Int.reduceEq, Int.reduceNe, Int.reduceLT, Int.reduceLE, Int.reduceNeg, Int.reduceToNat, Nat.not_lt_zero, Int.reduceAdd, fxs C.F, C.V.n]
  exact k
theorem cP_undoCount (C : CW A M h) (k : Φ (.inl (some (xI (aH A)))) M h) : x_Cal zP_undoCount [xA 1] M h Φ := by
  refine x_met0 kP_undoCount (Nat.le_of_ble_eq_true rfl) ?_
  simp only [wq_g3, wq_gc, wq_g, wq_g1, wq_g2, eP_undoCount, iP_undoCount_0, vP_undoCount, wps, x_cnd, reduceIte, Nat.reduceAdd, Nat.reduceSub, Nat.reduceEqDiff, Nat.reduceLeDiff, Nat.lt_irrefl, Nat.reduceLT, Int.cast_ofNat_Int, wq_c0, wq_c1, true_and, and_true, and_self, true_implies, forall_const, ne_eq, Decidable.not_not, not_true_eq_false, not_false_eq_true, List.map_nil, List.map_cons, List.sum_nil, List.sum_cons, List.length_cons, List.length_nil, Nat.le_refl, Nat.zero_le, reduceCtorEq, true_or, or_true, false_or, or_false, false_and, and_false, false_implies, Nat.zero_add, Nat.add_zero, Int.reduceEq, Int.reduceNe, Int.reduceLT, Int.reduceLE, Int.reduceNeg, Int.reduceToNat, Nat.not_lt_zero, Int.reduceAdd, fxs C.F, C.H.1.1]
  exact k
theorem cP_beats (C : CW A M h) (k : Φ (.inl (some (xI (bts (aS A) 0 (pN (aS A)).toNat)))) M h) : x_Cal zP_beats [xA 1] M h Φ := by
  have hpn := pN_rng (S := aS A)
  obtain ⟨n, hn⟩ : ∃ n : Nat, pN (aS A) = n := ⟨(pN (aS A)).toNat, by omega⟩
  have e : M 16 1 = n := C.V.n.trans hn
  refine x_met0 kP_beats (Nat.le_of_ble_eq_true rfl) ?_
  simp only [wq_g3, wq_gc, wq_g, wq_g1, wq_g2, eP_beats, iP_beats_0, vP_beats, wps, x_cnd, reduceIte, Nat.reduceAdd, Nat.reduceSub, Nat.reduceEqDiff, Nat.reduceLeDiff, Nat.lt_irrefl, Nat.reduceLT, Int.cast_ofNat_Int, wq_c0, wq_c1, true_and, and_true, and_self, true_implies, forall_const, ne_eq, Decidable.not_not, not_true_eq_false, not_false_eq_true, List.map_nil, List.map_cons, List.sum_nil, List.sum_cons, List.length_cons, List.length_nil, Nat.le_refl, Nat.zero_le, reduceCtorEq, true_or, or_true, false_or, or_false, false_and, and_false, false_implies, Nat.zero_add, Nat.add_zero, Int.reduceEq, Int.reduceNe, Int.reduceLT, Int.reduceLE, Int.reduceNeg, Int.reduceToNat, Nat.not_lt_zero, Int.reduceAdd, fxs C.F, e]
  refine cV_sumBeats (a := 0) (b := n) C.F C.R C.w C.V (by omega) (by omega) ?_
  simp only [wq_g3, wq_gc, wq_g, wq_g1, wq_g2, eP_beats, iP_beats_0, vP_beats, wps, x_cnd, reduceIte, Nat.reduceAdd, Nat.reduceSub, Nat.reduceEqDiff, Nat.reduceLeDiff, Nat.lt_irrefl, Nat.reduceLT, Int.cast_ofNat_Int, wq_c0, wq_c1, true_and, and_true, and_self, true_implies, forall_const, ne_eq, Decidable.not_not, not_true_eq_false, not_false_eq_true, List.map_nil, List.map_cons, List.sum_nil, List.sum_cons, List.length_cons, List.length_nil, Nat.le_refl, Nat.zero_le, reduceCtorEq, true_or, or_true, false_or, or_false, false_and, and_false, false_implies, Nat.zero_add, Nat.add_zero, Int.reduceEq, Int.reduceNe, Int.reduceLT, Int.reduceLE, Int.reduceNeg, Int.reduceToNat, Nat.not_lt_zero, Int.reduceAdd]
  rw [hn] at k
  exact k
theorem cP_barAt (C : CW A M h) {p : Int} (k : Φ (xo (anBarAt (aS A) p)) M h) : x_Cal zP_barAt [xA 1, xI p] M h Φ := by
  have hN := C.w.N
  have e : M 17 0 = sN (aS A) := C.R.n
  refine x_met0 kP_barAt (Nat.le_of_ble_eq_true rfl) ?_
  simp only [wq_g3, wq_gc, wq_g, wq_g1, wq_g2, eP_barAt, iP_barAt_0, iP_barAt_15, iP_barAt_23, vP_barAt, wps, x_cnd, reduceIte, Nat.reduceAdd, Nat.reduceSub, Nat.reduceEqDiff, Nat.reduceLeDiff, Nat.lt_irrefl, Nat.reduceLT, Int.cast_ofNat_Int, wq_c0, wq_c1, true_and, and_true, and_self, true_implies, forall_const, ne_eq, Decidable.not_not, not_true_eq_false, not_false_eq_true, List.map_nil, List.map_cons, List.sum_nil, List.sum_cons, List.length_cons, List.length_nil, Nat.le_refl, Nat.zero_le, reduceCtorEq, true_or, or_true, false_or, or_false, false_and, and_false, false_implies, Nat.zero_add, Nat.add_zero, Int.reduceEq, Int.reduceNe, Int.reduceLT, Int.reduceLE, Int.reduceNeg, Int.reduceToNat, Nat.not_lt_zero, Int.reduceAdd, fxs C.F, e]
  unfold anBarAt at k
  refine ⟨fun c0 => ke k (by rw [if_neg (by omega)]), fun c0 => ⟨fun c1 => ⟨by omega, ?_⟩, fun c1 => ke k (by rw [if_neg (by omega)])⟩⟩
  obtain ⟨n, hn⟩ : ∃ n : Nat, p = n := ⟨p.toNat, by omega⟩
  subst hn
  have e2 : M 18 n = sI (aS A) n := C.R.id (by omega)
  rw [e2]
  exact kv k (by rw [if_pos (by omega)])
theorem cP_bar (C : CW A M h) {b w : Int} (k : Φ (xo (anBar (aS A) b w)) M h) : x_Cal zP_bar [xA 1, xI b, xI w] M h Φ := by
  have hN := C.w.N
  refine x_met0 kP_bar (Nat.le_of_ble_eq_true rfl) ?_
  simp only [wq_g3, wq_gc, wq_g, wq_g1, wq_g2, eP_bar, iP_bar_0, iP_bar_56, iP_bar_58, iP_bar_68, iP_bar_78, iP_bar_88, iP_bar_98, iP_bar_108, iP_bar_123, iP_bar_124, iP_bar_125, iP_bar_135, iP_bar_145, vP_bar, wps, x_cnd, reduceIte, Nat.reduceAdd, Nat.reduceSub, Nat.reduceEqDiff, Nat.reduceLeDiff, Nat.lt_irrefl, Nat.reduceLT, Int.cast_ofNat_Int, wq_c0, wq_c1, true_and, and_true, and_self, true_implies, forall_const, ne_eq, Decidable.not_not, not_true_eq_false, not_false_eq_true, List.map_nil, List.map_cons, List.sum_nil, List.sum_cons, List.length_cons, List.length_nil, Nat.le_refl, Nat.zero_le, reduceCtorEq, true_or, or_true, false_or, or_false, false_and, and_false, false_implies, Nat.zero_add, Nat.add_zero, Int.reduceEq, Int.reduceNe, Int.reduceLT, Int.reduceLE, Int.reduceNeg, Int.reduceToNat, Nat.not_lt_zero, Int.reduceAdd, fxs C.F]
  unfold anBar at k
  refine cP_requirePlace C (fun c0 => ?_) (fun p p1 p2 p3 => ?_)
  · simp only [wq_g3, wq_gc, wq_g, wq_g1, wq_g2, eP_bar, iP_bar_0, iP_bar_56, iP_bar_58, iP_bar_68, iP_bar_78, iP_bar_88, iP_bar_98, iP_bar_108, iP_bar_123, iP_bar_124, iP_bar_125, iP_bar_135, iP_bar_145, vP_bar, wps, x_cnd, reduceIte, Nat.reduceAdd, Nat.reduceSub, Nat.reduceEqDiff, Nat.reduceLeDiff, Nat.lt_irrefl, Nat.reduceLT, Int.cast_ofNat_Int, wq_c0, wq_c1, true_and, and_true, and_self, true_implies, forall_const, ne_eq, Decidable.not_not, not_true_eq_false, not_false_eq_true, List.map_nil, List.map_cons, List.sum_nil, List.sum_cons, List.length_cons, List.length_nil, Nat.le_refl, Nat.zero_le, reduceCtorEq, true_or, or_true, false_or, or_false, false_and, and_false, false_implies, Nat.zero_add, Nat.add_zero, Int.reduceEq, Int.reduceNe, Int.reduceLT, Int.reduceLE, Int.reduceNeg, Int.reduceToNat, Nat.not_lt_zero, Int.reduceAdd, fxs C.F]
    exact ke k (by rw [if_pos c0])
  have e1 := C.V.lab p1
  have e2 : M 19 p = sB (aS A) p := C.R.bt p1
  have e3 : M 20 p = sX (aS A) p := C.R.x p1
  have e4 : M 21 p = sT (aS A) p := C.R.t p1
  have e5 : M 22 p = sD (aS A) p := C.R.d p1
  have e7 := C.V.lt p1
  have e8 := C.V.sit p1
  rw [if_neg (by omega), p2] at k
  simp only [wq_g3, wq_gc, wq_g, wq_g1, wq_g2, eP_bar, iP_bar_0, iP_bar_56, iP_bar_58, iP_bar_68, iP_bar_78, iP_bar_88, iP_bar_98, iP_bar_108, iP_bar_123, iP_bar_124, iP_bar_125, iP_bar_135, iP_bar_145, vP_bar, wps, x_cnd, reduceIte, Nat.reduceAdd, Nat.reduceSub, Nat.reduceEqDiff, Nat.reduceLeDiff, Nat.lt_irrefl, Nat.reduceLT, Int.cast_ofNat_Int, wq_c0, wq_c1, true_and, and_true, and_self, true_implies, forall_const, ne_eq, Decidable.not_not, not_true_eq_false, not_false_eq_true, List.map_nil, List.map_cons, List.sum_nil, List.sum_cons, List.length_cons, List.length_nil, Nat.le_refl, Nat.zero_le, reduceCtorEq, true_or, or_true, false_or, or_false, false_and, and_false, false_implies, Nat.zero_add, Nat.add_zero, Int.reduceEq, Int.reduceNe, Int.reduceLT, Int.reduceLE, Int.reduceNeg, Int.reduceToNat, Nat.not_lt_zero, Int.reduceAdd, fxs C.F, e1, e2, e3, e4, e5, e7, e8]
  refine ⟨fun c => ?_, fun c => ⟨by omega, ?_⟩, fun c => ⟨by omega, ?_⟩, fun c => ⟨by omega, ?_⟩, fun c => ⟨by omega, ?_⟩, fun c => ⟨by omega, ?_⟩, fun c => ?_, fun c => ⟨by omega, ?_⟩, fun c => ⟨by omega, ?_⟩, fun c => ?_⟩
  · exact kv k (by rw [if_pos c])
  · exact kv k (by subst c; rfl)
  · exact kv k (by subst c; rfl)
  · exact kv k (by subst c; rfl)
  · exact kv k (by subst c; rfl)
  · exact kv k (by subst c; rfl)
  · subst c
    refine cV_isPlayed C.F C.w C.V p1 ?_
    simp only [wq_g3, wq_gc, wq_g, wq_g1, wq_g2, eP_bar, iP_bar_0, iP_bar_56, iP_bar_58, iP_bar_68, iP_bar_78, iP_bar_88, iP_bar_98, iP_bar_108, iP_bar_123, iP_bar_124, iP_bar_125, iP_bar_135, iP_bar_145, vP_bar, wps, x_cnd, reduceIte, Nat.reduceAdd, Nat.reduceSub, Nat.reduceEqDiff, Nat.reduceLeDiff, Nat.lt_irrefl, Nat.reduceLT, Int.cast_ofNat_Int, wq_c0, wq_c1, true_and, and_true, and_self, true_implies, forall_const, ne_eq, Decidable.not_not, not_true_eq_false, not_false_eq_true, List.map_nil, List.map_cons, List.sum_nil, List.sum_cons, List.length_cons, List.length_nil, Nat.le_refl, Nat.zero_le, reduceCtorEq, true_or, or_true, false_or, or_false, false_and, and_false, false_implies, Nat.zero_add, Nat.add_zero, Int.reduceEq, Int.reduceNe, Int.reduceLT, Int.reduceLE, Int.reduceNeg, Int.reduceToNat, Nat.not_lt_zero, Int.reduceAdd, fxs C.F, b01_0]
    have k2 : Φ (.inl (some (xI (b01 (cov (aS A) p = 0))))) M h := kv k rfl
    refine ⟨fun c1 => ?_, fun c1 => ?_⟩
    · rw [b01_f c1] at k2
      exact k2
    · rw [b01_t c1] at k2
      exact k2
  · exact kv k (by subst c; rfl)
  · exact kv k (by subst c; rfl)
  · exact ke k (by rw [if_neg (by omega), if_neg (by omega), if_neg (by omega), if_neg (by omega), if_neg (by omega), if_neg (by omega), if_neg (by omega), if_neg (by omega), if_neg (by omega)])
theorem cP_labelled (C : CW A M h) {l : Int} (k : Φ (xo (anLabelled (aS A) l)) M h) : x_Cal zP_labelled [xA 1, xI l] M h Φ := by
  have hN := C.w.N
  have e : M 17 0 = sN (aS A) := C.R.n
  refine x_metI kP_labelled (Nat.le_of_ble_eq_true rfl) (fun t m ls st M' h' c n => t = 2 ∧ st = [] ∧ M' = M ∧ h' = h ∧ c = 0 ∧ n = 0 ∧ ls 0 = some (xA 1) ∧ ls 1 = some (xI l) ∧ ∃ p : Nat, ls 2 = some (xI p) ∧ p ≤ sN (aS A) ∧ m = sN (aS A) - p ∧ fi (fun q => lab (aS A) q.toNat) l p = -1) 20 ?_ ?_
  · simp only [wq_g3, wq_gc, wq_g, wq_g1, wq_g2, eP_labelled, iP_labelled_0, iP_labelled_2, iP_labelled_36, iP_labelled_42, vP_labelled, wps, x_cnd, reduceIte, Nat.reduceAdd, Nat.reduceSub, Nat.reduceEqDiff, Nat.reduceLeDiff, Nat.lt_irrefl, Nat.reduceLT, Int.cast_ofNat_Int, wq_c0, wq_c1, true_and, and_true, and_self, true_implies, forall_const, ne_eq, Decidable.not_not, not_true_eq_false, not_false_eq_true, List.map_nil, List.map_cons, List.sum_nil, List.sum_cons, List.length_cons, List.length_nil, Nat.le_refl, Nat.zero_le, reduceCtorEq, true_or, or_true, false_or, or_false, false_and, and_false, false_implies, Nat.zero_add, Nat.add_zero, Int.reduceEq, Int.reduceNe, Int.reduceLT, Int.reduceLE, Int.reduceNeg, Int.reduceToNat, Nat.not_lt_zero, Int.reduceAdd]
    exact ⟨_, 0, rfl, by omega, rfl, rfl⟩
  · rintro t m ls st M' h' c n ⟨rfl, rfl, rfl, rfl, rfl, rfl, l0, l1, p, l2, q1, q2, q3⟩
    simp only [wq_g3, wq_gc, wq_g, wq_g1, wq_g2, eP_labelled, iP_labelled_0, iP_labelled_2, iP_labelled_36, iP_labelled_42, vP_labelled, wps, x_cnd, reduceIte, Nat.reduceAdd, Nat.reduceSub, Nat.reduceEqDiff, Nat.reduceLeDiff, Nat.lt_irrefl, Nat.reduceLT, Int.cast_ofNat_Int, wq_c0, wq_c1, true_and, and_true, and_self, true_implies, forall_const, ne_eq, Decidable.not_not, not_true_eq_false, not_false_eq_true, List.map_nil, List.map_cons, List.sum_nil, List.sum_cons, List.length_cons, List.length_nil, Nat.le_refl, Nat.zero_le, reduceCtorEq, true_or, or_true, false_or, or_false, false_and, and_false, false_implies, Nat.zero_add, Nat.add_zero, Int.reduceEq, Int.reduceNe, Int.reduceLT, Int.reduceLE, Int.reduceNeg, Int.reduceToNat, Nat.not_lt_zero, Int.reduceAdd, fxs C.F, e, l0, l1, l2]
    unfold anLabelled labP at k
    refine ⟨fun c0 => ?_, fun c0 => ⟨by omega, ?_⟩⟩
    · rw [show p = sN (aS A) by omega] at q3
      exact ke k (by rw [if_pos q3])
    · have e1 := C.V.lab (p := p) (by omega)
      have e2 : M' 18 p = sI (aS A) p := C.R.id (by omega)
      rw [e1, e2]
      refine ⟨fun c1 => ?_, fun c1 => ⟨by omega, ?_⟩⟩
      · simp (disch := omega) only [w32_of]
        exact ⟨sN (aS A) - (p + 1), by omega, p + 1, rfl, by omega, rfl, fi_step q3 c1⟩
      · have e3 := fi_found (f := fun q => lab (aS A) q.toNat) (p := p) (n := sN (aS A)) (by omega) c1 q3
        exact kv k (by rw [if_neg (by omega), e3])
theorem cP_cuts (C : CW A M h) (k : Φ (.inl (some (xI (bs (hasC (aS A)) 10)))) M h) : x_Cal zP_cuts [xA 1] M h Φ := by
  refine x_metI kP_cuts (Nat.le_of_ble_eq_true rfl) (fun t m ls st M' h' c n => t = 4 ∧ st = [] ∧ M' = M ∧ h' = h ∧ c = 0 ∧ n = 0 ∧ ls 0 = some (xA 1) ∧ ∃ p : Nat, ls 2 = some (xI p) ∧ p ≤ 10 ∧ m = 10 - p ∧ ls 1 = some (xI (bs (hasC (aS A)) p))) 20 ?_ ?_
  · simp only [wq_g3, wq_gc, wq_g, wq_g1, wq_g2, eP_cuts, iP_cuts_0, iP_cuts_4, iP_cuts_27, iP_cuts_33, vP_cuts, wps, x_cnd, reduceIte, Nat.reduceAdd, Nat.reduceSub, Nat.reduceEqDiff, Nat.reduceLeDiff, Nat.lt_irrefl, Nat.reduceLT, Int.cast_ofNat_Int, wq_c0, wq_c1, true_and, and_true, and_self, true_implies, forall_const, ne_eq, Decidable.not_not, not_true_eq_false, not_false_eq_true, List.map_nil, List.map_cons, List.sum_nil, List.sum_cons, List.length_cons, List.length_nil, Nat.le_refl, Nat.zero_le, reduceCtorEq, true_or, or_true, false_or, or_false, false_and, and_false, false_implies, Nat.zero_add, Nat.add_zero, Int.reduceEq, Int.reduceNe, Int.reduceLT, Int.reduceLE, Int.reduceNeg, Int.reduceToNat, Nat.not_lt_zero, Int.reduceAdd]
    exact ⟨_, 0, rfl, by omega, rfl, rfl⟩
  · rintro t m ls st M' h' c n ⟨rfl, rfl, rfl, rfl, rfl, rfl, l0, p, l2, q1, q2, l1⟩
    simp only [wq_g3, wq_gc, wq_g, wq_g1, wq_g2, eP_cuts, iP_cuts_0, iP_cuts_4, iP_cuts_27, iP_cuts_33, vP_cuts, wps, x_cnd, reduceIte, Nat.reduceAdd, Nat.reduceSub, Nat.reduceEqDiff, Nat.reduceLeDiff, Nat.lt_irrefl, Nat.reduceLT, Int.cast_ofNat_Int, wq_c0, wq_c1, true_and, and_true, and_self, true_implies, forall_const, ne_eq, Decidable.not_not, not_true_eq_false, not_false_eq_true, List.map_nil, List.map_cons, List.sum_nil, List.sum_cons, List.length_cons, List.length_nil, Nat.le_refl, Nat.zero_le, reduceCtorEq, true_or, or_true, false_or, or_false, false_and, and_false, false_implies, Nat.zero_add, Nat.add_zero, Int.reduceEq, Int.reduceNe, Int.reduceLT, Int.reduceLE, Int.reduceNeg, Int.reduceToNat, Nat.not_lt_zero, Int.reduceAdd, fxs C.F, l0, l1, l2]
    refine ⟨fun c0 => ?_, fun c0 => cS_hasCut C.F.s17 ?_⟩
    · rw [show p = 10 by omega]
      exact k
    have e8 : M' 25 p = sF (aS A) p := C.R.cf (by omega)
    simp only [wq_g3, wq_gc, wq_g, wq_g1, wq_g2, eP_cuts, iP_cuts_0, iP_cuts_4, iP_cuts_27, iP_cuts_33, vP_cuts, wps, x_cnd, reduceIte, Nat.reduceAdd, Nat.reduceSub, Nat.reduceEqDiff, Nat.reduceLeDiff, Nat.lt_irrefl, Nat.reduceLT, Int.cast_ofNat_Int, wq_c0, wq_c1, true_and, and_true, and_self, true_implies, forall_const, ne_eq, Decidable.not_not, not_true_eq_false, not_false_eq_true, List.map_nil, List.map_cons, List.sum_nil, List.sum_cons, List.length_cons, List.length_nil, Nat.le_refl, Nat.zero_le, reduceCtorEq, true_or, or_true, false_or, or_false, false_and, and_false, false_implies, Nat.zero_add, Nat.add_zero, Int.reduceEq, Int.reduceNe, Int.reduceLT, Int.reduceLE, Int.reduceNeg, Int.reduceToNat, Nat.not_lt_zero, Int.reduceAdd, fxs C.F, l0, l1, l2, b01_0, e8]
    refine ⟨fun c1 => ?_, fun c1 => ?_⟩
    · simp (disch := omega) only [w32_of]
      refine ⟨10 - (p + 1), by omega, p + 1, rfl, by omega, rfl, ?_⟩
      rw [bs_0 (by unfold hasC; simp; omega)]
    · simp (disch := omega) only [w32_of]
      refine ⟨10 - (p + 1), by omega, p + 1, rfl, by omega, rfl, ?_⟩
      rw [x_or_bs (by omega) (by unfold hasC; simp; omega)]
theorem cP_cut (C : CW A M h) {c l : Int} (k : Φ (xo (anCut (aS A) c l)) M h) : x_Cal zP_cut [xA 1, xI c, xI l] M h Φ := by
  refine x_met0 kP_cut (Nat.le_of_ble_eq_true rfl) ?_
  simp only [wq_g3, wq_gc, wq_g, wq_g1, wq_g2, eP_cut, iP_cut_0, iP_cut_21, iP_cut_30, vP_cut, wps, x_cnd, reduceIte, Nat.reduceAdd, Nat.reduceSub, Nat.reduceEqDiff, Nat.reduceLeDiff, Nat.lt_irrefl, Nat.reduceLT, Int.cast_ofNat_Int, wq_c0, wq_c1, true_and, and_true, and_self, true_implies, forall_const, ne_eq, Decidable.not_not, not_true_eq_false, not_false_eq_true, List.map_nil, List.map_cons, List.sum_nil, List.sum_cons, List.length_cons, List.length_nil, Nat.le_refl, Nat.zero_le, reduceCtorEq, true_or, or_true, false_or, or_false, false_and, and_false, false_implies, Nat.zero_add, Nat.add_zero, Int.reduceEq, Int.reduceNe, Int.reduceLT, Int.reduceLE, Int.reduceNeg, Int.reduceToNat, Nat.not_lt_zero, Int.reduceAdd, fxs C.F]
  unfold anCut at k
  refine cP_requireCut C (fun c0 => ?_) (fun n h1 h2 h3 => ?_)
  · simp only [wq_g3, wq_gc, wq_g, wq_g1, wq_g2, eP_cut, iP_cut_0, iP_cut_21, iP_cut_30, vP_cut, wps, x_cnd, reduceIte, Nat.reduceAdd, Nat.reduceSub, Nat.reduceEqDiff, Nat.reduceLeDiff, Nat.lt_irrefl, Nat.reduceLT, Int.cast_ofNat_Int, wq_c0, wq_c1, true_and, and_true, and_self, true_implies, forall_const, ne_eq, Decidable.not_not, not_true_eq_false, not_false_eq_true, List.map_nil, List.map_cons, List.sum_nil, List.sum_cons, List.length_cons, List.length_nil, Nat.le_refl, Nat.zero_le, reduceCtorEq, true_or, or_true, false_or, or_false, false_and, and_false, false_implies, Nat.zero_add, Nat.add_zero, Int.reduceEq, Int.reduceNe, Int.reduceLT, Int.reduceLE, Int.reduceNeg, Int.reduceToNat, Nat.not_lt_zero, Int.reduceAdd]
    exact ke k (by rw [if_neg c0])
  subst h1
  have e8 : M 25 n = sF (aS A) n := C.R.cf h2
  have e9 : M 26 n = sL (aS A) n := C.R.cl h2
  simp only [wq_g3, wq_gc, wq_g, wq_g1, wq_g2, eP_cut, iP_cut_0, iP_cut_21, iP_cut_30, vP_cut, wps, x_cnd, reduceIte, Nat.reduceAdd, Nat.reduceSub, Nat.reduceEqDiff, Nat.reduceLeDiff, Nat.lt_irrefl, Nat.reduceLT, Int.cast_ofNat_Int, wq_c0, wq_c1, true_and, and_true, and_self, true_implies, forall_const, ne_eq, Decidable.not_not, not_true_eq_false, not_false_eq_true, List.map_nil, List.map_cons, List.sum_nil, List.sum_cons, List.length_cons, List.length_nil, Nat.le_refl, Nat.zero_le, reduceCtorEq, true_or, or_true, false_or, or_false, false_and, and_false, false_implies, Nat.zero_add, Nat.add_zero, Int.reduceEq, Int.reduceNe, Int.reduceLT, Int.reduceLE, Int.reduceNeg, Int.reduceToNat, Nat.not_lt_zero, Int.reduceAdd, fxs C.F, e8, e9]
  rw [if_pos ⟨by omega, by omega, h3⟩] at k
  refine ⟨fun c1 => ⟨by omega, kv k (by rw [if_neg (by omega)])⟩, fun c1 => ⟨by omega, kv k (by rw [if_pos c1])⟩⟩
theorem cP_hiddenBy (C : CW A M h) {c : Int} (k : Φ (xo (anHidden (aS A) c)) M h) : x_Cal zP_hiddenBy [xA 1, xI c] M h Φ := by
  refine x_met0 kP_hiddenBy (Nat.le_of_ble_eq_true rfl) ?_
  simp only [wq_g3, wq_gc, wq_g, wq_g1, wq_g2, eP_hiddenBy, iP_hiddenBy_0, vP_hiddenBy, wps, x_cnd, reduceIte, Nat.reduceAdd, Nat.reduceSub, Nat.reduceEqDiff, Nat.reduceLeDiff, Nat.lt_irrefl, Nat.reduceLT, Int.cast_ofNat_Int, wq_c0, wq_c1, true_and, and_true, and_self, true_implies, forall_const, ne_eq, Decidable.not_not, not_true_eq_false, not_false_eq_true, List.map_nil, List.map_cons, List.sum_nil, List.sum_cons, List.length_cons, List.length_nil, Nat.le_refl, Nat.zero_le, reduceCtorEq, true_or, or_true, false_or, or_false, false_and, and_false, false_implies, Nat.zero_add, Nat.add_zero, Int.reduceEq, Int.reduceNe, Int.reduceLT, Int.reduceLE, Int.reduceNeg, Int.reduceToNat, Nat.not_lt_zero, Int.reduceAdd, fxs C.F]
  unfold anHidden at k
  refine cP_requireCut C (fun c0 => ?_) (fun n h1 h2 h3 => ?_)
  · simp only [wq_g3, wq_gc, wq_g, wq_g1, wq_g2, eP_hiddenBy, iP_hiddenBy_0, vP_hiddenBy, wps, x_cnd, reduceIte, Nat.reduceAdd, Nat.reduceSub, Nat.reduceEqDiff, Nat.reduceLeDiff, Nat.lt_irrefl, Nat.reduceLT, Int.cast_ofNat_Int, wq_c0, wq_c1, true_and, and_true, and_self, true_implies, forall_const, ne_eq, Decidable.not_not, not_true_eq_false, not_false_eq_true, List.map_nil, List.map_cons, List.sum_nil, List.sum_cons, List.length_cons, List.length_nil, Nat.le_refl, Nat.zero_le, reduceCtorEq, true_or, or_true, false_or, or_false, false_and, and_false, false_implies, Nat.zero_add, Nat.add_zero, Int.reduceEq, Int.reduceNe, Int.reduceLT, Int.reduceLE, Int.reduceNeg, Int.reduceToNat, Nat.not_lt_zero, Int.reduceAdd]
    exact ke k (by rw [if_neg c0])
  subst h1
  simp only [wq_g3, wq_gc, wq_g, wq_g1, wq_g2, eP_hiddenBy, iP_hiddenBy_0, vP_hiddenBy, wps, x_cnd, reduceIte, Nat.reduceAdd, Nat.reduceSub, Nat.reduceEqDiff, Nat.reduceLeDiff, Nat.lt_irrefl, Nat.reduceLT, Int.cast_ofNat_Int, wq_c0, wq_c1, true_and, and_true, and_self, true_implies, forall_const, ne_eq, Decidable.not_not, not_true_eq_false, not_false_eq_true, List.map_nil, List.map_cons, List.sum_nil, List.sum_cons, List.length_cons, List.length_nil, Nat.le_refl, Nat.zero_le, reduceCtorEq, true_or, or_true, false_or, or_false, false_and, and_false, false_implies, Nat.zero_add, Nat.add_zero, Int.reduceEq, Int.reduceNe, Int.reduceLT, Int.reduceLE, Int.reduceNeg, Int.reduceToNat, Nat.not_lt_zero, Int.reduceAdd, fxs C.F]
  refine cV_countHiddenBy C.F C.R C.w C.V h2 h3 ?_
  simp only [wq_g3, wq_gc, wq_g, wq_g1, wq_g2, eP_hiddenBy, iP_hiddenBy_0, vP_hiddenBy, wps, x_cnd, reduceIte, Nat.reduceAdd, Nat.reduceSub, Nat.reduceEqDiff, Nat.reduceLeDiff, Nat.lt_irrefl, Nat.reduceLT, Int.cast_ofNat_Int, wq_c0, wq_c1, true_and, and_true, and_self, true_implies, forall_const, ne_eq, Decidable.not_not, not_true_eq_false, not_false_eq_true, List.map_nil, List.map_cons, List.sum_nil, List.sum_cons, List.length_cons, List.length_nil, Nat.le_refl, Nat.zero_le, reduceCtorEq, true_or, or_true, false_or, or_false, false_and, and_false, false_implies, Nat.zero_add, Nat.add_zero, Int.reduceEq, Int.reduceNe, Int.reduceLT, Int.reduceLE, Int.reduceNeg, Int.reduceToNat, Nat.not_lt_zero, Int.reduceAdd]
  exact kv k (by rw [if_pos ⟨by omega, by omega, h3⟩])
theorem cP_mark (C : CW A M h) {l w : Int} (k : Φ (xo (anMark (aS A) l w)) M h) : x_Cal zP_mark [xA 1, xI l, xI w] M h Φ := by
  have hN := C.w.N
  refine x_met0 kP_mark (Nat.le_of_ble_eq_true rfl) ?_
  simp only [wq_g3, wq_gc, wq_g, wq_g1, wq_g2, eP_mark, iP_mark_0, iP_mark_32, iP_mark_42, iP_mark_58, iP_mark_74, iP_mark_75, iP_mark_76, vP_mark, wps, x_cnd, reduceIte, Nat.reduceAdd, Nat.reduceSub, Nat.reduceEqDiff, Nat.reduceLeDiff, Nat.lt_irrefl, Nat.reduceLT, Int.cast_ofNat_Int, wq_c0, wq_c1, true_and, and_true, and_self, true_implies, forall_const, ne_eq, Decidable.not_not, not_true_eq_false, not_false_eq_true, List.map_nil, List.map_cons, List.sum_nil, List.sum_cons, List.length_cons, List.length_nil, Nat.le_refl, Nat.zero_le, reduceCtorEq, true_or, or_true, false_or, or_false, false_and, and_false, false_implies, Nat.zero_add, Nat.add_zero, Int.reduceEq, Int.reduceNe, Int.reduceLT, Int.reduceLE, Int.reduceNeg, Int.reduceToNat, Nat.not_lt_zero, Int.reduceAdd, fxs C.F]
  unfold anMark at k
  refine cP_requireMark C (fun c0 => ?_) (fun n h1 h2 h3 h4 => ?_)
  · simp only [wq_g3, wq_gc, wq_g, wq_g1, wq_g2, eP_mark, iP_mark_0, iP_mark_32, iP_mark_42, iP_mark_58, iP_mark_74, iP_mark_75, iP_mark_76, vP_mark, wps, x_cnd, reduceIte, Nat.reduceAdd, Nat.reduceSub, Nat.reduceEqDiff, Nat.reduceLeDiff, Nat.lt_irrefl, Nat.reduceLT, Int.cast_ofNat_Int, wq_c0, wq_c1, true_and, and_true, and_self, true_implies, forall_const, ne_eq, Decidable.not_not, not_true_eq_false, not_false_eq_true, List.map_nil, List.map_cons, List.sum_nil, List.sum_cons, List.length_cons, List.length_nil, Nat.le_refl, Nat.zero_le, reduceCtorEq, true_or, or_true, false_or, or_false, false_and, and_false, false_implies, Nat.zero_add, Nat.add_zero, Int.reduceEq, Int.reduceNe, Int.reduceLT, Int.reduceLE, Int.reduceNeg, Int.reduceToNat, Nat.not_lt_zero, Int.reduceAdd]
    exact ke k (by rw [if_neg c0])
  subst h1
  rw [if_pos ⟨by omega, by omega, h4⟩] at k
  have e7 : M 24 n = sM (aS A) n := C.R.mk h2 h3
  simp only [wq_g3, wq_gc, wq_g, wq_g1, wq_g2, eP_mark, iP_mark_0, iP_mark_32, iP_mark_42, iP_mark_58, iP_mark_74, iP_mark_75, iP_mark_76, vP_mark, wps, x_cnd, reduceIte, Nat.reduceAdd, Nat.reduceSub, Nat.reduceEqDiff, Nat.reduceLeDiff, Nat.lt_irrefl, Nat.reduceLT, Int.cast_ofNat_Int, wq_c0, wq_c1, true_and, and_true, and_self, true_implies, forall_const, ne_eq, Decidable.not_not, not_true_eq_false, not_false_eq_true, List.map_nil, List.map_cons, List.sum_nil, List.sum_cons, List.length_cons, List.length_nil, Nat.le_refl, Nat.zero_le, reduceCtorEq, true_or, or_true, false_or, or_false, false_and, and_false, false_implies, Nat.zero_add, Nat.add_zero, Int.reduceEq, Int.reduceNe, Int.reduceLT, Int.reduceLE, Int.reduceNeg, Int.reduceToNat, Nat.not_lt_zero, Int.reduceAdd, fxs C.F, e7]
  refine ⟨fun c => ⟨by omega, kv k (by rw [if_pos c])⟩, fun c => cV_placeShown C.F C.R C.w C.V ?_, fun c => cV_placeOfLetter C.F C.R C.w C.V ?_, fun c => ke k (by rw [if_neg (by omega), if_neg (by omega), if_neg (by omega)])⟩
  · subst c
    simp only [wq_g3, wq_gc, wq_g, wq_g1, wq_g2, eP_mark, iP_mark_0, iP_mark_32, iP_mark_42, iP_mark_58, iP_mark_74, iP_mark_75, iP_mark_76, vP_mark, wps, x_cnd, reduceIte, Nat.reduceAdd, Nat.reduceSub, Nat.reduceEqDiff, Nat.reduceLeDiff, Nat.lt_irrefl, Nat.reduceLT, Int.cast_ofNat_Int, wq_c0, wq_c1, true_and, and_true, and_self, true_implies, forall_const, ne_eq, Decidable.not_not, not_true_eq_false, not_false_eq_true, List.map_nil, List.map_cons, List.sum_nil, List.sum_cons, List.length_cons, List.length_nil, Nat.le_refl, Nat.zero_le, reduceCtorEq, true_or, or_true, false_or, or_false, false_and, and_false, false_implies, Nat.zero_add, Nat.add_zero, Int.reduceEq, Int.reduceNe, Int.reduceLT, Int.reduceLE, Int.reduceNeg, Int.reduceToNat, Nat.not_lt_zero, Int.reduceAdd, fxs C.F]
    have hr := shl_rng (S := aS A) (l := (n : Int))
    refine cS_idAt C.F.s17 (by rw [C.R.n]; omega) ?_
    simp only [wq_g3, wq_gc, wq_g, wq_g1, wq_g2, eP_mark, iP_mark_0, iP_mark_32, iP_mark_42, iP_mark_58, iP_mark_74, iP_mark_75, iP_mark_76, vP_mark, wps, x_cnd, reduceIte, Nat.reduceAdd, Nat.reduceSub, Nat.reduceEqDiff, Nat.reduceLeDiff, Nat.lt_irrefl, Nat.reduceLT, Int.cast_ofNat_Int, wq_c0, wq_c1, true_and, and_true, and_self, true_implies, forall_const, ne_eq, Decidable.not_not, not_true_eq_false, not_false_eq_true, List.map_nil, List.map_cons, List.sum_nil, List.sum_cons, List.length_cons, List.length_nil, Nat.le_refl, Nat.zero_le, reduceCtorEq, true_or, or_true, false_or, or_false, false_and, and_false, false_implies, Nat.zero_add, Nat.add_zero, Int.reduceEq, Int.reduceNe, Int.reduceLT, Int.reduceLE, Int.reduceNeg, Int.reduceToNat, Nat.not_lt_zero, Int.reduceAdd]
    refine kv k ?_
    rw [if_neg (by decide), if_pos rfl]
    unfold idA
    rw [C.R.n]
    split
    · rename_i hh
      obtain ⟨q, hq⟩ : ∃ q : Nat, shl (aS A) n = q := ⟨(shl (aS A) n).toNat, by omega⟩
      rw [hq, C.R.id (by omega)]
    · rfl
  · subst c
    simp only [wq_g3, wq_gc, wq_g, wq_g1, wq_g2, eP_mark, iP_mark_0, iP_mark_32, iP_mark_42, iP_mark_58, iP_mark_74, iP_mark_75, iP_mark_76, vP_mark, wps, x_cnd, reduceIte, Nat.reduceAdd, Nat.reduceSub, Nat.reduceEqDiff, Nat.reduceLeDiff, Nat.lt_irrefl, Nat.reduceLT, Int.cast_ofNat_Int, wq_c0, wq_c1, true_and, and_true, and_self, true_implies, forall_const, ne_eq, Decidable.not_not, not_true_eq_false, not_false_eq_true, List.map_nil, List.map_cons, List.sum_nil, List.sum_cons, List.length_cons, List.length_nil, Nat.le_refl, Nat.zero_le, reduceCtorEq, true_or, or_true, false_or, or_false, false_and, and_false, false_implies, Nat.zero_add, Nat.add_zero, Int.reduceEq, Int.reduceNe, Int.reduceLT, Int.reduceLE, Int.reduceNeg, Int.reduceToNat, Nat.not_lt_zero, Int.reduceAdd, fxs C.F]
    have k2 : Φ (.inl (some (xI (b01 (cts (aS A) n ≠ -1))))) M h := kv k rfl
    refine ⟨fun c1 => ?_, fun c1 => ?_⟩
    · rw [b01_t c1] at k2
      exact k2
    · rw [b01_f (fun q => q c1)] at k2
      exact k2
theorem cP_from (C : CW A M h) {l n : Int} (hn0 : x_i32 n) (k : Φ (xo (anFrom (aS A) l n)) M h) : x_Cal zP_from [xA 1, xI l, xI n] M h Φ := by
  have hN := C.w.N
  have hpn := pN_rng (S := aS A)
  have hr := cts_rng (S := aS A) (l := l)
  refine x_met0 kP_from (Nat.le_of_ble_eq_true rfl) ?_
  simp only [wq_g3, wq_gc, wq_g, wq_g1, wq_g2, eP_from, iP_from_0, iP_from_22, iP_from_58, iP_from_66, vP_from, wps, x_cnd, reduceIte, Nat.reduceAdd, Nat.reduceSub, Nat.reduceEqDiff, Nat.reduceLeDiff, Nat.lt_irrefl, Nat.reduceLT, Int.cast_ofNat_Int, wq_c0, wq_c1, true_and, and_true, and_self, true_implies, forall_const, ne_eq, Decidable.not_not, not_true_eq_false, not_false_eq_true, List.map_nil, List.map_cons, List.sum_nil, List.sum_cons, List.length_cons, List.length_nil, Nat.le_refl, Nat.zero_le, reduceCtorEq, true_or, or_true, false_or, or_false, false_and, and_false, false_implies, Nat.zero_add, Nat.add_zero, Int.reduceEq, Int.reduceNe, Int.reduceLT, Int.reduceLE, Int.reduceNeg, Int.reduceToNat, Nat.not_lt_zero, Int.reduceAdd, fxs C.F]
  refine cV_placeOfLetter C.F C.R C.w C.V ?_
  simp only [wq_g3, wq_gc, wq_g, wq_g1, wq_g2, eP_from, iP_from_0, iP_from_22, iP_from_58, iP_from_66, vP_from, wps, x_cnd, reduceIte, Nat.reduceAdd, Nat.reduceSub, Nat.reduceEqDiff, Nat.reduceLeDiff, Nat.lt_irrefl, Nat.reduceLT, Int.cast_ofNat_Int, wq_c0, wq_c1, true_and, and_true, and_self, true_implies, forall_const, ne_eq, Decidable.not_not, not_true_eq_false, not_false_eq_true, List.map_nil, List.map_cons, List.sum_nil, List.sum_cons, List.length_cons, List.length_nil, Nat.le_refl, Nat.zero_le, reduceCtorEq, true_or, or_true, false_or, or_false, false_and, and_false, false_implies, Nat.zero_add, Nat.add_zero, Int.reduceEq, Int.reduceNe, Int.reduceLT, Int.reduceLE, Int.reduceNeg, Int.reduceToNat, Nat.not_lt_zero, Int.reduceAdd, fxs C.F]
  unfold anFrom at k
  obtain ⟨m1, m2⟩ := hn0
  refine ⟨fun c0 => ?_, fun c0 => ?_⟩
  · trace_state
    sorry
  · sorry
theorem cP_called (C : CW A M h) {b : Int} (k : Φ (xo (anCalled (aS A) b)) M h) : x_Cal zP_called [xA 1, xI b] M h Φ := by
  have hN := C.w.N
  have hpn := pN_rng (S := aS A)
  unfold anCalled anPl at k
  by_cases hbad : pl (aS A) b = -1 ∨ cov (aS A) (pl (aS A) b) ≠ 0
  · refine x_metI kP_called (Nat.le_of_ble_eq_true rfl) (fun _ _ _ _ _ _ _ _ => False) 20 ?_ (fun _ _ _ _ _ _ _ _ hf => hf.elim)
    simp only [wq_g3, wq_gc, wq_g, wq_g1, wq_g2, eP_called, iP_called_0, iP_called_8, iP_called_47, iP_called_53, vP_called, wps, x_cnd, reduceIte, Nat.reduceAdd, Nat.reduceSub, Nat.reduceEqDiff, Nat.reduceLeDiff, Nat.lt_irrefl, Nat.reduceLT, Int.cast_ofNat_Int, wq_c0, wq_c1, true_and, and_true, and_self, true_implies, forall_const, ne_eq, Decidable.not_not, not_true_eq_false, not_false_eq_true, List.map_nil, List.map_cons, List.sum_nil, List.sum_cons, List.length_cons, List.length_nil, Nat.le_refl, Nat.zero_le, reduceCtorEq, true_or, or_true, false_or, or_false, false_and, and_false, false_implies, Nat.zero_add, Nat.add_zero, Int.reduceEq, Int.reduceNe, Int.reduceLT, Int.reduceLE, Int.reduceNeg, Int.reduceToNat, Nat.not_lt_zero, Int.reduceAdd, fxs C.F]
    refine cP_requirePlayedIndex (f := fun _ => 0) C (fun c0 => ?_) (fun p p1 p2 p3 => ?_) (fun p i p1 p2 p3 => by rw [p2] at hbad; omega)
    · simp only [wq_g3, wq_gc, wq_g, wq_g1, wq_g2, eP_called, iP_called_0, iP_called_8, iP_called_47, iP_called_53, vP_called, wps, x_cnd, reduceIte, Nat.reduceAdd, Nat.reduceSub, Nat.reduceEqDiff, Nat.reduceLeDiff, Nat.lt_irrefl, Nat.reduceLT, Int.cast_ofNat_Int, wq_c0, wq_c1, true_and, and_true, and_self, true_implies, forall_const, ne_eq, Decidable.not_not, not_true_eq_false, not_false_eq_true, List.map_nil, List.map_cons, List.sum_nil, List.sum_cons, List.length_cons, List.length_nil, Nat.le_refl, Nat.zero_le, reduceCtorEq, true_or, or_true, false_or, or_false, false_and, and_false, false_implies, Nat.zero_add, Nat.add_zero, Int.reduceEq, Int.reduceNe, Int.reduceLT, Int.reduceLE, Int.reduceNeg, Int.reduceToNat, Nat.not_lt_zero, Int.reduceAdd, fxs C.F]
      exact ke k (by rw [if_pos c0])
    · simp only [wq_g3, wq_gc, wq_g, wq_g1, wq_g2, eP_called, iP_called_0, iP_called_8, iP_called_47, iP_called_53, vP_called, wps, x_cnd, reduceIte, Nat.reduceAdd, Nat.reduceSub, Nat.reduceEqDiff, Nat.reduceLeDiff, Nat.lt_irrefl, Nat.reduceLT, Int.cast_ofNat_Int, wq_c0, wq_c1, true_and, and_true, and_self, true_implies, forall_const, ne_eq, Decidable.not_not, not_true_eq_false, not_false_eq_true, List.map_nil, List.map_cons, List.sum_nil, List.sum_cons, List.length_cons, List.length_nil, Nat.le_refl, Nat.zero_le, reduceCtorEq, true_or, or_true, false_or, or_false, false_and, and_false, false_implies, Nat.zero_add, Nat.add_zero, Int.reduceEq, Int.reduceNe, Int.reduceLT, Int.reduceLE, Int.reduceNeg, Int.reduceToNat, Nat.not_lt_zero, Int.reduceAdd, fxs C.F]
      rw [p2] at k
      exact ke k (by rw [if_neg (by omega), if_pos p3])
  · obtain ⟨p, p1, p2, -⟩ := pl_some (fun q => hbad (Or.inl q))
    rw [p2] at hbad k
    have hcv : cov (aS A) p = 0 := by omega
    have g1 := pb_lt p1 (isP_iff.mpr hcv)
    have g0 := pb_rng (S := aS A) (p := p)
    obtain ⟨i, hi⟩ : ∃ i : Nat, pb (aS A) p = i := ⟨(pb (aS A) p).toNat, by omega⟩
    rw [if_neg (by omega), if_neg (fun q => q hcv), show (p : Int).toNat = p from rfl, hi, show (i : Int).toNat = i from rfl] at k
    refine x_metI kP_called (Nat.le_of_ble_eq_true rfl) (fun t m ls st M' h' c n => t = 8 ∧ st = [] ∧ M' = M ∧ h' = h ∧ c = 1 ∧ n = 6 ∧ ls 0 = some (xA 1) ∧ ls 2 = some (xI i) ∧ ∃ q : Nat, q ≤ i + 1 ∧ ls 3 = some (xI ((q : Int) - 1)) ∧ m = q ∧ clk (aS A) i q = clk (aS A) i (i + 1)) 20 ?_ ?_
    · simp only [wq_g3, wq_gc, wq_g, wq_g1, wq_g2, eP_called, iP_called_0, iP_called_8, iP_called_47, iP_called_53, vP_called, wps, x_cnd, reduceIte, Nat.reduceAdd, Nat.reduceSub, Nat.reduceEqDiff, Nat.reduceLeDiff, Nat.lt_irrefl, Nat.reduceLT, Int.cast_ofNat_Int, wq_c0, wq_c1, true_and, and_true, and_self, true_implies, forall_const, ne_eq, Decidable.not_not, not_true_eq_false, not_false_eq_true, List.map_nil, List.map_cons, List.sum_nil, List.sum_cons, List.length_cons, List.length_nil, Nat.le_refl, Nat.zero_le, reduceCtorEq, true_or, or_true, false_or, or_false, false_and, and_false, false_implies, Nat.zero_add, Nat.add_zero, Int.reduceEq, Int.reduceNe, Int.reduceLT, Int.reduceLE, Int.reduceNeg, Int.reduceToNat, Nat.not_lt_zero, Int.reduceAdd, fxs C.F]
      refine cP_requirePlayedIndex (f := fun _ => 0) C (fun c0 => by omega) (fun p' z1 z2 z3 => ?_) (fun p' i' z1 z2 z3 z4 z5 z6 => ?_)
      · have : p' = p := by omega
        subst this
        exact absurd hcv z3
      · have : p' = p := by omega
        subst this
        have : i' = i := by omega
        subst this
        simp only [wq_g3, wq_gc, wq_g, wq_g1, wq_g2, eP_called, iP_called_0, iP_called_8, iP_called_47, iP_called_53, vP_called, wps, x_cnd, reduceIte, Nat.reduceAdd, Nat.reduceSub, Nat.reduceEqDiff, Nat.reduceLeDiff, Nat.lt_irrefl, Nat.reduceLT, Int.cast_ofNat_Int, wq_c0, wq_c1, true_and, and_true, and_self, true_implies, forall_const, ne_eq, Decidable.not_not, not_true_eq_false, not_false_eq_true, List.map_nil, List.map_cons, List.sum_nil, List.sum_cons, List.length_cons, List.length_nil, Nat.le_refl, Nat.zero_le, reduceCtorEq, true_or, or_true, false_or, or_false, false_and, and_false, false_implies, Nat.zero_add, Nat.add_zero, Int.reduceEq, Int.reduceNe, Int.reduceLT, Int.reduceLE, Int.reduceNeg, Int.reduceToNat, Nat.not_lt_zero, Int.reduceAdd, fxs C.F]
        exact ⟨i' + 1, i' + 1, by omega, by rw [show ((i' + 1 : Nat) : Int) - 1 = i' by omega], rfl, rfl⟩
    · rintro t m ls st M' h' c n ⟨rfl, rfl, rfl, rfl, rfl, rfl, l0, l2, q, q1, l3, q2, q3⟩
      simp only [wq_g3, wq_gc, wq_g, wq_g1, wq_g2, eP_called, iP_called_0, iP_called_8, iP_called_47, iP_called_53, vP_called, wps, x_cnd, reduceIte, Nat.reduceAdd, Nat.reduceSub, Nat.reduceEqDiff, Nat.reduceLeDiff, Nat.lt_irrefl, Nat.reduceLT, Int.cast_ofNat_Int, wq_c0, wq_c1, true_and, and_true, and_self, true_implies, forall_const, ne_eq, Decidable.not_not, not_true_eq_false, not_false_eq_true, List.map_nil, List.map_cons, List.sum_nil, List.sum_cons, List.length_cons, List.length_nil, Nat.le_refl, Nat.zero_le, reduceCtorEq, true_or, or_true, false_or, or_false, false_and, and_false, false_implies, Nat.zero_add, Nat.add_zero, Int.reduceEq, Int.reduceNe, Int.reduceLT, Int.reduceLE, Int.reduceNeg, Int.reduceToNat, Nat.not_lt_zero, Int.reduceAdd, fxs C.F, l0, l2, l3]
      refine ⟨fun c0 => ?_, fun c0 => ?_⟩
      · rw [show q = 0 by omega] at q3
        exact kv k (by rw [← q3]; rfl)
      obtain ⟨q', hq'⟩ : ∃ q' : Nat, q = q' + 1 := ⟨q - 1, by omega⟩
      subst hq'
      rw [show ((q' + 1 : Nat) : Int) - 1 = q' by omega]
      obtain ⟨r, r1, r2, r3, r4⟩ := pp_some (S := aS A) (k := (q' : Int)) (by omega) (by omega)
      have e1 : M' 28 q' = r := (C.V.ppk (by omega)).trans r4
      have e2 := C.V.lt r1
      have e3 : 0 ≤ lt (aS A) r ∧ lt (aS A) r ≤ 40 := lt_rng
      rw [e1, e2]
      have hcl : clk (aS A) i (q' + 1) = if lt (aS A) r ≠ 0 then 1000 * lt (aS A) r + (i - q') else clk (aS A) i q' := by
        show (if lt (aS A) (pp (aS A) q') ≠ 0 then _ else _) = _
        rw [r4]
      rw [hcl] at q3
      trace_state
      sorry
end ASK
