/-! the model's questions: prints -/
section MPRT
variable {A : xAb} {M M' : xM} {h : xH} {Φ : xO → xM → xH → Prop} {S : xSr} {nid : Int}
set_option maxHeartbeats 1000000
theorem cM_noteAt {part k' : Nat} (h6 : part < 6) (hk : k' ≤ 150) (k : Φ (.inl (some (xI (371 + 300 * part + 2 * k')))) M h) : x_Cal zM_noteAt [xI part, xI k'] M h Φ := by
  refine x_met0 kM_noteAt (Nat.le_of_ble_eq_true rfl) ?_
  simp only [wq_g3, wq_gc, wq_g, wq_g1, wq_g2, eM_noteAt, iM_noteAt_0, vM_noteAt, wps, x_cnd, reduceIte, Nat.reduceAdd, Nat.reduceSub, Nat.reduceEqDiff, Nat.reduceLeDiff, Nat.lt_irrefl, Nat.reduceLT, Int.cast_ofNat_Int, wq_c0, wq_c1, true_and, and_true, and_self, true_implies, forall_const, ne_eq, Decidable.not_not, not_true_eq_false, not_false_eq_true, List.map_nil, List.map_cons, List.sum_nil, List.sum_cons, List.length_cons, List.length_nil, Nat.le_refl, Nat.zero_le, reduceCtorEq, true_or, or_true, false_or, or_false, false_and, and_false, false_implies, Nat.zero_add, Nat.add_zero, Int.reduceEq, Int.reduceNe, Int.reduceLT, Int.reduceLE, Int.reduceNeg, Int.reduceToNat, Nat.not_lt_zero, Int.reduceAdd]
  simp (disch := omega) only [w32_of]
  exact k
theorem cM_noteFor (F : Fx h) {g : Int → Int} {part : Nat} (h6 : part < 6) (N : NT g part (M 42)) {id : Int} (k : Φ (.inl (some (xI (g id)))) M h) : x_Cal zM_noteFor [xA 41, xI part, xI id] M h Φ := by
  obtain ⟨K, n1, n2, n3, n4⟩ := N
  refine x_metI kM_noteFor (Nat.le_of_ble_eq_true rfl) (fun t m ls st M' h' c n => t = 2 ∧ st = [] ∧ h' = h ∧ M' = M ∧ c = 0 ∧ n = 0 ∧ ls 0 = some (xA 41) ∧ ls 1 = some (xI part) ∧ ls 2 = some (xI id) ∧ ∃ p : Nat, p ≤ K ∧ m = K - p ∧ ls 3 = some (xI p) ∧ ∀ q : Nat, q < p → M 42 (371 + 300 * part + 2 * q) ≠ id) 20 ?_ ?_
  · simp only [wq_g3, wq_gc, wq_g, wq_g1, wq_g2, eM_noteFor, iM_noteFor_0, iM_noteFor_2, iM_noteFor_43, iM_noteFor_49, vM_noteFor, wps, x_cnd, reduceIte, Nat.reduceAdd, Nat.reduceSub, Nat.reduceEqDiff, Nat.reduceLeDiff, Nat.lt_irrefl, Nat.reduceLT, Int.cast_ofNat_Int, wq_c0, wq_c1, true_and, and_true, and_self, true_implies, forall_const, ne_eq, Decidable.not_not, not_true_eq_false, not_false_eq_true, List.map_nil, List.map_cons, List.sum_nil, List.sum_cons, List.length_cons, List.length_nil, Nat.le_refl, Nat.zero_le, reduceCtorEq, true_or, or_true, false_or, or_false, false_and, and_false, false_implies, Nat.zero_add, Nat.add_zero, Int.reduceEq, Int.reduceNe, Int.reduceLT, Int.reduceLE, Int.reduceNeg, Int.reduceToNat, Nat.not_lt_zero, Int.reduceAdd, fxs F]
    exact ⟨K - 0, 0, by omega, rfl, by rw [Int.natCast_zero], fun q hq => by omega⟩
  · rintro t m ls st M1 h' c n ⟨rfl, rfl, rfl, rfl, rfl, rfl, l0, l1, l2, p, q1, q2, l3, q3⟩
    simp only [wq_g3, wq_gc, wq_g, wq_g1, wq_g2, eM_noteFor, iM_noteFor_0, iM_noteFor_2, iM_noteFor_43, iM_noteFor_49, vM_noteFor, wps, x_cnd, reduceIte, Nat.reduceAdd, Nat.reduceSub, Nat.reduceEqDiff, Nat.reduceLeDiff, Nat.lt_irrefl, Nat.reduceLT, Int.cast_ofNat_Int, wq_c0, wq_c1, true_and, and_true, and_self, true_implies, forall_const, ne_eq, Decidable.not_not, not_true_eq_false, not_false_eq_true, List.map_nil, List.map_cons, List.sum_nil, List.sum_cons, List.length_cons, List.length_nil, Nat.le_refl, Nat.zero_le, reduceCtorEq, true_or, or_true, false_or, or_false, false_and, and_false, false_implies, Nat.zero_add, Nat.add_zero, Int.reduceEq, Int.reduceNe, Int.reduceLT, Int.reduceLE, Int.reduceNeg, Int.reduceToNat, Nat.not_lt_zero, Int.reduceAdd, fxs F, l0, l1, l2, l3]
    simp (disch := omega) only [w32_of]
    rw [n2]
    refine ⟨by omega, fun c0 => ?_, fun c0 => cM_noteAt h6 (by omega) ?_⟩
    · refine kr k ?_
      by_cases hg : g id = -1
      · exact hg
      · obtain ⟨q, h1, h2⟩ := n4 id hg
        exact absurd h2 (q3 q (by omega))
    · have n3p := n3 p (by omega)
      simp only [wq_g3, wq_gc, wq_g, wq_g1, wq_g2, eM_noteFor, iM_noteFor_0, iM_noteFor_2, iM_noteFor_43, iM_noteFor_49, vM_noteFor, wps, x_cnd, reduceIte, Nat.reduceAdd, Nat.reduceSub, Nat.reduceEqDiff, Nat.reduceLeDiff, Nat.lt_irrefl, Nat.reduceLT, Int.cast_ofNat_Int, wq_c0, wq_c1, true_and, and_true, and_self, true_implies, forall_const, ne_eq, Decidable.not_not, not_true_eq_false, not_false_eq_true, List.map_nil, List.map_cons, List.sum_nil, List.sum_cons, List.length_cons, List.length_nil, Nat.le_refl, Nat.zero_le, reduceCtorEq, true_or, or_true, false_or, or_false, false_and, and_false, false_implies, Nat.zero_add, Nat.add_zero, Int.reduceEq, Int.reduceNe, Int.reduceLT, Int.reduceLE, Int.reduceNeg, Int.reduceToNat, Nat.not_lt_zero, Int.reduceAdd, fxs F, l0, l1, l2, l3]
      refine ⟨by omega, fun c1 => ⟨K - (p + 1), by omega, p + 1, by omega, rfl, by rw [w32_of (by omega)]; exact congrArg (fun z => some (xI z)) (by omega), fun q hq => ?_⟩, fun c1 => cM_noteAt h6 (by omega) ?_⟩
      · by_cases hqp : q = p
        · subst hqp
          exact c1
        · exact q3 q (by omega)
      · simp only [wq_g3, wq_gc, wq_g, wq_g1, wq_g2, eM_noteFor, iM_noteFor_0, iM_noteFor_2, iM_noteFor_43, iM_noteFor_49, vM_noteFor, wps, x_cnd, reduceIte, Nat.reduceAdd, Nat.reduceSub, Nat.reduceEqDiff, Nat.reduceLeDiff, Nat.lt_irrefl, Nat.reduceLT, Int.cast_ofNat_Int, wq_c0, wq_c1, true_and, and_true, and_self, true_implies, forall_const, ne_eq, Decidable.not_not, not_true_eq_false, not_false_eq_true, List.map_nil, List.map_cons, List.sum_nil, List.sum_cons, List.length_cons, List.length_nil, Nat.le_refl, Nat.zero_le, reduceCtorEq, true_or, or_true, false_or, or_false, false_and, and_false, false_implies, Nat.zero_add, Nat.add_zero, Int.reduceEq, Int.reduceNe, Int.reduceLT, Int.reduceLE, Int.reduceNeg, Int.reduceToNat, Nat.not_lt_zero, Int.reduceAdd, fxs F, l0, l1, l2, l3]
        rw [w32_of (by omega), n3p.2.1, c1]
        exact ⟨by omega, k⟩
theorem cM_noteNow (F : Fx h) (G : SG S (M 42)) (w : wfS S nid) (L : LK S M) {part p : Nat} (h6 : part < 6) (hp : p < sN S) (k : Φ (.inl (some (xI (pk4 (lab S p) (lt S p) (sB S p) (sC S part p))))) M h) : x_Cal zM_noteNow [xA 41, xI part, xI p] M h Φ := by
  have hN := w.N
  refine x_met0 kM_noteNow (Nat.le_of_ble_eq_true rfl) ?_
  simp only [wq_g3, wq_gc, wq_g, wq_g1, wq_g2, eM_noteNow, iM_noteNow_0, vM_noteNow, wps, x_cnd, reduceIte, Nat.reduceAdd, Nat.reduceSub, Nat.reduceEqDiff, Nat.reduceLeDiff, Nat.lt_irrefl, Nat.reduceLT, Int.cast_ofNat_Int, wq_c0, wq_c1, true_and, and_true, and_self, true_implies, forall_const, ne_eq, Decidable.not_not, not_true_eq_false, not_false_eq_true, List.map_nil, List.map_cons, List.sum_nil, List.sum_cons, List.length_cons, List.length_nil, Nat.le_refl, Nat.zero_le, reduceCtorEq, true_or, or_true, false_or, or_false, false_and, and_false, false_implies, Nat.zero_add, Nat.add_zero, Int.reduceEq, Int.reduceNe, Int.reduceLT, Int.reduceLE, Int.reduceNeg, Int.reduceToNat, Nat.not_lt_zero, Int.reduceAdd, fxs F]
  rw [L.lab hp, L.lt hp]
  refine ⟨by omega, by omega, cM_whatAt F (by omega) ?_⟩
  rw [G.w hp]
  simp only [wq_g3, wq_gc, wq_g, wq_g1, wq_g2, eM_noteNow, iM_noteNow_0, vM_noteNow, wps, x_cnd, reduceIte, Nat.reduceAdd, Nat.reduceSub, Nat.reduceEqDiff, Nat.reduceLeDiff, Nat.lt_irrefl, Nat.reduceLT, Int.cast_ofNat_Int, wq_c0, wq_c1, true_and, and_true, and_self, true_implies, forall_const, ne_eq, Decidable.not_not, not_true_eq_false, not_false_eq_true, List.map_nil, List.map_cons, List.sum_nil, List.sum_cons, List.length_cons, List.length_nil, Nat.le_refl, Nat.zero_le, reduceCtorEq, true_or, or_true, false_or, or_false, false_and, and_false, false_implies, Nat.zero_add, Nat.add_zero, Int.reduceEq, Int.reduceNe, Int.reduceLT, Int.reduceLE, Int.reduceNeg, Int.reduceToNat, Nat.not_lt_zero, Int.reduceAdd, fxs F]
  refine cM_beatsIn w hp ?_
  simp only [wq_g3, wq_gc, wq_g, wq_g1, wq_g2, eM_noteNow, iM_noteNow_0, vM_noteNow, wps, x_cnd, reduceIte, Nat.reduceAdd, Nat.reduceSub, Nat.reduceEqDiff, Nat.reduceLeDiff, Nat.lt_irrefl, Nat.reduceLT, Int.cast_ofNat_Int, wq_c0, wq_c1, true_and, and_true, and_self, true_implies, forall_const, ne_eq, Decidable.not_not, not_true_eq_false, not_false_eq_true, List.map_nil, List.map_cons, List.sum_nil, List.sum_cons, List.length_cons, List.length_nil, Nat.le_refl, Nat.zero_le, reduceCtorEq, true_or, or_true, false_or, or_false, false_and, and_false, false_implies, Nat.zero_add, Nat.add_zero, Int.reduceEq, Int.reduceNe, Int.reduceLT, Int.reduceLE, Int.reduceNeg, Int.reduceToNat, Nat.not_lt_zero, Int.reduceAdd, fxs F]
  refine cM_contentAt F G w hp h6 ?_
  simp only [wq_g3, wq_gc, wq_g, wq_g1, wq_g2, eM_noteNow, iM_noteNow_0, vM_noteNow, wps, x_cnd, reduceIte, Nat.reduceAdd, Nat.reduceSub, Nat.reduceEqDiff, Nat.reduceLeDiff, Nat.lt_irrefl, Nat.reduceLT, Int.cast_ofNat_Int, wq_c0, wq_c1, true_and, and_true, and_self, true_implies, forall_const, ne_eq, Decidable.not_not, not_true_eq_false, not_false_eq_true, List.map_nil, List.map_cons, List.sum_nil, List.sum_cons, List.length_cons, List.length_nil, Nat.le_refl, Nat.zero_le, reduceCtorEq, true_or, or_true, false_or, or_false, false_and, and_false, false_implies, Nat.zero_add, Nat.add_zero, Int.reduceEq, Int.reduceNe, Int.reduceLT, Int.reduceLE, Int.reduceNeg, Int.reduceToNat, Nat.not_lt_zero, Int.reduceAdd, fxs F]
  refine x_met0 kM_noteOf (Nat.le_of_ble_eq_true rfl) ?_
  simp only [wq_g3, wq_gc, wq_g, wq_g1, wq_g2, eM_noteOf, iM_noteOf_0, vM_noteOf, wps, x_cnd, reduceIte, Nat.reduceAdd, Nat.reduceSub, Nat.reduceEqDiff, Nat.reduceLeDiff, Nat.lt_irrefl, Nat.reduceLT, Int.cast_ofNat_Int, wq_c0, wq_c1, true_and, and_true, and_self, true_implies, forall_const, ne_eq, Decidable.not_not, not_true_eq_false, not_false_eq_true, List.map_nil, List.map_cons, List.sum_nil, List.sum_cons, List.length_cons, List.length_nil, Nat.le_refl, Nat.zero_le, reduceCtorEq, true_or, or_true, false_or, or_false, false_and, and_false, false_implies, Nat.zero_add, Nat.add_zero, Int.reduceEq, Int.reduceNe, Int.reduceLT, Int.reduceLE, Int.reduceNeg, Int.reduceToNat, Nat.not_lt_zero, Int.reduceAdd]
  rw [x_note (lab_rng hp w) (show 0 ≤ lt S p ∧ lt S p ≤ 40 from lt_rng) (w.b hp) (w.c hp h6)]
  exact k
theorem pk4_lt {l t b c : Int} (h1 : 0 ≤ l ∧ l ≤ 150150) (h2 : 0 ≤ t ∧ t ≤ 40) (h3 : 1 ≤ b ∧ b ≤ 12) (h4 : 0 ≤ c ∧ c ≤ 2) : 0 ≤ pk4 l t b c ∧ pk4 l t b c < 2147483648 := by
  unfold pk4
  omega
theorem cM_labelIn {n : Int} (hn : 0 ≤ n ∧ n < 2147483648) (k : Φ (.inl (some (xI (n / 4096)))) M h) : x_Cal zM_labelIn [xI n] M h Φ := by
  refine x_met0 kM_labelIn (Nat.le_of_ble_eq_true rfl) ?_
  simp only [wq_g3, wq_gc, wq_g, wq_g1, wq_g2, eM_labelIn, iM_labelIn_0, vM_labelIn, wps, x_cnd, reduceIte, Nat.reduceAdd, Nat.reduceSub, Nat.reduceEqDiff, Nat.reduceLeDiff, Nat.lt_irrefl, Nat.reduceLT, Int.cast_ofNat_Int, wq_c0, wq_c1, true_and, and_true, and_self, true_implies, forall_const, ne_eq, Decidable.not_not, not_true_eq_false, not_false_eq_true, List.map_nil, List.map_cons, List.sum_nil, List.sum_cons, List.length_cons, List.length_nil, Nat.le_refl, Nat.zero_le, reduceCtorEq, true_or, or_true, false_or, or_false, false_and, and_false, false_implies, Nat.zero_add, Nat.add_zero, Int.reduceEq, Int.reduceNe, Int.reduceLT, Int.reduceLE, Int.reduceNeg, Int.reduceToNat, Nat.not_lt_zero, Int.reduceAdd]
  have := x_shr_int (a := n) (k := 12) (by decide) (by unfold x_i32; omega)
  rw [show ((12 : Nat) : Int) = 12 from rfl] at this
  rw [this]
  exact k
theorem cM_letterIn {n : Int} (hn : 0 ≤ n ∧ n < 2147483648) (k : Φ (.inl (some (xI (n / 64 % 64)))) M h) : x_Cal zM_letterIn [xI n] M h Φ := by
  refine x_met0 kM_letterIn (Nat.le_of_ble_eq_true rfl) ?_
  simp only [wq_g3, wq_gc, wq_g, wq_g1, wq_g2, eM_letterIn, iM_letterIn_0, vM_letterIn, wps, x_cnd, reduceIte, Nat.reduceAdd, Nat.reduceSub, Nat.reduceEqDiff, Nat.reduceLeDiff, Nat.lt_irrefl, Nat.reduceLT, Int.cast_ofNat_Int, wq_c0, wq_c1, true_and, and_true, and_self, true_implies, forall_const, ne_eq, Decidable.not_not, not_true_eq_false, not_false_eq_true, List.map_nil, List.map_cons, List.sum_nil, List.sum_cons, List.length_cons, List.length_nil, Nat.le_refl, Nat.zero_le, reduceCtorEq, true_or, or_true, false_or, or_false, false_and, and_false, false_implies, Nat.zero_add, Nat.add_zero, Int.reduceEq, Int.reduceNe, Int.reduceLT, Int.reduceLE, Int.reduceNeg, Int.reduceToNat, Nat.not_lt_zero, Int.reduceAdd]
  have := x_shr_int (a := n) (k := 6) (by decide) (by unfold x_i32; omega)
  rw [show ((6 : Nat) : Int) = 6 from rfl, show ((2 ^ 6 : Nat) : Int) = 64 from rfl] at this
  rw [this, x_and_63 (by omega)]
  exact k
theorem cM_notedBeats {n : Int} (hn : 0 ≤ n ∧ n < 2147483648) (k : Φ (.inl (some (xI (n / 4 % 16)))) M h) : x_Cal zM_notedBeats [xI n] M h Φ := by
  refine x_met0 kM_notedBeats (Nat.le_of_ble_eq_true rfl) ?_
  simp only [wq_g3, wq_gc, wq_g, wq_g1, wq_g2, eM_notedBeats, iM_notedBeats_0, vM_notedBeats, wps, x_cnd, reduceIte, Nat.reduceAdd, Nat.reduceSub, Nat.reduceEqDiff, Nat.reduceLeDiff, Nat.lt_irrefl, Nat.reduceLT, Int.cast_ofNat_Int, wq_c0, wq_c1, true_and, and_true, and_self, true_implies, forall_const, ne_eq, Decidable.not_not, not_true_eq_false, not_false_eq_true, List.map_nil, List.map_cons, List.sum_nil, List.sum_cons, List.length_cons, List.length_nil, Nat.le_refl, Nat.zero_le, reduceCtorEq, true_or, or_true, false_or, or_false, false_and, and_false, false_implies, Nat.zero_add, Nat.add_zero, Int.reduceEq, Int.reduceNe, Int.reduceLT, Int.reduceLE, Int.reduceNeg, Int.reduceToNat, Nat.not_lt_zero, Int.reduceAdd]
  have := x_shr_int (a := n) (k := 2) (by decide) (by unfold x_i32; omega)
  rw [show ((2 : Nat) : Int) = 2 from rfl, show ((2 ^ 2 : Nat) : Int) = 4 from rfl] at this
  rw [this, x_and_15 (by omega)]
  exact k
theorem cM_kindOf (F : Fx h) (G : SG S (M 42)) (w : wfS S nid) (L : LK S M) {part : Nat} (h6 : part < 6) (hq : sQ S part = 1) {id : Int} (k : Φ (.inl (some (xI (kd S part (sR S part) id)))) M h) : x_Cal zM_kindOf [xA 41, xI part, xI id] M h Φ := by
  have hN := w.N
  refine x_met0 kM_kindOf (Nat.le_of_ble_eq_true rfl) ?_
  simp only [wq_g3, wq_gc, wq_g, wq_g1, wq_g2, eM_kindOf, iM_kindOf_0, iM_kindOf_33, iM_kindOf_34, iM_kindOf_46, iM_kindOf_55, iM_kindOf_64, iM_kindOf_65, iM_kindOf_66, iM_kindOf_89, iM_kindOf_103, iM_kindOf_117, iM_kindOf_127, iM_kindOf_129, vM_kindOf, wps, x_cnd, reduceIte, Nat.reduceAdd, Nat.reduceSub, Nat.reduceEqDiff, Nat.reduceLeDiff, Nat.lt_irrefl, Nat.reduceLT, Int.cast_ofNat_Int, wq_c0, wq_c1, true_and, and_true, and_self, true_implies, forall_const, ne_eq, Decidable.not_not, not_true_eq_false, not_false_eq_true, List.map_nil, List.map_cons, List.sum_nil, List.sum_cons, List.length_cons, List.length_nil, Nat.le_refl, Nat.zero_le, reduceCtorEq, true_or, or_true, false_or, or_false, false_and, and_false, false_implies, Nat.zero_add, Nat.add_zero, Int.reduceEq, Int.reduceNe, Int.reduceLT, Int.reduceLE, Int.reduceNeg, Int.reduceToNat, Nat.not_lt_zero, Int.reduceAdd, fxs F]
  refine cM_noteFor F h6 (G.nt h6 hq) ?_
  simp only [wq_g3, wq_gc, wq_g, wq_g1, wq_g2, eM_kindOf, iM_kindOf_0, iM_kindOf_33, iM_kindOf_34, iM_kindOf_46, iM_kindOf_55, iM_kindOf_64, iM_kindOf_65, iM_kindOf_66, iM_kindOf_89, iM_kindOf_103, iM_kindOf_117, iM_kindOf_127, iM_kindOf_129, vM_kindOf, wps, x_cnd, reduceIte, Nat.reduceAdd, Nat.reduceSub, Nat.reduceEqDiff, Nat.reduceLeDiff, Nat.lt_irrefl, Nat.reduceLT, Int.cast_ofNat_Int, wq_c0, wq_c1, true_and, and_true, and_self, true_implies, forall_const, ne_eq, Decidable.not_not, not_true_eq_false, not_false_eq_true, List.map_nil, List.map_cons, List.sum_nil, List.sum_cons, List.length_cons, List.length_nil, Nat.le_refl, Nat.zero_le, reduceCtorEq, true_or, or_true, false_or, or_false, false_and, and_false, false_implies, Nat.zero_add, Nat.add_zero, Int.reduceEq, Int.reduceNe, Int.reduceLT, Int.reduceLE, Int.reduceNeg, Int.reduceToNat, Nat.not_lt_zero, Int.reduceAdd, fxs F]
  refine cM_placeOf F G w ?_
  unfold kd at k
  simp only [wq_g3, wq_gc, wq_g, wq_g1, wq_g2, eM_kindOf, iM_kindOf_0, iM_kindOf_33, iM_kindOf_34, iM_kindOf_46, iM_kindOf_55, iM_kindOf_64, iM_kindOf_65, iM_kindOf_66, iM_kindOf_89, iM_kindOf_103, iM_kindOf_117, iM_kindOf_127, iM_kindOf_129, vM_kindOf, wps, x_cnd, reduceIte, Nat.reduceAdd, Nat.reduceSub, Nat.reduceEqDiff, Nat.reduceLeDiff, Nat.lt_irrefl, Nat.reduceLT, Int.cast_ofNat_Int, wq_c0, wq_c1, true_and, and_true, and_self, true_implies, forall_const, ne_eq, Decidable.not_not, not_true_eq_false, not_false_eq_true, List.map_nil, List.map_cons, List.sum_nil, List.sum_cons, List.length_cons, List.length_nil, Nat.le_refl, Nat.zero_le, reduceCtorEq, true_or, or_true, false_or, or_false, false_and, and_false, false_implies, Nat.zero_add, Nat.add_zero, Int.reduceEq, Int.reduceNe, Int.reduceLT, Int.reduceLE, Int.reduceNeg, Int.reduceToNat, Nat.not_lt_zero, Int.reduceAdd, fxs F]
  have hiff : ∀ p : Nat, pl S id = p → ((pl S id ≠ -1 ∧ isP S (pl S id) = true) ↔ cov S p = 0) := fun p hp => by
    rw [hp, isP_iff]
    exact ⟨fun q => q.2, fun q => ⟨by omega, q⟩⟩
  have outk : ¬ (pl S id ≠ -1 ∧ isP S (pl S id) = true) → (sR S part id = -1 → Φ (.inl (some (xI 0))) M h) ∧ (¬ sR S part id = -1 → Φ (.inl (some (xI 2))) M h) := fun hno => by
    refine ⟨fun c1 => kr k ?_, fun c1 => kr k ?_⟩
    · rw [if_pos c1, if_neg hno]
    · rw [if_neg c1, if_pos hno]
  refine ⟨fun c0 => ⟨fun _ => outk (fun q => q.1 c0), fun _ => outk (fun q => q.1 c0)⟩, fun c0 => ?_⟩
  obtain ⟨p, p1, p2, p3⟩ := pl_some c0
  rw [p2]
  refine cM_isPlayed F L (by omega) p1 ?_
  simp only [wq_g3, wq_gc, wq_g, wq_g1, wq_g2, eM_kindOf, iM_kindOf_0, iM_kindOf_33, iM_kindOf_34, iM_kindOf_46, iM_kindOf_55, iM_kindOf_64, iM_kindOf_65, iM_kindOf_66, iM_kindOf_89, iM_kindOf_103, iM_kindOf_117, iM_kindOf_127, iM_kindOf_129, vM_kindOf, wps, x_cnd, reduceIte, Nat.reduceAdd, Nat.reduceSub, Nat.reduceEqDiff, Nat.reduceLeDiff, Nat.lt_irrefl, Nat.reduceLT, Int.cast_ofNat_Int, wq_c0, wq_c1, true_and, and_true, and_self, true_implies, forall_const, ne_eq, Decidable.not_not, not_true_eq_false, not_false_eq_true, List.map_nil, List.map_cons, List.sum_nil, List.sum_cons, List.length_cons, List.length_nil, Nat.le_refl, Nat.zero_le, reduceCtorEq, true_or, or_true, false_or, or_false, false_and, and_false, false_implies, Nat.zero_add, Nat.add_zero, Int.reduceEq, Int.reduceNe, Int.reduceLT, Int.reduceLE, Int.reduceNeg, Int.reduceToNat, Nat.not_lt_zero, Int.reduceAdd, fxs F, b01_0]
  refine ⟨fun c1 => ⟨fun _ => outk (fun q => c1 ((hiff p p2).mp q)), fun _ => outk (fun q => c1 ((hiff p p2).mp q))⟩, fun c1 => ?_⟩
  have hin := (hiff p p2).mpr c1
  refine ⟨fun c2 => kr k (by rw [if_pos c2, if_pos hin]), fun c2 => cM_noteNow F G w L h6 p1 ?_⟩
  obtain ⟨l, t, b, c, g1, g2, g3, g4, g5⟩ := ((w.r h6 id).resolve_left c2).2
  obtain ⟨d1, d2, d3, d4⟩ := pk4_d (l := l) g3 g4 g5
  have hlt : 0 ≤ lt S p ∧ lt S p ≤ 40 := lt_rng
  have hlab := lab_rng p1 w
  have hb := w.b p1
  have hc := w.c p1 h6
  obtain ⟨u1, u2, u3, u4⟩ := pk4_d (l := lab S p) hlt hb hc
  have hr1 := pk4_lt g2 g3 g4 g5
  have hr2 := pk4_lt hlab hlt hb hc
  rw [if_neg c2, if_neg (fun q => q hin), p2, g1, d1, d2, d3, d4, Int.toNat_natCast] at k
  rw [g1]
  simp only [wq_g3, wq_gc, wq_g, wq_g1, wq_g2, eM_kindOf, iM_kindOf_0, iM_kindOf_33, iM_kindOf_34, iM_kindOf_46, iM_kindOf_55, iM_kindOf_64, iM_kindOf_65, iM_kindOf_66, iM_kindOf_89, iM_kindOf_103, iM_kindOf_117, iM_kindOf_127, iM_kindOf_129, vM_kindOf, wps, x_cnd, reduceIte, Nat.reduceAdd, Nat.reduceSub, Nat.reduceEqDiff, Nat.reduceLeDiff, Nat.lt_irrefl, Nat.reduceLT, Int.cast_ofNat_Int, wq_c0, wq_c1, true_and, and_true, and_self, true_implies, forall_const, ne_eq, Decidable.not_not, not_true_eq_false, not_false_eq_true, List.map_nil, List.map_cons, List.sum_nil, List.sum_cons, List.length_cons, List.length_nil, Nat.le_refl, Nat.zero_le, reduceCtorEq, true_or, or_true, false_or, or_false, false_and, and_false, false_implies, Nat.zero_add, Nat.add_zero, Int.reduceEq, Int.reduceNe, Int.reduceLT, Int.reduceLE, Int.reduceNeg, Int.reduceToNat, Nat.not_lt_zero, Int.reduceAdd, fxs F]
  refine cM_labelIn hr1 ?_
  simp only [wq_g3, wq_gc, wq_g, wq_g1, wq_g2, eM_kindOf, iM_kindOf_0, iM_kindOf_33, iM_kindOf_34, iM_kindOf_46, iM_kindOf_55, iM_kindOf_64, iM_kindOf_65, iM_kindOf_66, iM_kindOf_89, iM_kindOf_103, iM_kindOf_117, iM_kindOf_127, iM_kindOf_129, vM_kindOf, wps, x_cnd, reduceIte, Nat.reduceAdd, Nat.reduceSub, Nat.reduceEqDiff, Nat.reduceLeDiff, Nat.lt_irrefl, Nat.reduceLT, Int.cast_ofNat_Int, wq_c0, wq_c1, true_and, and_true, and_self, true_implies, forall_const, ne_eq, Decidable.not_not, not_true_eq_false, not_false_eq_true, List.map_nil, List.map_cons, List.sum_nil, List.sum_cons, List.length_cons, List.length_nil, Nat.le_refl, Nat.zero_le, reduceCtorEq, true_or, or_true, false_or, or_false, false_and, and_false, false_implies, Nat.zero_add, Nat.add_zero, Int.reduceEq, Int.reduceNe, Int.reduceLT, Int.reduceLE, Int.reduceNeg, Int.reduceToNat, Nat.not_lt_zero, Int.reduceAdd, fxs F]
  refine cM_labelIn hr2 ?_
  rw [d1, u1]
  simp only [wq_g3, wq_gc, wq_g, wq_g1, wq_g2, eM_kindOf, iM_kindOf_0, iM_kindOf_33, iM_kindOf_34, iM_kindOf_46, iM_kindOf_55, iM_kindOf_64, iM_kindOf_65, iM_kindOf_66, iM_kindOf_89, iM_kindOf_103, iM_kindOf_117, iM_kindOf_127, iM_kindOf_129, vM_kindOf, wps, x_cnd, reduceIte, Nat.reduceAdd, Nat.reduceSub, Nat.reduceEqDiff, Nat.reduceLeDiff, Nat.lt_irrefl, Nat.reduceLT, Int.cast_ofNat_Int, wq_c0, wq_c1, true_and, and_true, and_self, true_implies, forall_const, ne_eq, Decidable.not_not, not_true_eq_false, not_false_eq_true, List.map_nil, List.map_cons, List.sum_nil, List.sum_cons, List.length_cons, List.length_nil, Nat.le_refl, Nat.zero_le, reduceCtorEq, true_or, or_true, false_or, or_false, false_and, and_false, false_implies, Nat.zero_add, Nat.add_zero, Int.reduceEq, Int.reduceNe, Int.reduceLT, Int.reduceLE, Int.reduceNeg, Int.reduceToNat, Nat.not_lt_zero, Int.reduceAdd, fxs F]
  refine ⟨fun c3 => cM_letterIn hr1 ?_, fun c3 => kr k (if_pos (fun q => c3 q.symm))⟩
  rw [if_neg (fun q => q c3.symm)] at k
  simp only [wq_g3, wq_gc, wq_g, wq_g1, wq_g2, eM_kindOf, iM_kindOf_0, iM_kindOf_33, iM_kindOf_34, iM_kindOf_46, iM_kindOf_55, iM_kindOf_64, iM_kindOf_65, iM_kindOf_66, iM_kindOf_89, iM_kindOf_103, iM_kindOf_117, iM_kindOf_127, iM_kindOf_129, vM_kindOf, wps, x_cnd, reduceIte, Nat.reduceAdd, Nat.reduceSub, Nat.reduceEqDiff, Nat.reduceLeDiff, Nat.lt_irrefl, Nat.reduceLT, Int.cast_ofNat_Int, wq_c0, wq_c1, true_and, and_true, and_self, true_implies, forall_const, ne_eq, Decidable.not_not, not_true_eq_false, not_false_eq_true, List.map_nil, List.map_cons, List.sum_nil, List.sum_cons, List.length_cons, List.length_nil, Nat.le_refl, Nat.zero_le, reduceCtorEq, true_or, or_true, false_or, or_false, false_and, and_false, false_implies, Nat.zero_add, Nat.add_zero, Int.reduceEq, Int.reduceNe, Int.reduceLT, Int.reduceLE, Int.reduceNeg, Int.reduceToNat, Nat.not_lt_zero, Int.reduceAdd, fxs F]
  refine cM_letterIn hr2 ?_
  rw [d2, u2]
  simp only [wq_g3, wq_gc, wq_g, wq_g1, wq_g2, eM_kindOf, iM_kindOf_0, iM_kindOf_33, iM_kindOf_34, iM_kindOf_46, iM_kindOf_55, iM_kindOf_64, iM_kindOf_65, iM_kindOf_66, iM_kindOf_89, iM_kindOf_103, iM_kindOf_117, iM_kindOf_127, iM_kindOf_129, vM_kindOf, wps, x_cnd, reduceIte, Nat.reduceAdd, Nat.reduceSub, Nat.reduceEqDiff, Nat.reduceLeDiff, Nat.lt_irrefl, Nat.reduceLT, Int.cast_ofNat_Int, wq_c0, wq_c1, true_and, and_true, and_self, true_implies, forall_const, ne_eq, Decidable.not_not, not_true_eq_false, not_false_eq_true, List.map_nil, List.map_cons, List.sum_nil, List.sum_cons, List.length_cons, List.length_nil, Nat.le_refl, Nat.zero_le, reduceCtorEq, true_or, or_true, false_or, or_false, false_and, and_false, false_implies, Nat.zero_add, Nat.add_zero, Int.reduceEq, Int.reduceNe, Int.reduceLT, Int.reduceLE, Int.reduceNeg, Int.reduceToNat, Nat.not_lt_zero, Int.reduceAdd, fxs F]
  refine ⟨fun c4 => cM_notedBeats hr1 ?_, fun c4 => kr k (if_pos (fun q => c4 q.symm))⟩
  rw [if_neg (fun q => q c4.symm)] at k
  simp only [wq_g3, wq_gc, wq_g, wq_g1, wq_g2, eM_kindOf, iM_kindOf_0, iM_kindOf_33, iM_kindOf_34, iM_kindOf_46, iM_kindOf_55, iM_kindOf_64, iM_kindOf_65, iM_kindOf_66, iM_kindOf_89, iM_kindOf_103, iM_kindOf_117, iM_kindOf_127, iM_kindOf_129, vM_kindOf, wps, x_cnd, reduceIte, Nat.reduceAdd, Nat.reduceSub, Nat.reduceEqDiff, Nat.reduceLeDiff, Nat.lt_irrefl, Nat.reduceLT, Int.cast_ofNat_Int, wq_c0, wq_c1, true_and, and_true, and_self, true_implies, forall_const, ne_eq, Decidable.not_not, not_true_eq_false, not_false_eq_true, List.map_nil, List.map_cons, List.sum_nil, List.sum_cons, List.length_cons, List.length_nil, Nat.le_refl, Nat.zero_le, reduceCtorEq, true_or, or_true, false_or, or_false, false_and, and_false, false_implies, Nat.zero_add, Nat.add_zero, Int.reduceEq, Int.reduceNe, Int.reduceLT, Int.reduceLE, Int.reduceNeg, Int.reduceToNat, Nat.not_lt_zero, Int.reduceAdd, fxs F]
  refine cM_notedBeats hr2 ?_
  rw [d3, u3]
  simp only [wq_g3, wq_gc, wq_g, wq_g1, wq_g2, eM_kindOf, iM_kindOf_0, iM_kindOf_33, iM_kindOf_34, iM_kindOf_46, iM_kindOf_55, iM_kindOf_64, iM_kindOf_65, iM_kindOf_66, iM_kindOf_89, iM_kindOf_103, iM_kindOf_117, iM_kindOf_127, iM_kindOf_129, vM_kindOf, wps, x_cnd, reduceIte, Nat.reduceAdd, Nat.reduceSub, Nat.reduceEqDiff, Nat.reduceLeDiff, Nat.lt_irrefl, Nat.reduceLT, Int.cast_ofNat_Int, wq_c0, wq_c1, true_and, and_true, and_self, true_implies, forall_const, ne_eq, Decidable.not_not, not_true_eq_false, not_false_eq_true, List.map_nil, List.map_cons, List.sum_nil, List.sum_cons, List.length_cons, List.length_nil, Nat.le_refl, Nat.zero_le, reduceCtorEq, true_or, or_true, false_or, or_false, false_and, and_false, false_implies, Nat.zero_add, Nat.add_zero, Int.reduceEq, Int.reduceNe, Int.reduceLT, Int.reduceLE, Int.reduceNeg, Int.reduceToNat, Nat.not_lt_zero, Int.reduceAdd, fxs F]
  refine ⟨fun c5 => ?_, fun c5 => kr k (if_pos (fun q => c5 q.symm))⟩
  rw [if_neg (fun q => q c5.symm)] at k
  subst c3 c4 c5
  refine ⟨fun c6 => kr k (if_pos (fun q => c6 (by rw [q]))), fun c6 => kr k (if_neg (fun q => q ?_))⟩
  unfold pk4 at c6
  omega
theorem NT_r (w : wfS S nid) {part : Nat} (h6 : part < 6) {id : Int} (h : sR S part id ≠ -1) : 0 ≤ id ∧ id < nid := ((w.r h6 id).resolve_left h).1
/-- the least id above x of a bar or a note, or -1 -/
def idA2 (S : xSr) (part x : Int) (r : Int) : Prop := (r = -1 ∧ ∀ id : Int, x < id → 0 ≤ id → pl S id = -1 ∧ sR S part id = -1) ∨ (x < r ∧ 0 ≤ r ∧ (pl S r ≠ -1 ∨ sR S part r ≠ -1) ∧ ∀ id : Int, x < id → id < r → 0 ≤ id → pl S id = -1 ∧ sR S part id = -1)
def IBc (S : xSr) (part x : Int) (C : Int → Prop) (r : Int) : Prop := (r = -1 ∧ ∀ y, C y → y ≤ x) ∨ (x < r ∧ (pl S r ≠ -1 ∨ sR S part r ≠ -1) ∧ ∀ y, C y → x < y → r ≤ y)
theorem IBk {part x c r : Int} {C C' : Int → Prop} (I : IBc S part x C r) (h : ∀ y, C' y → C y ∨ y = c) (hc : c ≤ x ∨ (r ≠ -1 ∧ r ≤ c)) : IBc S part x C' r := by
  rcases I with ⟨h1, h2⟩ | ⟨h1, h2, h3⟩
  · refine Or.inl ⟨h1, fun y hy => ?_⟩
    rcases h y hy with q | q
    · exact h2 y q
    · omega
  · refine Or.inr ⟨h1, h2, fun y hy hxy => ?_⟩
    rcases h y hy with q | q
    · exact h3 y q hxy
    · omega
theorem IBn {part x c r : Int} {C C' : Int → Prop} (hx0 : -1 ≤ x) (I : IBc S part x C r) (h : ∀ y, C' y → C y ∨ y = c) (hx : x < c) (hc : r = -1 ∨ c < r) (hg : pl S c ≠ -1 ∨ sR S part c ≠ -1) : IBc S part x C' c := by
  refine Or.inr ⟨hx, hg, fun y hy hxy => ?_⟩
  rcases h y hy with q | q
  · rcases I with ⟨h1, h2⟩ | ⟨h1, h2, h3⟩
    · have := h2 y q
      omega
    · have := h3 y q hxy
      omega
  · omega
def IC (S : xSr) (part : Int) (f : Int → Int) (p j : Nat) : Int → Prop := fun y => (∃ q : Nat, q < p ∧ y = sI S q) ∨ ∃ q : Nat, q < j ∧ y = f (371 + 300 * part + 2 * q)
theorem IC_p {part : Int} {f : Int → Int} {p j : Nat} : ∀ y, IC S part f (p + 1) j y → IC S part f p j y ∨ y = sI S p := fun y hy => by
  rcases hy with ⟨q, q1, q2⟩ | q
  · by_cases hq : q = p
    · subst hq
      exact Or.inr q2
    · exact Or.inl (Or.inl ⟨q, by omega, q2⟩)
  · exact Or.inl (Or.inr q)
theorem IC_j {part : Int} {f : Int → Int} {p j : Nat} : ∀ y, IC S part f p (j + 1) y → IC S part f p j y ∨ y = f (371 + 300 * part + 2 * j) := fun y hy => by
  rcases hy with q | ⟨q, q1, q2⟩
  · exact Or.inl (Or.inl q)
  · by_cases hq : q = j
    · subst hq
      exact Or.inr q2
    · exact Or.inl (Or.inr ⟨q, by omega, q2⟩)
theorem om_a {p N : Nat} (h : p < N) (h2 : N ≤ 150) : p < 2167 := by omega
theorem om_b {j K m : Nat} (h : j < K) (h2 : m = K - j) : K - (j + 1) < m := by omega
theorem om_c {part j K : Nat} (h : part < 6) (h2 : j < K) (h3 : K ≤ 150) : 0 ≤ 371 + 300 * (part : Int) + 2 * j ∧ 371 + 300 * (part : Int) + 2 * j < 2171 := by omega
theorem cM_idAbove (F : Fx h) (G : SG S (M 42)) (w : wfS S nid) {part : Nat} (h6 : part < 6) (hq : sQ S part = 1) {x : Int} (hx : -1 ≤ x) (k : ∀ r : Int, idA2 S part x r → Φ (.inl (some (xI r))) M h) : x_Cal zM_idAbove [xA 41, xI part, xI x] M h Φ := by
  have hN := w.N
  have e0 := G.n
  obtain ⟨K, n1, n2, n3, n4⟩ := G.nt h6 hq
  refine x_metI kM_idAbove (Nat.le_of_ble_eq_true rfl) (fun t m ls st M' h' c n => st = [] ∧ h' = h ∧ M' = M ∧ c = 0 ∧ n = 0 ∧ ls 0 = some (xA 41) ∧ ls 1 = some (xI part) ∧ ls 2 = some (xI x) ∧ ∃ (r : Int) (p j : Nat), p ≤ sN S ∧ j ≤ K ∧ ls 3 = some (xI r) ∧ ((t = 5 ∧ j = 0 ∧ m = 1000 + (sN S - p) ∧ ls 4 = some (xI p)) ∨ (t = 57 ∧ p = sN S ∧ m = K - j ∧ ls 4 = some (xI j))) ∧ IBc S part x (IC S part (M 42) p j) r) 20 ?_ ?_
  · simp only [wq_g3, wq_gc, wq_g, wq_g1, wq_g2, eM_idAbove, iM_idAbove_0, iM_idAbove_5, iM_idAbove_41, iM_idAbove_48, iM_idAbove_54, iM_idAbove_57, iM_idAbove_102, iM_idAbove_105, iM_idAbove_111, vM_idAbove, wps, x_cnd, reduceIte, Nat.reduceAdd, Nat.reduceSub, Nat.reduceEqDiff, Nat.reduceLeDiff, Nat.lt_irrefl, Nat.reduceLT, Int.cast_ofNat_Int, wq_c0, wq_c1, true_and, and_true, and_self, true_implies, forall_const, ne_eq, Decidable.not_not, not_true_eq_false, not_false_eq_true, List.map_nil, List.map_cons, List.sum_nil, List.sum_cons, List.length_cons, List.length_nil, Nat.le_refl, Nat.zero_le, reduceCtorEq, true_or, or_true, false_or, or_false, false_and, and_false, false_implies, Nat.zero_add, Nat.add_zero, Int.reduceEq, Int.reduceNe, Int.reduceLT, Int.reduceLE, Int.reduceNeg, Int.reduceToNat, Nat.not_lt_zero, Int.reduceAdd, fxs F]
    refine ⟨1000 + (sN S - 0), -1, 0, 0, by omega, by omega, rfl, ⟨rfl, rfl, by rw [Int.natCast_zero]⟩, Or.inl ⟨rfl, fun y hy => ?_⟩⟩
    rcases hy with ⟨q, q1, -⟩ | ⟨q, q1, -⟩ <;> omega
  · rintro t m ls st M1 h' c n ⟨rfl, rfl, rfl, rfl, rfl, l0, l1, l2, r, p, j, y1, y2, l3, hd, y3⟩
    rcases hd with ⟨rfl, rfl, y4, l4⟩ | ⟨rfl, rfl, y4, l4⟩
    · simp only [wq_g3, wq_gc, wq_g, wq_g1, wq_g2, eM_idAbove, iM_idAbove_0, iM_idAbove_5, iM_idAbove_41, iM_idAbove_48, iM_idAbove_54, iM_idAbove_57, iM_idAbove_102, iM_idAbove_105, iM_idAbove_111, vM_idAbove, wps, x_cnd, reduceIte, Nat.reduceAdd, Nat.reduceSub, Nat.reduceEqDiff, Nat.reduceLeDiff, Nat.lt_irrefl, Nat.reduceLT, Int.cast_ofNat_Int, wq_c0, wq_c1, true_and, and_true, and_self, true_implies, forall_const, ne_eq, Decidable.not_not, not_true_eq_false, not_false_eq_true, List.map_nil, List.map_cons, List.sum_nil, List.sum_cons, List.length_cons, List.length_nil, Nat.le_refl, Nat.zero_le, reduceCtorEq, true_or, or_true, false_or, or_false, false_and, and_false, false_implies, Nat.zero_add, Nat.add_zero, Int.reduceEq, Int.reduceNe, Int.reduceLT, Int.reduceLE, Int.reduceNeg, Int.reduceToNat, Nat.not_lt_zero, Int.reduceAdd, fxs F, l0, l1, l2, l3, l4, e0]
      refine ⟨fun c0 => ⟨K - 0, by omega, r, sN S, 0, by omega, by omega, rfl, ⟨rfl, rfl, by rw [Int.natCast_zero]⟩, by rw [show sN S = p by omega]; exact y3⟩, fun c0 => cM_idAt F (by omega) ?_⟩
      have hp : p < sN S := by omega
      have hpl : pl S (sI S p) ≠ -1 := by rw [pl_at w hp]; omega
      rw [G.id hp]
      simp only [wq_g3, wq_gc, wq_g, wq_g1, wq_g2, eM_idAbove, iM_idAbove_0, iM_idAbove_5, iM_idAbove_41, iM_idAbove_48, iM_idAbove_54, iM_idAbove_57, iM_idAbove_102, iM_idAbove_105, iM_idAbove_111, vM_idAbove, wps, x_cnd, reduceIte, Nat.reduceAdd, Nat.reduceSub, Nat.reduceEqDiff, Nat.reduceLeDiff, Nat.lt_irrefl, Nat.reduceLT, Int.cast_ofNat_Int, wq_c0, wq_c1, true_and, and_true, and_self, true_implies, forall_const, ne_eq, Decidable.not_not, not_true_eq_false, not_false_eq_true, List.map_nil, List.map_cons, List.sum_nil, List.sum_cons, List.length_cons, List.length_nil, Nat.le_refl, Nat.zero_le, reduceCtorEq, true_or, or_true, false_or, or_false, false_and, and_false, false_implies, Nat.zero_add, Nat.add_zero, Int.reduceEq, Int.reduceNe, Int.reduceLT, Int.reduceLE, Int.reduceNeg, Int.reduceToNat, Nat.not_lt_zero, Int.reduceAdd, fxs F, l0, l1, l2, l3, l4, e0]
      simp (disch := omega) only [w32_of]
      have hm1 : 1000 + (sN S - (p + 1)) < m := by omega
      have hp1 : p + 1 ≤ sN S := by omega
      have hpc : (p : Int) + 1 = ((p + 1 : Nat) : Int) := by omega
      have hw32 : w32 ((p : Int) + 1) = (p : Int) + 1 := w32_of (by omega)
      have h2167 : p < 2167 := om_a hp hN
      have keep : (sI S p ≤ x ∨ (r ≠ -1 ∧ r ≤ sI S p)) → ∃ m2, m2 < m ∧ ∃ (r_1 : Int) (p_1 j : Nat), p_1 ≤ sN S ∧ j ≤ K ∧ some (xI r) = some (xI r_1) ∧ (j = 0 ∧ m2 = 1000 + (sN S - p_1) ∧ some (xI ((p : Int) + 1)) = some (xI p_1)) ∧ IBc S part x (IC S part (M1 42) p_1 j) r_1 := fun hc => ⟨1000 + (sN S - (p + 1)), hm1, r, p + 1, 0, hp1, Nat.zero_le _, rfl, ⟨rfl, rfl, congrArg (fun z => some (xI z)) hpc⟩, IBk y3 IC_p hc⟩
      have new : x < sI S p → (r = -1 ∨ sI S p < r) → ∃ m2, m2 < m ∧ ∃ (r_1 : Int) (p_1 j : Nat), p_1 ≤ sN S ∧ j ≤ K ∧ some (xI (sI S p)) = some (xI r_1) ∧ (j = 0 ∧ m2 = 1000 + (sN S - p_1) ∧ some (xI ((p : Int) + 1)) = some (xI p_1)) ∧ IBc S part x (IC S part (M1 42) p_1 j) r_1 := fun h1 hc => ⟨1000 + (sN S - (p + 1)), hm1, sI S p, p + 1, 0, hp1, Nat.zero_le _, rfl, ⟨rfl, rfl, congrArg (fun z => some (xI z)) hpc⟩, IBn hx y3 IC_p h1 hc (Or.inl hpl)⟩
      refine ⟨fun c1 => keep (Or.inl c1), fun c1 => ⟨fun c2 => cM_idAt F h2167 ?_, fun c2 => cM_idAt F h2167 ?_⟩⟩
      · rw [G.id hp]
        simp only [wq_g3, wq_gc, wq_g, wq_g1, wq_g2, eM_idAbove, iM_idAbove_0, iM_idAbove_5, iM_idAbove_41, iM_idAbove_48, iM_idAbove_54, iM_idAbove_57, iM_idAbove_102, iM_idAbove_105, iM_idAbove_111, vM_idAbove, wps, x_cnd, reduceIte, Nat.reduceAdd, Nat.reduceSub, Nat.reduceEqDiff, Nat.reduceLeDiff, Nat.lt_irrefl, Nat.reduceLT, Int.cast_ofNat_Int, wq_c0, wq_c1, true_and, and_true, and_self, true_implies, forall_const, ne_eq, Decidable.not_not, not_true_eq_false, not_false_eq_true, List.map_nil, List.map_cons, List.sum_nil, List.sum_cons, List.length_cons, List.length_nil, Nat.le_refl, Nat.zero_le, reduceCtorEq, true_or, or_true, false_or, or_false, false_and, and_false, false_implies, Nat.zero_add, Nat.add_zero, Int.reduceEq, Int.reduceNe, Int.reduceLT, Int.reduceLE, Int.reduceNeg, Int.reduceToNat, Nat.not_lt_zero, Int.reduceAdd, fxs F, l0, l1, l2, l3, l4, e0]
        rw [hw32]
        exact new (Int.not_le.mp c1) (Or.inl c2)
      · rw [G.id hp]
        simp only [wq_g3, wq_gc, wq_g, wq_g1, wq_g2, eM_idAbove, iM_idAbove_0, iM_idAbove_5, iM_idAbove_41, iM_idAbove_48, iM_idAbove_54, iM_idAbove_57, iM_idAbove_102, iM_idAbove_105, iM_idAbove_111, vM_idAbove, wps, x_cnd, reduceIte, Nat.reduceAdd, Nat.reduceSub, Nat.reduceEqDiff, Nat.reduceLeDiff, Nat.lt_irrefl, Nat.reduceLT, Int.cast_ofNat_Int, wq_c0, wq_c1, true_and, and_true, and_self, true_implies, forall_const, ne_eq, Decidable.not_not, not_true_eq_false, not_false_eq_true, List.map_nil, List.map_cons, List.sum_nil, List.sum_cons, List.length_cons, List.length_nil, Nat.le_refl, Nat.zero_le, reduceCtorEq, true_or, or_true, false_or, or_false, false_and, and_false, false_implies, Nat.zero_add, Nat.add_zero, Int.reduceEq, Int.reduceNe, Int.reduceLT, Int.reduceLE, Int.reduceNeg, Int.reduceToNat, Nat.not_lt_zero, Int.reduceAdd, fxs F, l0, l1, l2, l3, l4, e0]
        rw [hw32]
        refine ⟨fun c3 => keep (Or.inr ⟨c2, c3⟩), fun c3 => cM_idAt F h2167 ?_⟩
        rw [G.id hp]
        simp only [wq_g3, wq_gc, wq_g, wq_g1, wq_g2, eM_idAbove, iM_idAbove_0, iM_idAbove_5, iM_idAbove_41, iM_idAbove_48, iM_idAbove_54, iM_idAbove_57, iM_idAbove_102, iM_idAbove_105, iM_idAbove_111, vM_idAbove, wps, x_cnd, reduceIte, Nat.reduceAdd, Nat.reduceSub, Nat.reduceEqDiff, Nat.reduceLeDiff, Nat.lt_irrefl, Nat.reduceLT, Int.cast_ofNat_Int, wq_c0, wq_c1, true_and, and_true, and_self, true_implies, forall_const, ne_eq, Decidable.not_not, not_true_eq_false, not_false_eq_true, List.map_nil, List.map_cons, List.sum_nil, List.sum_cons, List.length_cons, List.length_nil, Nat.le_refl, Nat.zero_le, reduceCtorEq, true_or, or_true, false_or, or_false, false_and, and_false, false_implies, Nat.zero_add, Nat.add_zero, Int.reduceEq, Int.reduceNe, Int.reduceLT, Int.reduceLE, Int.reduceNeg, Int.reduceToNat, Nat.not_lt_zero, Int.reduceAdd, fxs F, l0, l1, l2, l3, l4, e0]
        rw [hw32]
        exact new (Int.not_le.mp c1) (Or.inr (Int.not_le.mp c3))
    · simp only [wq_g3, wq_gc, wq_g, wq_g1, wq_g2, eM_idAbove, iM_idAbove_0, iM_idAbove_5, iM_idAbove_41, iM_idAbove_48, iM_idAbove_54, iM_idAbove_57, iM_idAbove_102, iM_idAbove_105, iM_idAbove_111, vM_idAbove, wps, x_cnd, reduceIte, Nat.reduceAdd, Nat.reduceSub, Nat.reduceEqDiff, Nat.reduceLeDiff, Nat.lt_irrefl, Nat.reduceLT, Int.cast_ofNat_Int, wq_c0, wq_c1, true_and, and_true, and_self, true_implies, forall_const, ne_eq, Decidable.not_not, not_true_eq_false, not_false_eq_true, List.map_nil, List.map_cons, List.sum_nil, List.sum_cons, List.length_cons, List.length_nil, Nat.le_refl, Nat.zero_le, reduceCtorEq, true_or, or_true, false_or, or_false, false_and, and_false, false_implies, Nat.zero_add, Nat.add_zero, Int.reduceEq, Int.reduceNe, Int.reduceLT, Int.reduceLE, Int.reduceNeg, Int.reduceToNat, Nat.not_lt_zero, Int.reduceAdd, fxs F, l0, l1, l2, l3, l4]
      simp (disch := omega) only [w32_of]
      rw [n2]
      refine ⟨by omega, fun c0 => k r ?_, fun c0 => cM_noteAt h6 (by omega) ?_⟩
      · have hall : ∀ id : Int, (pl S id ≠ -1 ∨ sR S part id ≠ -1) → IC S part (M1 42) (sN S) j id := fun id hid => by
          rcases hid with hid | hid
          · obtain ⟨q, q1, q2, q3⟩ := pl_some hid
            exact Or.inl ⟨q, q1, q3.symm⟩
          · obtain ⟨q, q1, q2⟩ := n4 id hid
            exact Or.inr ⟨q, by omega, q2.symm⟩
        rcases y3 with ⟨h1, h2⟩ | ⟨h1, h2, h3⟩
        · refine Or.inl ⟨h1, fun id hid _ => ?_⟩
          have hn : ¬ (pl S id ≠ -1 ∨ sR S part id ≠ -1) := fun q => by
            have := h2 id (hall id q)
            omega
          exact ⟨Decidable.not_not.mp (fun q => hn (Or.inl q)), Decidable.not_not.mp (fun q => hn (Or.inr q))⟩
        · refine Or.inr ⟨h1, by omega, h2, fun id hid hlt _ => ?_⟩
          have hn : ¬ (pl S id ≠ -1 ∨ sR S part id ≠ -1) := fun q => by
            have := h3 id (hall id q) hid
            omega
          exact ⟨Decidable.not_not.mp (fun q => hn (Or.inl q)), Decidable.not_not.mp (fun q => hn (Or.inr q))⟩
      · have hjK : j < K := by omega
        obtain ⟨v1, v2, v3⟩ := n3 j hjK
        simp only [wq_g3, wq_gc, wq_g, wq_g1, wq_g2, eM_idAbove, iM_idAbove_0, iM_idAbove_5, iM_idAbove_41, iM_idAbove_48, iM_idAbove_54, iM_idAbove_57, iM_idAbove_102, iM_idAbove_105, iM_idAbove_111, vM_idAbove, wps, x_cnd, reduceIte, Nat.reduceAdd, Nat.reduceSub, Nat.reduceEqDiff, Nat.reduceLeDiff, Nat.lt_irrefl, Nat.reduceLT, Int.cast_ofNat_Int, wq_c0, wq_c1, true_and, and_true, and_self, true_implies, forall_const, ne_eq, Decidable.not_not, not_true_eq_false, not_false_eq_true, List.map_nil, List.map_cons, List.sum_nil, List.sum_cons, List.length_cons, List.length_nil, Nat.le_refl, Nat.zero_le, reduceCtorEq, true_or, or_true, false_or, or_false, false_and, and_false, false_implies, Nat.zero_add, Nat.add_zero, Int.reduceEq, Int.reduceNe, Int.reduceLT, Int.reduceLE, Int.reduceNeg, Int.reduceToNat, Nat.not_lt_zero, Int.reduceAdd, fxs F, l0, l1, l2, l3, l4]
        have hw32 : w32 ((j : Int) + 1) = (j : Int) + 1 := w32_of (by omega)
        rw [hw32]
        have y3' : IBc S part x (IC S part (M1 42) (sN S) j) r := y3
        have hm1 : K - (j + 1) < m := om_b hjK y4
        have hj1 : j + 1 ≤ K := hjK
        have hjc : (j : Int) + 1 = ((j + 1 : Nat) : Int) := by omega
        have h2171 : 0 ≤ 371 + 300 * (part : Int) + 2 * j ∧ 371 + 300 * (part : Int) + 2 * j < 2171 := om_c h6 hjK n1
        have keep : (M1 42 (371 + 300 * part + 2 * j) ≤ x ∨ (r ≠ -1 ∧ r ≤ M1 42 (371 + 300 * part + 2 * j))) → ∃ m2, m2 < m ∧ ∃ (r_1 : Int) (p j_1 : Nat), p ≤ sN S ∧ j_1 ≤ K ∧ some (xI r) = some (xI r_1) ∧ (p = sN S ∧ m2 = K - j_1 ∧ some (xI ((j : Int) + 1)) = some (xI j_1)) ∧ IBc S part x (IC S part (M1 42) p j_1) r_1 := fun hc => ⟨K - (j + 1), hm1, r, sN S, j + 1, Nat.le_refl _, hj1, rfl, ⟨rfl, rfl, congrArg (fun z => some (xI z)) hjc⟩, IBk y3' IC_j hc⟩
        have new : x < M1 42 (371 + 300 * part + 2 * j) → (r = -1 ∨ M1 42 (371 + 300 * part + 2 * j) < r) → ∃ m2, m2 < m ∧ ∃ (r_1 : Int) (p j_1 : Nat), p ≤ sN S ∧ j_1 ≤ K ∧ some (xI (M1 42 (371 + 300 * part + 2 * j))) = some (xI r_1) ∧ (p = sN S ∧ m2 = K - j_1 ∧ some (xI ((j : Int) + 1)) = some (xI j_1)) ∧ IBc S part x (IC S part (M1 42) p j_1) r_1 := fun h1 hc => ⟨K - (j + 1), hm1, _, sN S, j + 1, Nat.le_refl _, hj1, rfl, ⟨rfl, rfl, congrArg (fun z => some (xI z)) hjc⟩, IBn hx y3' IC_j h1 hc (Or.inr v3)⟩
        refine ⟨h2171, fun c1 => keep (Or.inl c1), fun c1 => ⟨fun c2 => new (Int.not_le.mp c1) (Or.inl c2), fun c2 => ⟨fun c3 => keep (Or.inr ⟨c2, c3⟩), fun c3 => new (Int.not_le.mp c1) (Or.inr (Int.not_le.mp c3))⟩⟩⟩
end MPRT
