/-! the model's questions: prints -/
section MPRT
variable {A : xAb} {M M' : xM} {h : xH} {Φ : xO → xM → xH → Prop} {S : xSr} {nid : Int}
set_option maxHeartbeats 1000000
theorem cM_noteAt {part k' : Nat} (h6 : part < 6) (hk : k' ≤ 150) (k : Φ (.inl (some (xI (371 + 300 * part + 2 * k')))) M h) : x_Cal zM_noteAt [xI part, xI k'] M h Φ := by
  refine x_met0 kM_noteAt (Nat.le_of_ble_eq_true rfl) ?_
  simp only [wq_g3, wq_gc, wq_g, wq_g1, wq_g2, eM_noteAt, iM_noteAt_0, vM_noteAt, wps, x_cnd, reduceIte, Nat.reduceAdd, Nat.reduceSub, Nat.reduceEqDiff, Nat.reduceLeDiff, Nat.lt_irrefl, Nat.reduceLT, Int.cast_ofNat_Int, wq_c0, wq_c1, true_and, and_true, and_self, true_implies, forall_const, ne_eq, Decidable.not_not, not_true_eq_false, not_false_eq_true, List.map_nil, List.map_cons, List.sum_nil, List.sum_cons, List.length_cons, List.length_nil, Nat.le_refl, Nat.zero_le, reduceCtorEq, true_or, or_true, false_or, or_false, false_and, and_false, false_implies, Nat.zero_add, Nat.add_zero, Int.reduceEq, Int.reduceNe, Int.reduceLT, Int.reduceLE, Int.reduceNeg, Int.reduceToNat, Nat.not_lt_zero, Int.reduceAdd]
  simp (disch := omega) only [w32_of]
  exact k
theorem cM_noteFor (F : Fx h) {g : Int → Int} {part : Nat} (h6 : part < 6) (N : NT g part (M 42)) {id : Int} (k : Φ (.inl (some (xI (g id)))) M h) : x_Cal zM_noteFor [xA 41, xI part, xI id] M h Φ := by
  obtain ⟨K, n1, n2, n3, n4⟩ := N
  refine x_metI kM_noteFor (Nat.le_of_ble_eq_true rfl) (fun t m ls st M' h' c n => t = 2 ∧ st = [] ∧ h' = h ∧ M' = M ∧ c = 0 ∧ n = 0 ∧ ls 0 = some (xA 41) ∧ ls 1 = some (xI part) ∧ ls 2 = some (xI id) ∧ ∃ p : Nat, p ≤ K ∧ m = K - p ∧ ls 3 = some (xI p) ∧ ∀ q : Nat, q < p → M 42 (371 + 300 * part + 2 * q) ≠ id) 20 ?_ ?_
  · simp only [wq_g3, wq_gc, wq_g, wq_g1, wq_g2, eM_noteFor, iM_noteFor_0, iM_noteFor_2, iM_noteFor_43, iM_noteFor_49, vM_noteFor, wps, x_cnd, reduceIte, Nat.reduceAdd, Nat.reduceSub, Nat.reduceEqDiff, Nat.reduceLeDiff, Nat.lt_irrefl, Nat.reduceLT, Int.cast_ofNat_Int, wq_c0, wq_c1, true_and, and_true, and_self, true_implies, forall_const, ne_eq, Decidable.not_not, not_true_eq_false, not_false_eq_true, List.map_nil, List.map_cons, List.sum_nil, List.sum_cons, List.length_cons, List.length_nil, Nat.le_refl, Nat.zero_le, reduceCtorEq, true_or, or_true, false_or, or_false, false_and, and_false, false_implies, Nat.zero_add, Nat.add_zero, Int.reduceEq, Int.reduceNe, Int.reduceLT, Int.reduceLE, Int.reduceNeg, Int.reduceToNat, Nat.not_lt_zero, Int.reduceAdd, fxs F]
    exact ⟨K - 0, 0, by omega, rfl, by rw [Int.natCast_zero], fun q hq => by omega⟩
  · rintro t m ls st M1 h' c n ⟨rfl, rfl, rfl, rfl, rfl, rfl, l0, l1, l2, p, q1, q2, l3, q3⟩
    simp only [wq_g3, wq_gc, wq_g, wq_g1, wq_g2, eM_noteFor, iM_noteFor_0, iM_noteFor_2, iM_noteFor_43, iM_noteFor_49, vM_noteFor, wps, x_cnd, reduceIte, Nat.reduceAdd, Nat.reduceSub, Nat.reduceEqDiff, Nat.reduceLeDiff, Nat.lt_irrefl, Nat.reduceLT, Int.cast_ofNat_Int, wq_c0, wq_c1, true_and, and_true, and_self, true_implies, forall_const, ne_eq, Decidable.not_not, not_true_eq_false, not_false_eq_true, List.map_nil, List.map_cons, List.sum_nil, List.sum_cons, List.length_cons, List.length_nil, Nat.le_refl, Nat.zero_le, reduceCtorEq, true_or, or_true, false_or, or_false, false_and, and_false, false_implies, Nat.zero_add, Nat.add_zero, Int.reduceEq, Int.reduceNe, Int.reduceLT, Int.reduceLE, Int.reduceNeg, Int.reduceToNat, Nat.not_lt_zero, Int.reduceAdd, fxs F, l0, l1, l2, l3]
    simp (disch := omega) only [w32_of]
    rw [n2]
    refine ⟨by omega, fun c0 => ?_, fun c0 => cM_noteAt h6 (by omega) ?_⟩
    · refine kr k ?_
      by_cases hg : g id = -1
      · exact hg
      · obtain ⟨q, h1, h2⟩ := n4 id hg
        exact absurd h2 (q3 q (by omega))
    · have n3p := n3 p (by omega)
      simp only [wq_g3, wq_gc, wq_g, wq_g1, wq_g2, eM_noteFor, iM_noteFor_0, iM_noteFor_2, iM_noteFor_43, iM_noteFor_49, vM_noteFor, wps, x_cnd, reduceIte, Nat.reduceAdd, Nat.reduceSub, Nat.reduceEqDiff, Nat.reduceLeDiff, Nat.lt_irrefl, Nat.reduceLT, Int.cast_ofNat_Int, wq_c0, wq_c1, true_and, and_true, and_self, true_implies, forall_const, ne_eq, Decidable.not_not, not_true_eq_false, not_false_eq_true, List.map_nil, List.map_cons, List.sum_nil, List.sum_cons, List.length_cons, List.length_nil, Nat.le_refl, Nat.zero_le, reduceCtorEq, true_or, or_true, false_or, or_false, false_and, and_false, false_implies, Nat.zero_add, Nat.add_zero, Int.reduceEq, Int.reduceNe, Int.reduceLT, Int.reduceLE, Int.reduceNeg, Int.reduceToNat, Nat.not_lt_zero, Int.reduceAdd, fxs F, l0, l1, l2, l3]
      refine ⟨by omega, fun c1 => ⟨K - (p + 1), by omega, p + 1, by omega, rfl, by rw [w32_of (by omega)]; exact congrArg (fun z => some (xI z)) (by omega), fun q hq => ?_⟩, fun c1 => cM_noteAt h6 (by omega) ?_⟩
      · by_cases hqp : q = p
        · subst hqp
          exact c1
        · exact q3 q (by omega)
      · simp only [wq_g3, wq_gc, wq_g, wq_g1, wq_g2, eM_noteFor, iM_noteFor_0, iM_noteFor_2, iM_noteFor_43, iM_noteFor_49, vM_noteFor, wps, x_cnd, reduceIte, Nat.reduceAdd, Nat.reduceSub, Nat.reduceEqDiff, Nat.reduceLeDiff, Nat.lt_irrefl, Nat.reduceLT, Int.cast_ofNat_Int, wq_c0, wq_c1, true_and, and_true, and_self, true_implies, forall_const, ne_eq, Decidable.not_not, not_true_eq_false, not_false_eq_true, List.map_nil, List.map_cons, List.sum_nil, List.sum_cons, List.length_cons, List.length_nil, Nat.le_refl, Nat.zero_le, reduceCtorEq, true_or, or_true, false_or, or_false, false_and, and_false, false_implies, Nat.zero_add, Nat.add_zero, Int.reduceEq, Int.reduceNe, Int.reduceLT, Int.reduceLE, Int.reduceNeg, Int.reduceToNat, Nat.not_lt_zero, Int.reduceAdd, fxs F, l0, l1, l2, l3]
        rw [w32_of (by omega), n3p.2.1, c1]
        exact ⟨by omega, k⟩
theorem cM_noteNow (F : Fx h) (G : SG S (M 42)) (w : wfS S nid) (L : LK S M) {part p : Nat} (h6 : part < 6) (hp : p < sN S) (k : Φ (.inl (some (xI (pk4 (lab S p) (lt S p) (sB S p) (sC S part p))))) M h) : x_Cal zM_noteNow [xA 41, xI part, xI p] M h Φ := by
  have hN := w.N
  refine x_met0 kM_noteNow (Nat.le_of_ble_eq_true rfl) ?_
  simp only [wq_g3, wq_gc, wq_g, wq_g1, wq_g2, eM_noteNow, iM_noteNow_0, vM_noteNow, wps, x_cnd, reduceIte, Nat.reduceAdd, Nat.reduceSub, Nat.reduceEqDiff, Nat.reduceLeDiff, Nat.lt_irrefl, Nat.reduceLT, Int.cast_ofNat_Int, wq_c0, wq_c1, true_and, and_true, and_self, true_implies, forall_const, ne_eq, Decidable.not_not, not_true_eq_false, not_false_eq_true, List.map_nil, List.map_cons, List.sum_nil, List.sum_cons, List.length_cons, List.length_nil, Nat.le_refl, Nat.zero_le, reduceCtorEq, true_or, or_true, false_or, or_false, false_and, and_false, false_implies, Nat.zero_add, Nat.add_zero, Int.reduceEq, Int.reduceNe, Int.reduceLT, Int.reduceLE, Int.reduceNeg, Int.reduceToNat, Nat.not_lt_zero, Int.reduceAdd, fxs F]
  rw [L.lab hp, L.lt hp]
  refine ⟨by omega, by omega, cM_whatAt F (by omega) ?_⟩
  rw [G.w hp]
  simp only [wq_g3, wq_gc, wq_g, wq_g1, wq_g2, eM_noteNow, iM_noteNow_0, vM_noteNow, wps, x_cnd, reduceIte, Nat.reduceAdd, Nat.reduceSub, Nat.reduceEqDiff, Nat.reduceLeDiff, Nat.lt_irrefl, Nat.reduceLT, Int.cast_ofNat_Int, wq_c0, wq_c1, true_and, and_true, and_self, true_implies, forall_const, ne_eq, Decidable.not_not, not_true_eq_false, not_false_eq_true, List.map_nil, List.map_cons, List.sum_nil, List.sum_cons, List.length_cons, List.length_nil, Nat.le_refl, Nat.zero_le, reduceCtorEq, true_or, or_true, false_or, or_false, false_and, and_false, false_implies, Nat.zero_add, Nat.add_zero, Int.reduceEq, Int.reduceNe, Int.reduceLT, Int.reduceLE, Int.reduceNeg, Int.reduceToNat, Nat.not_lt_zero, Int.reduceAdd, fxs F]
  refine cM_beatsIn w hp ?_
  simp only [wq_g3, wq_gc, wq_g, wq_g1, wq_g2, eM_noteNow, iM_noteNow_0, vM_noteNow, wps, x_cnd, reduceIte, Nat.reduceAdd, Nat.reduceSub, Nat.reduceEqDiff, Nat.reduceLeDiff, Nat.lt_irrefl, Nat.reduceLT, Int.cast_ofNat_Int, wq_c0, wq_c1, true_and, and_true, and_self, true_implies, forall_const, ne_eq, Decidable.not_not, not_true_eq_false, not_false_eq_true, List.map_nil, List.map_cons, List.sum_nil, List.sum_cons, List.length_cons, List.length_nil, Nat.le_refl, Nat.zero_le, reduceCtorEq, true_or, or_true, false_or, or_false, false_and, and_false, false_implies, Nat.zero_add, Nat.add_zero, Int.reduceEq, Int.reduceNe, Int.reduceLT, Int.reduceLE, Int.reduceNeg, Int.reduceToNat, Nat.not_lt_zero, Int.reduceAdd, fxs F]
  refine cM_contentAt F G w hp h6 ?_
  simp only [wq_g3, wq_gc, wq_g, wq_g1, wq_g2, eM_noteNow, iM_noteNow_0, vM_noteNow, wps, x_cnd, reduceIte, Nat.reduceAdd, Nat.reduceSub, Nat.reduceEqDiff, Nat.reduceLeDiff, Nat.lt_irrefl, Nat.reduceLT, Int.cast_ofNat_Int, wq_c0, wq_c1, true_and, and_true, and_self, true_implies, forall_const, ne_eq, Decidable.not_not, not_true_eq_false, not_false_eq_true, List.map_nil, List.map_cons, List.sum_nil, List.sum_cons, List.length_cons, List.length_nil, Nat.le_refl, Nat.zero_le, reduceCtorEq, true_or, or_true, false_or, or_false, false_and, and_false, false_implies, Nat.zero_add, Nat.add_zero, Int.reduceEq, Int.reduceNe, Int.reduceLT, Int.reduceLE, Int.reduceNeg, Int.reduceToNat, Nat.not_lt_zero, Int.reduceAdd, fxs F]
  refine x_met0 kM_noteOf (Nat.le_of_ble_eq_true rfl) ?_
  simp only [wq_g3, wq_gc, wq_g, wq_g1, wq_g2, eM_noteOf, iM_noteOf_0, vM_noteOf, wps, x_cnd, reduceIte, Nat.reduceAdd, Nat.reduceSub, Nat.reduceEqDiff, Nat.reduceLeDiff, Nat.lt_irrefl, Nat.reduceLT, Int.cast_ofNat_Int, wq_c0, wq_c1, true_and, and_true, and_self, true_implies, forall_const, ne_eq, Decidable.not_not, not_true_eq_false, not_false_eq_true, List.map_nil, List.map_cons, List.sum_nil, List.sum_cons, List.length_cons, List.length_nil, Nat.le_refl, Nat.zero_le, reduceCtorEq, true_or, or_true, false_or, or_false, false_and, and_false, false_implies, Nat.zero_add, Nat.add_zero, Int.reduceEq, Int.reduceNe, Int.reduceLT, Int.reduceLE, Int.reduceNeg, Int.reduceToNat, Nat.not_lt_zero, Int.reduceAdd]
  simp only [wq_g3, wq_gc, wq_g, wq_g1, wq_g2, eM_noteNow, iM_noteNow_0, vM_noteNow, wps, x_cnd, reduceIte, Nat.reduceAdd, Nat.reduceSub, Nat.reduceEqDiff, Nat.reduceLeDiff, Nat.lt_irrefl, Nat.reduceLT, Int.cast_ofNat_Int, wq_c0, wq_c1, true_and, and_true, and_self, true_implies, forall_const, ne_eq, Decidable.not_not, not_true_eq_false, not_false_eq_true, List.map_nil, List.map_cons, List.sum_nil, List.sum_cons, List.length_cons, List.length_nil, Nat.le_refl, Nat.zero_le, reduceCtorEq, true_or, or_true, false_or, or_false, false_and, and_false, false_implies, Nat.zero_add, Nat.add_zero, Int.reduceEq, Int.reduceNe, Int.reduceLT, Int.reduceLE, Int.reduceNeg, Int.reduceToNat, Nat.not_lt_zero, Int.reduceAdd, fxs F]
  rw [x_note (lab_rng hp w) lt_rng (w.b hp) (w.c hp h6)]
  exact k
theorem pk4_lt {l t b c : Int} (h1 : 0 ≤ l ∧ l ≤ 150150) (h2 : 0 ≤ t ∧ t ≤ 40) (h3 : 1 ≤ b ∧ b ≤ 12) (h4 : 0 ≤ c ∧ c ≤ 2) : 0 ≤ pk4 l t b c ∧ pk4 l t b c < 2147483648 := by
  unfold pk4
  omega
theorem cM_labelIn {n : Int} (hn : 0 ≤ n ∧ n < 2147483648) (k : Φ (.inl (some (xI (n / 4096)))) M h) : x_Cal zM_labelIn [xI n] M h Φ := by
  refine x_met0 kM_labelIn (Nat.le_of_ble_eq_true rfl) ?_
  simp only [wq_g3, wq_gc, wq_g, wq_g1, wq_g2, eM_labelIn, iM_labelIn_0, vM_labelIn, wps, x_cnd, reduceIte, Nat.reduceAdd, Nat.reduceSub, Nat.reduceEqDiff, Nat.reduceLeDiff, Nat.lt_irrefl, Nat.reduceLT, Int.cast_ofNat_Int, wq_c0, wq_c1, true_and, and_true, and_self, true_implies, forall_const, ne_eq, Decidable.not_not, not_true_eq_false, not_false_eq_true, List.map_nil, List.map_cons, List.sum_nil, List.sum_cons, List.length_cons, List.length_nil, Nat.le_refl, Nat.zero_le, reduceCtorEq, true_or, or_true, false_or, or_false, false_and, and_false, false_implies, Nat.zero_add, Nat.add_zero, Int.reduceEq, Int.reduceNe, Int.reduceLT, Int.reduceLE, Int.reduceNeg, Int.reduceToNat, Nat.not_lt_zero, Int.reduceAdd]
  have := x_shr_int (a := n) (k := 12) (by decide) (by unfold x_i32; omega)
  rw [show ((12 : Nat) : Int) = 12 from rfl] at this
  rw [this]
  exact k
theorem cM_letterIn {n : Int} (hn : 0 ≤ n ∧ n < 2147483648) (k : Φ (.inl (some (xI (n / 64 % 64)))) M h) : x_Cal zM_letterIn [xI n] M h Φ := by
  refine x_met0 kM_letterIn (Nat.le_of_ble_eq_true rfl) ?_
  simp only [wq_g3, wq_gc, wq_g, wq_g1, wq_g2, eM_letterIn, iM_letterIn_0, vM_letterIn, wps, x_cnd, reduceIte, Nat.reduceAdd, Nat.reduceSub, Nat.reduceEqDiff, Nat.reduceLeDiff, Nat.lt_irrefl, Nat.reduceLT, Int.cast_ofNat_Int, wq_c0, wq_c1, true_and, and_true, and_self, true_implies, forall_const, ne_eq, Decidable.not_not, not_true_eq_false, not_false_eq_true, List.map_nil, List.map_cons, List.sum_nil, List.sum_cons, List.length_cons, List.length_nil, Nat.le_refl, Nat.zero_le, reduceCtorEq, true_or, or_true, false_or, or_false, false_and, and_false, false_implies, Nat.zero_add, Nat.add_zero, Int.reduceEq, Int.reduceNe, Int.reduceLT, Int.reduceLE, Int.reduceNeg, Int.reduceToNat, Nat.not_lt_zero, Int.reduceAdd]
  have := x_shr_int (a := n) (k := 6) (by decide) (by unfold x_i32; omega)
  rw [show ((6 : Nat) : Int) = 6 from rfl, show ((2 ^ 6 : Nat) : Int) = 64 from rfl] at this
  rw [this, x_and_63 (by omega)]
  exact k
theorem cM_notedBeats {n : Int} (hn : 0 ≤ n ∧ n < 2147483648) (k : Φ (.inl (some (xI (n / 4 % 16)))) M h) : x_Cal zM_notedBeats [xI n] M h Φ := by
  refine x_met0 kM_notedBeats (Nat.le_of_ble_eq_true rfl) ?_
  simp only [wq_g3, wq_gc, wq_g, wq_g1, wq_g2, eM_notedBeats, iM_notedBeats_0, vM_notedBeats, wps, x_cnd, reduceIte, Nat.reduceAdd, Nat.reduceSub, Nat.reduceEqDiff, Nat.reduceLeDiff, Nat.lt_irrefl, Nat.reduceLT, Int.cast_ofNat_Int, wq_c0, wq_c1, true_and, and_true, and_self, true_implies, forall_const, ne_eq, Decidable.not_not, not_true_eq_false, not_false_eq_true, List.map_nil, List.map_cons, List.sum_nil, List.sum_cons, List.length_cons, List.length_nil, Nat.le_refl, Nat.zero_le, reduceCtorEq, true_or, or_true, false_or, or_false, false_and, and_false, false_implies, Nat.zero_add, Nat.add_zero, Int.reduceEq, Int.reduceNe, Int.reduceLT, Int.reduceLE, Int.reduceNeg, Int.reduceToNat, Nat.not_lt_zero, Int.reduceAdd]
  have := x_shr_int (a := n) (k := 2) (by decide) (by unfold x_i32; omega)
  rw [show ((2 : Nat) : Int) = 2 from rfl, show ((2 ^ 2 : Nat) : Int) = 4 from rfl] at this
  rw [this, x_and_15 (by omega)]
  exact k
theorem cM_kindOf (F : Fx h) (G : SG S (M 42)) (w : wfS S nid) (L : LK S M) {part : Nat} (h6 : part < 6) (hq : sQ S part = 1) {id : Int} (k : Φ (.inl (some (xI (kd S part (sR S part) id)))) M h) : x_Cal zM_kindOf [xA 41, xI part, xI id] M h Φ := by
  have hN := w.N
  refine x_met0 kM_kindOf (Nat.le_of_ble_eq_true rfl) ?_
  simp only [wq_g3, wq_gc, wq_g, wq_g1, wq_g2, eM_kindOf, iM_kindOf_0, iM_kindOf_33, iM_kindOf_34, iM_kindOf_46, iM_kindOf_55, iM_kindOf_64, iM_kindOf_65, iM_kindOf_66, iM_kindOf_89, iM_kindOf_103, iM_kindOf_117, iM_kindOf_127, iM_kindOf_129, vM_kindOf, wps, x_cnd, reduceIte, Nat.reduceAdd, Nat.reduceSub, Nat.reduceEqDiff, Nat.reduceLeDiff, Nat.lt_irrefl, Nat.reduceLT, Int.cast_ofNat_Int, wq_c0, wq_c1, true_and, and_true, and_self, true_implies, forall_const, ne_eq, Decidable.not_not, not_true_eq_false, not_false_eq_true, List.map_nil, List.map_cons, List.sum_nil, List.sum_cons, List.length_cons, List.length_nil, Nat.le_refl, Nat.zero_le, reduceCtorEq, true_or, or_true, false_or, or_false, false_and, and_false, false_implies, Nat.zero_add, Nat.add_zero, Int.reduceEq, Int.reduceNe, Int.reduceLT, Int.reduceLE, Int.reduceNeg, Int.reduceToNat, Nat.not_lt_zero, Int.reduceAdd, fxs F]
  refine cM_noteFor F h6 (G.nt h6 hq) ?_
  simp only [wq_g3, wq_gc, wq_g, wq_g1, wq_g2, eM_kindOf, iM_kindOf_0, iM_kindOf_33, iM_kindOf_34, iM_kindOf_46, iM_kindOf_55, iM_kindOf_64, iM_kindOf_65, iM_kindOf_66, iM_kindOf_89, iM_kindOf_103, iM_kindOf_117, iM_kindOf_127, iM_kindOf_129, vM_kindOf, wps, x_cnd, reduceIte, Nat.reduceAdd, Nat.reduceSub, Nat.reduceEqDiff, Nat.reduceLeDiff, Nat.lt_irrefl, Nat.reduceLT, Int.cast_ofNat_Int, wq_c0, wq_c1, true_and, and_true, and_self, true_implies, forall_const, ne_eq, Decidable.not_not, not_true_eq_false, not_false_eq_true, List.map_nil, List.map_cons, List.sum_nil, List.sum_cons, List.length_cons, List.length_nil, Nat.le_refl, Nat.zero_le, reduceCtorEq, true_or, or_true, false_or, or_false, false_and, and_false, false_implies, Nat.zero_add, Nat.add_zero, Int.reduceEq, Int.reduceNe, Int.reduceLT, Int.reduceLE, Int.reduceNeg, Int.reduceToNat, Nat.not_lt_zero, Int.reduceAdd, fxs F]
  refine cM_placeOf F G w ?_
  unfold kd at k
  simp only [wq_g3, wq_gc, wq_g, wq_g1, wq_g2, eM_kindOf, iM_kindOf_0, iM_kindOf_33, iM_kindOf_34, iM_kindOf_46, iM_kindOf_55, iM_kindOf_64, iM_kindOf_65, iM_kindOf_66, iM_kindOf_89, iM_kindOf_103, iM_kindOf_117, iM_kindOf_127, iM_kindOf_129, vM_kindOf, wps, x_cnd, reduceIte, Nat.reduceAdd, Nat.reduceSub, Nat.reduceEqDiff, Nat.reduceLeDiff, Nat.lt_irrefl, Nat.reduceLT, Int.cast_ofNat_Int, wq_c0, wq_c1, true_and, and_true, and_self, true_implies, forall_const, ne_eq, Decidable.not_not, not_true_eq_false, not_false_eq_true, List.map_nil, List.map_cons, List.sum_nil, List.sum_cons, List.length_cons, List.length_nil, Nat.le_refl, Nat.zero_le, reduceCtorEq, true_or, or_true, false_or, or_false, false_and, and_false, false_implies, Nat.zero_add, Nat.add_zero, Int.reduceEq, Int.reduceNe, Int.reduceLT, Int.reduceLE, Int.reduceNeg, Int.reduceToNat, Nat.not_lt_zero, Int.reduceAdd, fxs F]
  trace_state
  sorry
end MPRT
