/-! reletter -/
section LET
variable {A : xAb} {M : xM} {h : xH} {Φ : xO → xM → xH → Prop} {S : xSr} {nid : Int}
set_option maxHeartbeats 1000000
/-- the marks as they stand at place p -/
def reW (S : xSr) (p : Nat) (M1 : xM) : xM := fun a j => if a = 24 ∧ 0 ≤ j ∧ j < 41 then reM S p j else M1 a j
theorem reW_ne {p a : Nat} {M1 : xM} {j : Int} (h : a ≠ 24) : reW S p M1 a j = M1 a j := if_neg (fun q => h q.1)
theorem reW_0 {M1 : xM} : x_fl M1 24 (-1) 41 = reW S 0 M1 := rfl
theorem reW_s1 {p : Nat} {M1 : xM} (h : sit S p ≠ 0 ∧ rl S p < 40) : x_w (reW S p M1) 24 (rl S p + 1) (sI S p) = reW S (p + 1) M1 := by
  have hr := rl_rng (S := S) (p := p)
  funext a j
  unfold reW x_w
  rw [(rl_s1 h).2.1]
  by_cases h1 : a = 24 ∧ j = rl S p + 1
  · rw [if_pos h1, if_pos (by omega), h1.2, up_1]
  · rw [if_neg h1]
    by_cases h2 : a = 24 ∧ 0 ≤ j ∧ j < 41
    · dsimp only
      rw [if_pos h2, if_pos h2, up_2 (by omega)]
    · dsimp only
      rw [if_neg h2, if_neg h2]
theorem reW_s0 {p : Nat} {M1 : xM} (h : ¬ (sit S p ≠ 0 ∧ rl S p < 40)) : reW S p M1 = reW S (p + 1) M1 := by
  unfold reW
  rw [(rl_s0 h).2.1]
theorem repC.letS (R : repC S M h 17) (w : wfS S nid) : repC (letS S) (reW S (sN S) M) h 17 := by
  obtain ⟨a1, b1, c1, d1, e1, f1⟩ := R
  refine ⟨a1, ⟨?_, ?_, ?_⟩, fun q hq => ?_, fun l h1 h2 => ?_, fun k h1 => ?_, fun part h6 => ?_⟩
  · rw [reW_ne (by omega)]
    exact b1.1
  · rw [reW_ne (by omega)]
    exact b1.2.1
  · rw [reW_ne (by omega), letS_N w]
    exact b1.2.2
  · obtain ⟨g1, g2, g3, g4, g5, g6⟩ := c1 q hq
    exact ⟨by rw [reW_ne (by omega)]; exact g1, by rw [reW_ne (by omega)]; exact g2, by rw [reW_ne (by omega)]; exact g3, by rw [reW_ne (by omega)]; exact g4, by rw [reW_ne (by omega)]; exact g5, fun k h6 => by rw [reW_ne (by omega)]; exact g6 k h6⟩
  · exact if_pos ⟨rfl, by omega, by omega⟩
  · rw [reW_ne (by omega), reW_ne (by omega)]
    exact e1 k h1
  · rcases f1 part h6 with z | ⟨z1, z2⟩
    · exact Or.inl z
    · exact Or.inr ⟨z1, z2.frame (fun a j ha => by rw [reW_ne (by omega)])⟩
theorem cP_reletter (C : CW A M h) (k : ∀ M' h', CW (dLet A).2 M' h' → Fr M h M' h' → Φ (xo (dLet A).1) M' h') : x_Cal zP_reletter [xA 1] M h Φ := by
  have hN := C.w.N
  refine x_metI kP_reletter (Nat.le_of_ble_eq_true rfl) (fun t m ls st M' h' c n => t = 28 ∧ st = [] ∧ c ≤ 11 ∧ n ≤ 1730 ∧ ls 0 = some (xA 1) ∧ ∃ p : Nat, p ≤ sN (aS A) ∧ m = sN (aS A) - p ∧ ls 3 = some (xI p) ∧ ls 1 = some (xI (rl (aS A) p)) ∧ ls 2 = some (xI (ro (aS A) p)) ∧ ∃ M1, PW (aKeep A (aS A) (aI A)) M1 h' ∧ repC (aS A) M1 h' 17 ∧ (∀ a j, a < 42 → a ≠ 37 → M1 a j = M a j) ∧ hn h ≤ hn h' ∧ M' = reW (aS A) p M1) 20 ?_ ?_
  · simp only [wq_g3, wq_gc, wq_g, wq_g1, wq_g2, eP_reletter, iP_reletter_0, iP_reletter_28, iP_reletter_96, iP_reletter_97, iP_reletter_99, iP_reletter_105, vP_reletter, wps, x_cnd, reduceIte, Nat.reduceAdd, Nat.reduceSub, Nat.reduceEqDiff, Nat.reduceLeDiff, Nat.lt_irrefl, Nat.reduceLT, Int.cast_ofNat_Int, wq_c0, wq_c1, true_and, and_true, and_self, true_implies, forall_const, ne_eq, Decidable.not_not, not_true_eq_false, not_false_eq_true, List.map_nil, List.map_cons, List.sum_nil, List.sum_cons, List.length_cons, List.length_nil, Nat.le_refl, Nat.zero_le, reduceCtorEq, true_or, or_true, false_or, or_false, false_and, and_false, false_implies, Nat.zero_add, Nat.add_zero, Int.reduceEq, Int.reduceNe, Int.reduceLT, Int.reduceLE, Int.reduceNeg, Int.reduceToNat, Nat.not_lt_zero, Int.reduceAdd, fxs C.F]
    refine chg_keep C (fun M1 h1 P1 R1 f1 f2 => ?_)
    simp only [wq_g3, wq_gc, wq_g, wq_g1, wq_g2, eP_reletter, iP_reletter_0, iP_reletter_28, iP_reletter_96, iP_reletter_97, iP_reletter_99, iP_reletter_105, vP_reletter, wps, x_cnd, reduceIte, Nat.reduceAdd, Nat.reduceSub, Nat.reduceEqDiff, Nat.reduceLeDiff, Nat.lt_irrefl, Nat.reduceLT, Int.cast_ofNat_Int, wq_c0, wq_c1, true_and, and_true, and_self, true_implies, forall_const, ne_eq, Decidable.not_not, not_true_eq_false, not_false_eq_true, List.map_nil, List.map_cons, List.sum_nil, List.sum_cons, List.length_cons, List.length_nil, Nat.le_refl, Nat.zero_le, reduceCtorEq, true_or, or_true, false_or, or_false, false_and, and_false, false_implies, Nat.zero_add, Nat.add_zero, Int.reduceEq, Int.reduceNe, Int.reduceLT, Int.reduceLE, Int.reduceNeg, Int.reduceToNat, Nat.not_lt_zero, Int.reduceAdd, fxs P1.F]
    refine cA_fill (L := 41) (by simp only [fxs P1.F]) (by simp only [fxs P1.F]) (by omega) ?_
    simp only [wq_g3, wq_gc, wq_g, wq_g1, wq_g2, eP_reletter, iP_reletter_0, iP_reletter_28, iP_reletter_96, iP_reletter_97, iP_reletter_99, iP_reletter_105, vP_reletter, wps, x_cnd, reduceIte, Nat.reduceAdd, Nat.reduceSub, Nat.reduceEqDiff, Nat.reduceLeDiff, Nat.lt_irrefl, Nat.reduceLT, Int.cast_ofNat_Int, wq_c0, wq_c1, true_and, and_true, and_self, true_implies, forall_const, ne_eq, Decidable.not_not, not_true_eq_false, not_false_eq_true, List.map_nil, List.map_cons, List.sum_nil, List.sum_cons, List.length_cons, List.length_nil, Nat.le_refl, Nat.zero_le, reduceCtorEq, true_or, or_true, false_or, or_false, false_and, and_false, false_implies, Nat.zero_add, Nat.add_zero, Int.reduceEq, Int.reduceNe, Int.reduceLT, Int.reduceLE, Int.reduceNeg, Int.reduceToNat, Nat.not_lt_zero, Int.reduceAdd]
    exact ⟨_, 0, by omega, rfl, rfl, rfl, rfl, M1, P1, R1, f1, f2, reW_0⟩
  · rintro t m ls st M' h' c n ⟨rfl, rfl, hc, hn0, l0, p, q1, q2, l3, l1, l2, M1, P1, R1, f1, f2, rfl⟩
    have e0 : reW (aS A) p M1 17 0 = sN (aS A) := (reW_ne (by omega)).trans R1.n
    simp only [wq_g3, wq_gc, wq_g, wq_g1, wq_g2, eP_reletter, iP_reletter_0, iP_reletter_28, iP_reletter_96, iP_reletter_97, iP_reletter_99, iP_reletter_105, vP_reletter, wps, x_cnd, reduceIte, Nat.reduceAdd, Nat.reduceSub, Nat.reduceEqDiff, Nat.reduceLeDiff, Nat.lt_irrefl, Nat.reduceLT, Int.cast_ofNat_Int, wq_c0, wq_c1, true_and, and_true, and_self, true_implies, forall_const, ne_eq, Decidable.not_not, not_true_eq_false, not_false_eq_true, List.map_nil, List.map_cons, List.sum_nil, List.sum_cons, List.length_cons, List.length_nil, Nat.le_refl, Nat.zero_le, reduceCtorEq, true_or, or_true, false_or, or_false, false_and, and_false, false_implies, Nat.zero_add, Nat.add_zero, Int.reduceEq, Int.reduceNe, Int.reduceLT, Int.reduceLE, Int.reduceNeg, Int.reduceToNat, Nat.not_lt_zero, Int.reduceAdd, fxs P1.F, e0, l0, l1, l2, l3, hc, hn0]
    have hrl := rl_rng (S := aS A) (p := p)
    have hro := ro_rng (S := aS A) (p := p)
    refine ⟨fun c0 => ?_, fun c0 => ⟨by omega, ?_⟩⟩
    · have hp : p = sN (aS A) := by omega
      subst hp
      refine chg_ref (A := aKeep A (letS (aS A)) (aI A)) (P1.frame (fun a j ha => ?_)) (R1.letS C.w) C.w.letS (fun M3 C3 f3 => ?_)
      · rw [reW_ne (by omega)]
      · simp only [wq_g3, wq_gc, wq_g, wq_g1, wq_g2, eP_reletter, iP_reletter_0, iP_reletter_28, iP_reletter_96, iP_reletter_97, iP_reletter_99, iP_reletter_105, vP_reletter, wps, x_cnd, reduceIte, Nat.reduceAdd, Nat.reduceSub, Nat.reduceEqDiff, Nat.reduceLeDiff, Nat.lt_irrefl, Nat.reduceLT, Int.cast_ofNat_Int, wq_c0, wq_c1, true_and, and_true, and_self, true_implies, forall_const, ne_eq, Decidable.not_not, not_true_eq_false, not_false_eq_true, List.map_nil, List.map_cons, List.sum_nil, List.sum_cons, List.length_cons, List.length_nil, Nat.le_refl, Nat.zero_le, reduceCtorEq, true_or, or_true, false_or, or_false, false_and, and_false, false_implies, Nat.zero_add, Nat.add_zero, Int.reduceEq, Int.reduceNe, Int.reduceLT, Int.reduceLE, Int.reduceNeg, Int.reduceToNat, Nat.not_lt_zero, Int.reduceAdd, l0, l1, l2, l3]
        refine k M3 h' C3 ⟨fun a j z1 z2 => ?_, f2⟩
        rw [f3 a j (by omega), reW_ne (by omega), f1 a j z2 (by omega)]
    · have e1 : reW (aS A) p M1 32 p = sit (aS A) p := by
        rw [reW_ne (by omega), f1 _ _ (by omega) (by omega)]
        exact C.V.sit (by omega)
      have e2 : reW (aS A) p M1 18 p = sI (aS A) p := by
        rw [reW_ne (by omega)]
        exact R1.id (by omega)
      rw [e1, e2]
      have e4 : ∀ a v, x_w (reW (aS A) p M1) 24 a v 32 p = sit (aS A) p := fun a v => by
        rw [w_ne (by omega)]
        exact e1
      simp only [e4]
      simp (disch := omega) only [w32_of]
      have z1 : sN (aS A) - (p + 1) < m := by omega
      have z2 : p + 1 ≤ sN (aS A) := by omega
      have no : ¬ (sit (aS A) p ≠ 0 ∧ rl (aS A) p < 40) → ∃ m2, m2 < m ∧ ∃ p_1 : Nat, p_1 ≤ sN (aS A) ∧ m2 = sN (aS A) - p_1 ∧ some (xI ((p : Int) + 1)) = some (xI p_1) ∧ some (xI (rl (aS A) p)) = some (xI (rl (aS A) p_1)) ∧ some (xI (ro (aS A) p)) = some (xI (ro (aS A) p_1)) ∧ ∃ M1_1, PW (aKeep A (aS A) (aI A)) M1_1 h' ∧ repC (aS A) M1_1 h' 17 ∧ (∀ (a : Nat) (j : Int), a < 42 → ¬a = 37 → M1_1 a j = M a j) ∧ hn h ≤ hn h' ∧ reW (aS A) p M1 = reW (aS A) p_1 M1_1 := fun hno => by
        obtain ⟨e1, e2, e3⟩ := rl_s0 hno
        exact ⟨sN (aS A) - (p + 1), z1, p + 1, z2, rfl, rfl, by rw [e1], by rw [e3], M1, P1, R1, f1, f2, reW_s0 hno⟩
      refine ⟨fun c1 => no (by omega), fun c1 => ⟨fun c2 => no (by omega), fun c2 => ⟨by omega, by omega, by omega, fun c3 => ?_, fun c3 => ?_⟩⟩⟩
      · have hy : sit (aS A) p ≠ 0 ∧ rl (aS A) p < 40 := by omega
        obtain ⟨e5, e6, e7⟩ := rl_s1 hy
        rw [if_neg c3] at e7
        exact ⟨sN (aS A) - (p + 1), z1, p + 1, z2, rfl, rfl, by rw [e5], by rw [e7], M1, P1, R1, f1, f2, reW_s1 hy⟩
      · have hy : sit (aS A) p ≠ 0 ∧ rl (aS A) p < 40 := by omega
        obtain ⟨e5, e6, e7⟩ := rl_s1 hy
        rw [if_pos c3] at e7
        exact ⟨sN (aS A) - (p + 1), z1, p + 1, z2, rfl, rfl, by rw [e5], by rw [e7], M1, P1, R1, f1, f2, reW_s1 hy⟩
end LET
