/-! the model reads: statements, the score -/
/-- what must hold of a score's outcome -/
def mS (B : Int → Int) (n : Nat) (M0 : xM) (h : xH) (Φ : xO → xM → xH → Prop) : xRr → Prop
  | .inl e => ∀ M', FE M0 e.1 e.2 M' → Φ (.inl (some (xI 0))) M' h
  | .inr R => ∀ M', RS B n M0 (rX R) (rL R) R M' → Φ (.inl (some (xI 1))) M' h
section MSCO
variable {B : Int → Int} {n x : Nat} {l : Bool} {R R' : xRd} {M M' M0 : xM} {h : xH} {Φ : xO → xM → xH → Prop} {S : xSr} {A : xAb}
set_option maxHeartbeats 1000000
theorem ten_ge (h : x ≤ n) : x ≤ ten B n x ∧ ten B n x ≤ n := by
  have h1 := ts_rng (B := B) h
  have h2 := ten_rng (B := B) h
  omega
theorem pBars_x (h : x ≤ n) (e : pBars B n x R = .inr R') : x ≤ rX R' := by
  have t1 := ten_ge (B := B) h
  have t2 := ten_ge (B := B) t1.2
  unfold pBars at e
  repeat' split at e
  all_goals first
    | exact absurd e (by simp)
    | (have q := Sum.inr.inj e; subst q; show x ≤ ten B n _; omega)
theorem pMark_x (h : x ≤ n) (e : pMark B n x R = .inr R') : x ≤ rX R' := by
  have t1 := ten_ge (B := B) h
  unfold pMark at e
  repeat' split at e
  all_goals first
    | exact absurd e (by simp)
    | (have q := Sum.inr.inj e; subst q; show x ≤ ten B n _; omega)
theorem pFlag_x {w : Int} (h : x ≤ n) (e : pFlag B n x w R = .inr R') : x ≤ rX R' := by
  have t1 := ten_ge (B := B) h
  unfold pFlag at e
  repeat' split at e
  all_goals first
    | exact absurd e (by simp)
    | (have q := Sum.inr.inj e; subst q; show x ≤ ten B n _; omega)
theorem pCut_x (h : x ≤ n) (e : pCut B n x R = .inr R') : x ≤ rX R' := by
  have t1 := ten_ge (B := B) h
  have t2 := ten_ge (B := B) t1.2
  unfold pCut at e
  repeat' split at e
  all_goals first
    | exact absurd e (by simp)
    | (have q := Sum.inr.inj e; subst q; show x ≤ ten B n _; omega)
theorem pGr_x {k : Nat} : ∀ {x : Nat} {t : Int} {R R' : xRd}, x ≤ n → pGr B n k x t R = .inr R' → x ≤ rX R' := by
  induction k with
  | zero =>
    intro x t R R' h e
    have q := Sum.inr.inj e
    subst q
    exact Nat.le_refl _
  | succ k ih =>
    intro x t R R' h e
    have t1 := ten_ge (B := B) h
    have t2 := ten_ge (B := B) t1.2
    unfold pGr at e
    split at e
    · have q := Sum.inr.inj e
      subst q
      exact Nat.le_refl _
    · split at e
      · exact absurd e (by simp)
      · split at e
        · exact absurd e (by simp)
        · have := ih t2.2 e
          omega
theorem pPart_x (h : x ≤ n) (e : pPart B n x R = .inr R') : x ≤ rX R' := by
  have t1 := ten_ge (B := B) h
  unfold pPart at e
  split at e
  · exact absurd e (by simp)
  · split at e
    · exact absurd e (by simp)
    · split at e
      · exact absurd e (by simp)
      · have := pGr_x t1.2 e
        omega
theorem pStm_x (h : rX R ≤ n) (e : pStm B n R = .inr R') : rX R ≤ rX R' := by
  have t1 := ten_ge (B := B) h
  unfold pStm at e
  split at e
  · exact absurd e (by simp)
  · split at e
    · have := pBars_x t1.2 e
      omega
    · split at e
      · have := pMark_x t1.2 e
        omega
      · split at e
        · have := pFlag_x t1.2 e
          omega
        · split at e
          · have := pFlag_x t1.2 e
            omega
          · split at e
            · have := pCut_x t1.2 e
              omega
            · split at e
              · have := pPart_x t1.2 e
                omega
              · exact absurd e (by simp)
theorem cM_readStatement (F : Fx h) (A : RS B n M0 (rX R) (rL R) R M) (k : mO B n M0 h Φ (pStm B n R)) : x_Cal zM_readStatement [xA 41] M h Φ := by
  unfold pStm at k
  refine x_met0 kM_readStatement (Nat.le_of_ble_eq_true rfl) ?_
  simp only [wq_g3, wq_gc, wq_g, wq_g1, wq_g2, eM_readStatement, iM_readStatement_0, iM_readStatement_9, iM_readStatement_25, iM_readStatement_41, iM_readStatement_63, iM_readStatement_79, iM_readStatement_81, iM_readStatement_85, iM_readStatement_101, iM_readStatement_119, iM_readStatement_128, vM_readStatement, wps, x_cnd, reduceIte, Nat.reduceAdd, Nat.reduceSub, Nat.reduceEqDiff, Nat.reduceLeDiff, Nat.lt_irrefl, Nat.reduceLT, Int.cast_ofNat_Int, wq_c0, wq_c1, true_and, and_true, and_self, true_implies, forall_const, ne_eq, Decidable.not_not, not_true_eq_false, not_false_eq_true, List.map_nil, List.map_cons, List.sum_nil, List.sum_cons, List.length_cons, List.length_nil, Nat.le_refl, Nat.zero_le, reduceCtorEq, true_or, or_true, false_or, or_false, false_and, and_false, false_implies, Nat.zero_add, Nat.add_zero, Int.reduceEq, Int.reduceNe, Int.reduceLT, Int.reduceLE, Int.reduceNeg, Int.reduceToNat, Nat.not_lt_zero, Int.reduceAdd, fxs F]
  refine cM_readWord F A.T A.g (fun c1 M' fe => ?_) (fun M1 hk T1 f1 e17 e13 e12 => ?_)
  · rw [if_pos c1] at k
    simp only [wq_g3, wq_gc, wq_g, wq_g1, wq_g2, eM_readStatement, iM_readStatement_0, iM_readStatement_9, iM_readStatement_25, iM_readStatement_41, iM_readStatement_63, iM_readStatement_79, iM_readStatement_81, iM_readStatement_85, iM_readStatement_101, iM_readStatement_119, iM_readStatement_128, vM_readStatement, wps, x_cnd, reduceIte, Nat.reduceAdd, Nat.reduceSub, Nat.reduceEqDiff, Nat.reduceLeDiff, Nat.lt_irrefl, Nat.reduceLT, Int.cast_ofNat_Int, wq_c0, wq_c1, true_and, and_true, and_self, true_implies, forall_const, ne_eq, Decidable.not_not, not_true_eq_false, not_false_eq_true, List.map_nil, List.map_cons, List.sum_nil, List.sum_cons, List.length_cons, List.length_nil, Nat.le_refl, Nat.zero_le, reduceCtorEq, true_or, or_true, false_or, or_false, false_and, and_false, false_implies, Nat.zero_add, Nat.add_zero, Int.reduceEq, Int.reduceNe, Int.reduceLT, Int.reduceLE, Int.reduceNeg, Int.reduceToNat, Nat.not_lt_zero, Int.reduceAdd, fxs F]
    exact k M' fe
  · have A1 : RS B n M0 (ten B n (rX R)) true R M1 := A.fr T1 f1
    rw [if_neg (by omega)] at k
    simp only [wq_g3, wq_gc, wq_g, wq_g1, wq_g2, eM_readStatement, iM_readStatement_0, iM_readStatement_9, iM_readStatement_25, iM_readStatement_41, iM_readStatement_63, iM_readStatement_79, iM_readStatement_81, iM_readStatement_85, iM_readStatement_101, iM_readStatement_119, iM_readStatement_128, vM_readStatement, wps, x_cnd, reduceIte, Nat.reduceAdd, Nat.reduceSub, Nat.reduceEqDiff, Nat.reduceLeDiff, Nat.lt_irrefl, Nat.reduceLT, Int.cast_ofNat_Int, wq_c0, wq_c1, true_and, and_true, and_self, true_implies, forall_const, ne_eq, Decidable.not_not, not_true_eq_false, not_false_eq_true, List.map_nil, List.map_cons, List.sum_nil, List.sum_cons, List.length_cons, List.length_nil, Nat.le_refl, Nat.zero_le, reduceCtorEq, true_or, or_true, false_or, or_false, false_and, and_false, false_implies, Nat.zero_add, Nat.add_zero, Int.reduceEq, Int.reduceNe, Int.reduceLT, Int.reduceLE, Int.reduceNeg, Int.reduceToNat, Nat.not_lt_zero, Int.reduceAdd, fxs F, e17, x_cmp_eq, e12]
    trace_state
    sorry
end MSCO
