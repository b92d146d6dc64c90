/-! the model reads: statements, the score -/
/-- what must hold of a score's outcome -/
def mS (B : Int → Int) (n : Nat) (M0 : xM) (h : xH) (Φ : xO → xM → xH → Prop) : xRr → Prop
  | .inl e => ∀ M', FE M0 e.1 e.2 M' → Φ (.inl (some (xI 0))) M' h
  | .inr R => ∀ M', RS B n M0 (rX R) (rL R) R M' → Φ (.inl (some (xI 1))) M' h
section MSCO
variable {B : Int → Int} {n x : Nat} {l : Bool} {R R' : xRd} {M M' M0 : xM} {h : xH} {Φ : xO → xM → xH → Prop} {S : xSr} {A : xAb}
set_option maxHeartbeats 1000000
theorem ten_ge (h : x ≤ n) : x ≤ ten B n x ∧ ten B n x ≤ n := by
  have h1 := ts_rng (B := B) h
  have h2 := ten_rng (B := B) h
  omega
theorem pBars_x (h : x ≤ n) (e : pBars B n x R = .inr R') : x ≤ rX R' := by
  have t1 := ten_ge (B := B) h
  have t2 := ten_ge (B := B) t1.2
  unfold pBars at e
  repeat' split at e
  all_goals first
    | (have q := Sum.inr.inj e; subst q; show x ≤ ten B n _; omega)
    | exact absurd e (by simp)
theorem pMark_x (h : x ≤ n) (e : pMark B n x R = .inr R') : x ≤ rX R' := by
  have t1 := ten_ge (B := B) h
  unfold pMark at e
  repeat' split at e
  all_goals first
    | (have q := Sum.inr.inj e; subst q; show x ≤ ten B n _; omega)
    | exact absurd e (by simp)
theorem pFlag_x {w : Int} (h : x ≤ n) (e : pFlag B n x w R = .inr R') : x ≤ rX R' := by
  have t1 := ten_ge (B := B) h
  unfold pFlag at e
  repeat' split at e
  all_goals first
    | (have q := Sum.inr.inj e; subst q; show x ≤ ten B n _; omega)
    | exact absurd e (by simp)
theorem pCut_x (h : x ≤ n) (e : pCut B n x R = .inr R') : x ≤ rX R' := by
  have t1 := ten_ge (B := B) h
  have t2 := ten_ge (B := B) t1.2
  unfold pCut at e
  repeat' split at e
  all_goals first
    | (have q := Sum.inr.inj e; subst q; show x ≤ ten B n _; omega)
    | exact absurd e (by simp)
theorem pGr_x {k : Nat} : ∀ {x : Nat} {t : Int} {R R' : xRd}, x ≤ n → pGr B n k x t R = .inr R' → x ≤ rX R' := by
  induction k with
  | zero =>
    intro x t R R' h e
    have q := Sum.inr.inj e
    subst q
    exact Nat.le_refl _
  | succ k ih =>
    intro x t R R' h e
    have t1 := ten_ge (B := B) h
    have t2 := ten_ge (B := B) t1.2
    unfold pGr at e
    split at e
    · have q := Sum.inr.inj e
      subst q
      exact Nat.le_refl _
    · split at e
      · exact absurd e (by simp)
      · split at e
        · exact absurd e (by simp)
        · have := ih t2.2 e
          omega
theorem pPart_x (h : x ≤ n) (e : pPart B n x R = .inr R') : x ≤ rX R' := by
  have t1 := ten_ge (B := B) h
  unfold pPart at e
  split at e
  · exact absurd e (by simp)
  · split at e
    · exact absurd e (by simp)
    · split at e
      · exact absurd e (by simp)
      · have := pGr_x t1.2 e
        omega
theorem pStm_x (h : rX R ≤ n) (e : pStm B n R = .inr R') : rX R ≤ rX R' := by
  have t1 := ten_ge (B := B) h
  unfold pStm at e
  split at e
  · exact absurd e (by simp)
  · split at e
    · have := pBars_x t1.2 e
      omega
    · split at e
      · have := pMark_x t1.2 e
        omega
      · split at e
        · have := pFlag_x t1.2 e
          omega
        · split at e
          · have := pFlag_x t1.2 e
            omega
          · split at e
            · have := pCut_x t1.2 e
              omega
            · split at e
              · have := pPart_x t1.2 e
                omega
              · exact absurd e (by simp)
theorem cM_readStatement (F : Fx h) (A : RS B n M0 (rX R) (rL R) R M) (k : mO B n M0 h Φ (pStm B n R)) : x_Cal zM_readStatement [xA 41] M h Φ := by
  unfold pStm at k
  refine x_met0 kM_readStatement (Nat.le_of_ble_eq_true rfl) ?_
  simp only [wq_g3, wq_gc, wq_g, wq_g1, wq_g2, eM_readStatement, iM_readStatement_0, iM_readStatement_9, iM_readStatement_25, iM_readStatement_41, iM_readStatement_63, iM_readStatement_79, iM_readStatement_81, iM_readStatement_85, iM_readStatement_101, iM_readStatement_119, iM_readStatement_128, vM_readStatement, wps, x_cnd, reduceIte, Nat.reduceAdd, Nat.reduceSub, Nat.reduceEqDiff, Nat.reduceLeDiff, Nat.lt_irrefl, Nat.reduceLT, Int.cast_ofNat_Int, wq_c0, wq_c1, true_and, and_true, and_self, true_implies, forall_const, ne_eq, Decidable.not_not, not_true_eq_false, not_false_eq_true, List.map_nil, List.map_cons, List.sum_nil, List.sum_cons, List.length_cons, List.length_nil, Nat.le_refl, Nat.zero_le, reduceCtorEq, true_or, or_true, false_or, or_false, false_and, and_false, false_implies, Nat.zero_add, Nat.add_zero, Int.reduceEq, Int.reduceNe, Int.reduceLT, Int.reduceLE, Int.reduceNeg, Int.reduceToNat, Nat.not_lt_zero, Int.reduceAdd, fxs F]
  refine cM_readWord F A.T A.g (fun c1 M' fe => ?_) (fun M1 hk T1 f1 e17 e13 e12 => ?_)
  · rw [if_pos c1] at k
    simp only [wq_g3, wq_gc, wq_g, wq_g1, wq_g2, eM_readStatement, iM_readStatement_0, iM_readStatement_9, iM_readStatement_25, iM_readStatement_41, iM_readStatement_63, iM_readStatement_79, iM_readStatement_81, iM_readStatement_85, iM_readStatement_101, iM_readStatement_119, iM_readStatement_128, vM_readStatement, wps, x_cnd, reduceIte, Nat.reduceAdd, Nat.reduceSub, Nat.reduceEqDiff, Nat.reduceLeDiff, Nat.lt_irrefl, Nat.reduceLT, Int.cast_ofNat_Int, wq_c0, wq_c1, true_and, and_true, and_self, true_implies, forall_const, ne_eq, Decidable.not_not, not_true_eq_false, not_false_eq_true, List.map_nil, List.map_cons, List.sum_nil, List.sum_cons, List.length_cons, List.length_nil, Nat.le_refl, Nat.zero_le, reduceCtorEq, true_or, or_true, false_or, or_false, false_and, and_false, false_implies, Nat.zero_add, Nat.add_zero, Int.reduceEq, Int.reduceNe, Int.reduceLT, Int.reduceLE, Int.reduceNeg, Int.reduceToNat, Nat.not_lt_zero, Int.reduceAdd, fxs F]
    exact k M' fe
  · have A1 : RS B n M0 (ten B n (rX R)) true R M1 := A.fr T1 f1
    rw [if_neg (by omega)] at k
    simp only [wq_g3, wq_gc, wq_g, wq_g1, wq_g2, eM_readStatement, iM_readStatement_0, iM_readStatement_9, iM_readStatement_25, iM_readStatement_41, iM_readStatement_63, iM_readStatement_79, iM_readStatement_81, iM_readStatement_85, iM_readStatement_101, iM_readStatement_119, iM_readStatement_128, vM_readStatement, wps, x_cnd, reduceIte, Nat.reduceAdd, Nat.reduceSub, Nat.reduceEqDiff, Nat.reduceLeDiff, Nat.lt_irrefl, Nat.reduceLT, Int.cast_ofNat_Int, wq_c0, wq_c1, true_and, and_true, and_self, true_implies, forall_const, ne_eq, Decidable.not_not, not_true_eq_false, not_false_eq_true, List.map_nil, List.map_cons, List.sum_nil, List.sum_cons, List.length_cons, List.length_nil, Nat.le_refl, Nat.zero_le, reduceCtorEq, true_or, or_true, false_or, or_false, false_and, and_false, false_implies, Nat.zero_add, Nat.add_zero, Int.reduceEq, Int.reduceNe, Int.reduceLT, Int.reduceLE, Int.reduceNeg, Int.reduceToNat, Nat.not_lt_zero, Int.reduceAdd, fxs F, e17, x_cmp_eq, e12]
    refine ⟨fun c0 => ⟨fun c1 => ⟨fun c2 => ⟨fun c => absurd c2 c, fun _ => ?_⟩, fun c2 => ⟨fun c3 => ⟨fun c4 => ⟨fun c5 => ?_, fun c5 => ?_⟩, fun c4 => ?_⟩, fun c3 => ⟨fun _ => ?_, fun c => absurd c c2⟩⟩⟩, fun c1 => ?_⟩, fun c0 => ?_⟩
    · rw [if_neg c0, if_neg c1, if_pos c2] at k
      refine cM_readBit F A1 (w := 4) (c := 5) (Or.inl ⟨rfl, rfl⟩) (mO_m k (fun v M' hv q => ?_))
      simp only [wq_g3, wq_gc, wq_g, wq_g1, wq_g2, eM_readStatement, iM_readStatement_0, iM_readStatement_9, iM_readStatement_25, iM_readStatement_41, iM_readStatement_63, iM_readStatement_79, iM_readStatement_81, iM_readStatement_85, iM_readStatement_101, iM_readStatement_119, iM_readStatement_128, vM_readStatement, wps, x_cnd, reduceIte, Nat.reduceAdd, Nat.reduceSub, Nat.reduceEqDiff, Nat.reduceLeDiff, Nat.lt_irrefl, Nat.reduceLT, Int.cast_ofNat_Int, wq_c0, wq_c1, true_and, and_true, and_self, true_implies, forall_const, ne_eq, Decidable.not_not, not_true_eq_false, not_false_eq_true, List.map_nil, List.map_cons, List.sum_nil, List.sum_cons, List.length_cons, List.length_nil, Nat.le_refl, Nat.zero_le, reduceCtorEq, true_or, or_true, false_or, or_false, false_and, and_false, false_implies, Nat.zero_add, Nat.add_zero, Int.reduceEq, Int.reduceNe, Int.reduceLT, Int.reduceLE, Int.reduceNeg, Int.reduceToNat, Nat.not_lt_zero, Int.reduceAdd, fxs F]
      exact ⟨hv, q⟩
    · refine cM_fails F A1.g (fun M' fe => ?_)
      rw [if_neg c0, if_neg c1, if_neg c2, if_neg c3, if_neg c4, if_neg c5] at k
      simp only [wq_g3, wq_gc, wq_g, wq_g1, wq_g2, eM_readStatement, iM_readStatement_0, iM_readStatement_9, iM_readStatement_25, iM_readStatement_41, iM_readStatement_63, iM_readStatement_79, iM_readStatement_81, iM_readStatement_85, iM_readStatement_101, iM_readStatement_119, iM_readStatement_128, vM_readStatement, wps, x_cnd, reduceIte, Nat.reduceAdd, Nat.reduceSub, Nat.reduceEqDiff, Nat.reduceLeDiff, Nat.lt_irrefl, Nat.reduceLT, Int.cast_ofNat_Int, wq_c0, wq_c1, true_and, and_true, and_self, true_implies, forall_const, ne_eq, Decidable.not_not, not_true_eq_false, not_false_eq_true, List.map_nil, List.map_cons, List.sum_nil, List.sum_cons, List.length_cons, List.length_nil, Nat.le_refl, Nat.zero_le, reduceCtorEq, true_or, or_true, false_or, or_false, false_and, and_false, false_implies, Nat.zero_add, Nat.add_zero, Int.reduceEq, Int.reduceNe, Int.reduceLT, Int.reduceLE, Int.reduceNeg, Int.reduceToNat, Nat.not_lt_zero, Int.reduceAdd, fxs F]
      exact k M' fe
    · rw [if_neg c0, if_neg c1, if_neg c2, if_neg c3, if_neg c4, if_pos c5] at k
      refine cM_readPart F A1 e12 (mO_m k (fun v M' hv q => ?_))
      simp only [wq_g3, wq_gc, wq_g, wq_g1, wq_g2, eM_readStatement, iM_readStatement_0, iM_readStatement_9, iM_readStatement_25, iM_readStatement_41, iM_readStatement_63, iM_readStatement_79, iM_readStatement_81, iM_readStatement_85, iM_readStatement_101, iM_readStatement_119, iM_readStatement_128, vM_readStatement, wps, x_cnd, reduceIte, Nat.reduceAdd, Nat.reduceSub, Nat.reduceEqDiff, Nat.reduceLeDiff, Nat.lt_irrefl, Nat.reduceLT, Int.cast_ofNat_Int, wq_c0, wq_c1, true_and, and_true, and_self, true_implies, forall_const, ne_eq, Decidable.not_not, not_true_eq_false, not_false_eq_true, List.map_nil, List.map_cons, List.sum_nil, List.sum_cons, List.length_cons, List.length_nil, Nat.le_refl, Nat.zero_le, reduceCtorEq, true_or, or_true, false_or, or_false, false_and, and_false, false_implies, Nat.zero_add, Nat.add_zero, Int.reduceEq, Int.reduceNe, Int.reduceLT, Int.reduceLE, Int.reduceNeg, Int.reduceToNat, Nat.not_lt_zero, Int.reduceAdd, fxs F]
      exact ⟨hv, q⟩
    · rw [if_neg c0, if_neg c1, if_neg c2, if_neg c3, if_pos c4] at k
      refine cM_readCut F A1 e12 (mO_m k (fun v M' hv q => ?_))
      simp only [wq_g3, wq_gc, wq_g, wq_g1, wq_g2, eM_readStatement, iM_readStatement_0, iM_readStatement_9, iM_readStatement_25, iM_readStatement_41, iM_readStatement_63, iM_readStatement_79, iM_readStatement_81, iM_readStatement_85, iM_readStatement_101, iM_readStatement_119, iM_readStatement_128, vM_readStatement, wps, x_cnd, reduceIte, Nat.reduceAdd, Nat.reduceSub, Nat.reduceEqDiff, Nat.reduceLeDiff, Nat.lt_irrefl, Nat.reduceLT, Int.cast_ofNat_Int, wq_c0, wq_c1, true_and, and_true, and_self, true_implies, forall_const, ne_eq, Decidable.not_not, not_true_eq_false, not_false_eq_true, List.map_nil, List.map_cons, List.sum_nil, List.sum_cons, List.length_cons, List.length_nil, Nat.le_refl, Nat.zero_le, reduceCtorEq, true_or, or_true, false_or, or_false, false_and, and_false, false_implies, Nat.zero_add, Nat.add_zero, Int.reduceEq, Int.reduceNe, Int.reduceLT, Int.reduceLE, Int.reduceNeg, Int.reduceToNat, Nat.not_lt_zero, Int.reduceAdd, fxs F]
      exact ⟨hv, q⟩
    · rw [if_neg c0, if_neg c1, if_neg c2, if_pos c3] at k
      refine cM_readBit F A1 (w := 5) (c := 6) (Or.inr ⟨rfl, rfl⟩) (mO_m k (fun v M' hv q => ?_))
      simp only [wq_g3, wq_gc, wq_g, wq_g1, wq_g2, eM_readStatement, iM_readStatement_0, iM_readStatement_9, iM_readStatement_25, iM_readStatement_41, iM_readStatement_63, iM_readStatement_79, iM_readStatement_81, iM_readStatement_85, iM_readStatement_101, iM_readStatement_119, iM_readStatement_128, vM_readStatement, wps, x_cnd, reduceIte, Nat.reduceAdd, Nat.reduceSub, Nat.reduceEqDiff, Nat.reduceLeDiff, Nat.lt_irrefl, Nat.reduceLT, Int.cast_ofNat_Int, wq_c0, wq_c1, true_and, and_true, and_self, true_implies, forall_const, ne_eq, Decidable.not_not, not_true_eq_false, not_false_eq_true, List.map_nil, List.map_cons, List.sum_nil, List.sum_cons, List.length_cons, List.length_nil, Nat.le_refl, Nat.zero_le, reduceCtorEq, true_or, or_true, false_or, or_false, false_and, and_false, false_implies, Nat.zero_add, Nat.add_zero, Int.reduceEq, Int.reduceNe, Int.reduceLT, Int.reduceLE, Int.reduceNeg, Int.reduceToNat, Nat.not_lt_zero, Int.reduceAdd, fxs F]
      exact ⟨hv, q⟩
    · rw [if_neg c0, if_pos c1] at k
      refine cM_readMark F A1 e12 (mO_m k (fun v M' hv q => ?_))
      simp only [wq_g3, wq_gc, wq_g, wq_g1, wq_g2, eM_readStatement, iM_readStatement_0, iM_readStatement_9, iM_readStatement_25, iM_readStatement_41, iM_readStatement_63, iM_readStatement_79, iM_readStatement_81, iM_readStatement_85, iM_readStatement_101, iM_readStatement_119, iM_readStatement_128, vM_readStatement, wps, x_cnd, reduceIte, Nat.reduceAdd, Nat.reduceSub, Nat.reduceEqDiff, Nat.reduceLeDiff, Nat.lt_irrefl, Nat.reduceLT, Int.cast_ofNat_Int, wq_c0, wq_c1, true_and, and_true, and_self, true_implies, forall_const, ne_eq, Decidable.not_not, not_true_eq_false, not_false_eq_true, List.map_nil, List.map_cons, List.sum_nil, List.sum_cons, List.length_cons, List.length_nil, Nat.le_refl, Nat.zero_le, reduceCtorEq, true_or, or_true, false_or, or_false, false_and, and_false, false_implies, Nat.zero_add, Nat.add_zero, Int.reduceEq, Int.reduceNe, Int.reduceLT, Int.reduceLE, Int.reduceNeg, Int.reduceToNat, Nat.not_lt_zero, Int.reduceAdd, fxs F]
      exact ⟨hv, q⟩
    · rw [if_pos c0] at k
      refine cM_readBars F A1 (mO_m k (fun v M' hv q => ?_))
      simp only [wq_g3, wq_gc, wq_g, wq_g1, wq_g2, eM_readStatement, iM_readStatement_0, iM_readStatement_9, iM_readStatement_25, iM_readStatement_41, iM_readStatement_63, iM_readStatement_79, iM_readStatement_81, iM_readStatement_85, iM_readStatement_101, iM_readStatement_119, iM_readStatement_128, vM_readStatement, wps, x_cnd, reduceIte, Nat.reduceAdd, Nat.reduceSub, Nat.reduceEqDiff, Nat.reduceLeDiff, Nat.lt_irrefl, Nat.reduceLT, Int.cast_ofNat_Int, wq_c0, wq_c1, true_and, and_true, and_self, true_implies, forall_const, ne_eq, Decidable.not_not, not_true_eq_false, not_false_eq_true, List.map_nil, List.map_cons, List.sum_nil, List.sum_cons, List.length_cons, List.length_nil, Nat.le_refl, Nat.zero_le, reduceCtorEq, true_or, or_true, false_or, or_false, false_and, and_false, false_implies, Nat.zero_add, Nat.add_zero, Int.reduceEq, Int.reduceNe, Int.reduceLT, Int.reduceLE, Int.reduceNeg, Int.reduceToNat, Nat.not_lt_zero, Int.reduceAdd, fxs F]
      exact ⟨hv, q⟩
theorem kin_0 (h : x ≤ n) : kin B n x l = 0 ↔ n ≤ ts B n x := by
  unfold kin
  by_cases h1 : n ≤ ts B n x
  · rw [if_pos h1]
    exact ⟨fun _ => h1, fun _ => rfl⟩
  · rw [if_neg h1]
    refine ⟨fun q => ?_, fun q => absurd q h1⟩
    repeat' split at q
    all_goals omega
theorem pSco_0' {k : Nat} (h : kin B n (rX R) (rL R) = 0) : pSco B n k R = .inr R := pSco_0 (Or.inr h)
theorem cM_readScore (F : Fx h) (A : RS B n M0 (rX R) (rL R) R M) {g : Nat} (hg : n + 1 ≤ g + rX R) (k : mS B n M0 h Φ (pSco B n g R)) : x_Cal zM_readScore [xA 41] M h Φ := by
  refine x_metI kM_readScore (Nat.le_of_ble_eq_true rfl) (fun t m ls st M' h' c n2 => t = 0 ∧ st = [] ∧ h' = h ∧ c = 0 ∧ n2 = 0 ∧ ls 0 = some (xA 41) ∧ ∃ (g : Nat) (R : xRd), RS B n M0 (rX R) (rL R) R M' ∧ n + 1 ≤ g + rX R ∧ m = n - rX R ∧ mS B n M0 h Φ (pSco B n g R)) 20 ?_ ?_
  · simp only [wq_g3, wq_gc, wq_g, wq_g1, wq_g2, eM_readScore, iM_readScore_0, iM_readScore_22, iM_readScore_24, vM_readScore, wps, x_cnd, reduceIte, Nat.reduceAdd, Nat.reduceSub, Nat.reduceEqDiff, Nat.reduceLeDiff, Nat.lt_irrefl, Nat.reduceLT, Int.cast_ofNat_Int, wq_c0, wq_c1, true_and, and_true, and_self, true_implies, forall_const, ne_eq, Decidable.not_not, not_true_eq_false, not_false_eq_true, List.map_nil, List.map_cons, List.sum_nil, List.sum_cons, List.length_cons, List.length_nil, Nat.le_refl, Nat.zero_le, reduceCtorEq, true_or, or_true, false_or, or_false, false_and, and_false, false_implies, Nat.zero_add, Nat.add_zero, Int.reduceEq, Int.reduceNe, Int.reduceLT, Int.reduceLE, Int.reduceNeg, Int.reduceToNat, Nat.not_lt_zero, Int.reduceAdd, fxs F]
    exact ⟨n - rX R, g, R, A, hg, rfl, k⟩
  · rintro t m ls st M1 h' c n2 ⟨rfl, rfl, rfl, rfl, rfl, l0, g, R, A1, hg, hm, k1⟩
    have hx := A1.T.le
    simp only [wq_g3, wq_gc, wq_g, wq_g1, wq_g2, eM_readScore, iM_readScore_0, iM_readScore_22, iM_readScore_24, vM_readScore, wps, x_cnd, reduceIte, Nat.reduceAdd, Nat.reduceSub, Nat.reduceEqDiff, Nat.reduceLeDiff, Nat.lt_irrefl, Nat.reduceLT, Int.cast_ofNat_Int, wq_c0, wq_c1, true_and, and_true, and_self, true_implies, forall_const, ne_eq, Decidable.not_not, not_true_eq_false, not_false_eq_true, List.map_nil, List.map_cons, List.sum_nil, List.sum_cons, List.length_cons, List.length_nil, Nat.le_refl, Nat.zero_le, reduceCtorEq, true_or, or_true, false_or, or_false, false_and, and_false, false_implies, Nat.zero_add, Nat.add_zero, Int.reduceEq, Int.reduceNe, Int.reduceLT, Int.reduceLE, Int.reduceNeg, Int.reduceToNat, Nat.not_lt_zero, Int.reduceAdd, fxs F, l0]
    refine cM_peek F A1.T (fun M2 R2 e12 e9 f2 => ?_)
    have A2 := A1.fr R2 f2
    have ht := R2.t
    simp only [wq_g3, wq_gc, wq_g, wq_g1, wq_g2, eM_readScore, iM_readScore_0, iM_readScore_22, iM_readScore_24, vM_readScore, wps, x_cnd, reduceIte, Nat.reduceAdd, Nat.reduceSub, Nat.reduceEqDiff, Nat.reduceLeDiff, Nat.lt_irrefl, Nat.reduceLT, Int.cast_ofNat_Int, wq_c0, wq_c1, true_and, and_true, and_self, true_implies, forall_const, ne_eq, Decidable.not_not, not_true_eq_false, not_false_eq_true, List.map_nil, List.map_cons, List.sum_nil, List.sum_cons, List.length_cons, List.length_nil, Nat.le_refl, Nat.zero_le, reduceCtorEq, true_or, or_true, false_or, or_false, false_and, and_false, false_implies, Nat.zero_add, Nat.add_zero, Int.reduceEq, Int.reduceNe, Int.reduceLT, Int.reduceLE, Int.reduceNeg, Int.reduceToNat, Nat.not_lt_zero, Int.reduceAdd, fxs F, l0]
    have hb : bAt B n (ts B n (rX R)) = -1 ↔ kin B n (rX R) (rL R) = 0 := by
      rw [kin_0 hx]
      unfold bAt
      by_cases h1 : ts B n (rX R) < n
      · rw [if_pos h1]
        have := R2.1.2.2 (ts B n (rX R)) h1
        omega
      · rw [if_neg h1]
        omega
    rw [hb]
    refine ⟨fun c0 => ?_, fun c0 => ?_⟩
    · rw [pSco_0' c0] at k1
      exact k1 M2 A2
    · have hlt : ¬ n ≤ ts B n (rX R) := fun q => c0 ((kin_0 hx).mpr q)
      obtain ⟨g', rfl⟩ : ∃ g', g = g' + 1 := ⟨g - 1, by omega⟩
      refine cM_readStatement F A2 ?_
      cases hs : pStm B n R with
      | inl e =>
        have hs2 : pSem B n (pStm B n R) = .inl e := by rw [hs]; rfl
        rw [pSco_e c0 hs2] at k1
        intro M3 fe
        simp only [wq_g3, wq_gc, wq_g, wq_g1, wq_g2, eM_readScore, iM_readScore_0, iM_readScore_22, iM_readScore_24, vM_readScore, wps, x_cnd, reduceIte, Nat.reduceAdd, Nat.reduceSub, Nat.reduceEqDiff, Nat.reduceLeDiff, Nat.lt_irrefl, Nat.reduceLT, Int.cast_ofNat_Int, wq_c0, wq_c1, true_and, and_true, and_self, true_implies, forall_const, ne_eq, Decidable.not_not, not_true_eq_false, not_false_eq_true, List.map_nil, List.map_cons, List.sum_nil, List.sum_cons, List.length_cons, List.length_nil, Nat.le_refl, Nat.zero_le, reduceCtorEq, true_or, or_true, false_or, or_false, false_and, and_false, false_implies, Nat.zero_add, Nat.add_zero, Int.reduceEq, Int.reduceNe, Int.reduceLT, Int.reduceLE, Int.reduceNeg, Int.reduceToNat, Nat.not_lt_zero, Int.reduceAdd, fxs F, l0]
        exact k1 M3 fe
      | inr R1 =>
        have hx1 := pStm_x hx hs
        have he : kin B n (rX R1) (rL R1) ≠ 3 → ∀ M', FE M0 1 (ts B n (rX R1)) M' → Φ (.inl (some (xI 0))) M' h' := fun hk M' fe => by
          have hs2 : pSem B n (pStm B n R) = .inl (1, ts B n (rX R1)) := by rw [hs, pSem_r, if_neg hk]
          rw [pSco_e c0 hs2] at k1
          exact k1 M' fe
        refine ⟨fun M3 A3 => ?_, fun hk M3 fe => ?_⟩
        · simp only [wq_g3, wq_gc, wq_g, wq_g1, wq_g2, eM_readScore, iM_readScore_0, iM_readScore_22, iM_readScore_24, vM_readScore, wps, x_cnd, reduceIte, Nat.reduceAdd, Nat.reduceSub, Nat.reduceEqDiff, Nat.reduceLeDiff, Nat.lt_irrefl, Nat.reduceLT, Int.cast_ofNat_Int, wq_c0, wq_c1, true_and, and_true, and_self, true_implies, forall_const, ne_eq, Decidable.not_not, not_true_eq_false, not_false_eq_true, List.map_nil, List.map_cons, List.sum_nil, List.sum_cons, List.length_cons, List.length_nil, Nat.le_refl, Nat.zero_le, reduceCtorEq, true_or, or_true, false_or, or_false, false_and, and_false, false_implies, Nat.zero_add, Nat.add_zero, Int.reduceEq, Int.reduceNe, Int.reduceLT, Int.reduceLE, Int.reduceNeg, Int.reduceToNat, Nat.not_lt_zero, Int.reduceAdd, fxs F, l0]
          refine cM_readSemicolon F A3.T A3.g (fun hk M' fe => ?_) (fun M4 hk T4 f4 => ?_)
          · simp only [wq_g3, wq_gc, wq_g, wq_g1, wq_g2, eM_readScore, iM_readScore_0, iM_readScore_22, iM_readScore_24, vM_readScore, wps, x_cnd, reduceIte, Nat.reduceAdd, Nat.reduceSub, Nat.reduceEqDiff, Nat.reduceLeDiff, Nat.lt_irrefl, Nat.reduceLT, Int.cast_ofNat_Int, wq_c0, wq_c1, true_and, and_true, and_self, true_implies, forall_const, ne_eq, Decidable.not_not, not_true_eq_false, not_false_eq_true, List.map_nil, List.map_cons, List.sum_nil, List.sum_cons, List.length_cons, List.length_nil, Nat.le_refl, Nat.zero_le, reduceCtorEq, true_or, or_true, false_or, or_false, false_and, and_false, false_implies, Nat.zero_add, Nat.add_zero, Int.reduceEq, Int.reduceNe, Int.reduceLT, Int.reduceLE, Int.reduceNeg, Int.reduceToNat, Nat.not_lt_zero, Int.reduceAdd, fxs F, l0]
            exact he hk M' fe
          · simp only [wq_g3, wq_gc, wq_g, wq_g1, wq_g2, eM_readScore, iM_readScore_0, iM_readScore_22, iM_readScore_24, vM_readScore, wps, x_cnd, reduceIte, Nat.reduceAdd, Nat.reduceSub, Nat.reduceEqDiff, Nat.reduceLeDiff, Nat.lt_irrefl, Nat.reduceLT, Int.cast_ofNat_Int, wq_c0, wq_c1, true_and, and_true, and_self, true_implies, forall_const, ne_eq, Decidable.not_not, not_true_eq_false, not_false_eq_true, List.map_nil, List.map_cons, List.sum_nil, List.sum_cons, List.length_cons, List.length_nil, Nat.le_refl, Nat.zero_le, reduceCtorEq, true_or, or_true, false_or, or_false, false_and, and_false, false_implies, Nat.zero_add, Nat.add_zero, Int.reduceEq, Int.reduceNe, Int.reduceLT, Int.reduceLE, Int.reduceNeg, Int.reduceToNat, Nat.not_lt_zero, Int.reduceAdd, fxs F, l0]
            have hs2 : pSem B n (pStm B n R) = .inr (ten B n (rX R1), false, rS R1, rM R1, rC R1, rN R1) := by rw [hs, pSem_r, if_pos hk]
            rw [pSco_s c0 hs2] at k1
            have hlt2 := ten_lt (l := rL R1) A3.T.le (show kin B n (rX R1) (rL R1) ≠ 0 by omega)
            have hle : ten B n (rX R1) ≤ n := T4.le
            have A4 : RS B n M0 (ten B n (rX R1)) false (ten B n (rX R1), false, rS R1, rM R1, rC R1, rN R1) M4 := A3.fr T4 f4
            exact ⟨n - ten B n (rX R1), by omega, g', (ten B n (rX R1), false, rS R1, rM R1, rC R1, rN R1), A4, by show n + 1 ≤ g' + ten B n (rX R1); omega, rfl, k1⟩
        · simp only [wq_g3, wq_gc, wq_g, wq_g1, wq_g2, eM_readScore, iM_readScore_0, iM_readScore_22, iM_readScore_24, vM_readScore, wps, x_cnd, reduceIte, Nat.reduceAdd, Nat.reduceSub, Nat.reduceEqDiff, Nat.reduceLeDiff, Nat.lt_irrefl, Nat.reduceLT, Int.cast_ofNat_Int, wq_c0, wq_c1, true_and, and_true, and_self, true_implies, forall_const, ne_eq, Decidable.not_not, not_true_eq_false, not_false_eq_true, List.map_nil, List.map_cons, List.sum_nil, List.sum_cons, List.length_cons, List.length_nil, Nat.le_refl, Nat.zero_le, reduceCtorEq, true_or, or_true, false_or, or_false, false_and, and_false, false_implies, Nat.zero_add, Nat.add_zero, Int.reduceEq, Int.reduceNe, Int.reduceLT, Int.reduceLE, Int.reduceNeg, Int.reduceToNat, Nat.not_lt_zero, Int.reduceAdd, fxs F, l0]
          exact he hk M3 fe
end MSCO
