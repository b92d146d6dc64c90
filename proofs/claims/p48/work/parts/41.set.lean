/-! setBar, setContent, undo, renumber, reletter -/
def barS (S : xSr) (w p v : Int) : xSr := (sN S, sP S, sI S, if w = 2 then up p v (sB S) else sB S, sX S, if w = 4 then up p v (sT S) else sT S, if w = 5 then up p v (sD S) else sD S, sC S, sM S, sF S, sL S, sQ S, sR S)
def contS (S : xSr) (part p v : Int) : xSr := (sN S, sP S, sI S, sB S, sX S, sT S, sD S, (fun k => if k = part then up p v (sC S k) else sC S k), sM S, sF S, sL S, sQ S, sR S)
abbrev okSet (w v : Int) : Prop := (w = 2 ∧ 1 ≤ v ∧ v ≤ 12) ∨ ((w = 4 ∨ w = 5) ∧ (v = 0 ∨ v = 1))
def dSet (A : xAb) (b w v : Int) : xAn × xAb :=
  if pl (aS A) b = -1 then (.inr 2, A)
  else if ¬ okSet w v then (.inr 1, A)
  else (.inl (if w = 2 then sB (aS A) (pl (aS A) b) else if w = 4 then sT (aS A) (pl (aS A) b) else sD (aS A) (pl (aS A) b)), aKeep A (barS (aS A) w (pl (aS A) b) v) (aI A))
def dCon (A : xAb) (part b v : Int) : xAn × xAb :=
  if ¬ (0 ≤ part ∧ part < sP (aS A)) then (.inr 2, A)
  else if pl (aS A) b = -1 then (.inr 2, A)
  else if ¬ (0 ≤ v ∧ v ≤ 2) then (.inr 1, A)
  else (.inl (sC (aS A) part (pl (aS A) b)), aKeep A (contS (aS A) part (pl (aS A) b) v) (aI A))
def dUndo (A : xAb) : xAn × xAb :=
  if aH A = 0 then (.inr 0, A) else (.inl ((aH A - 1 : Nat) : Int), (aG A 0, aI A, aH A - 1, (fun j => aG A (j + 1)), aN A, aB A, aE A, aP A, aO A))
section SET
variable {A : xAb} {M : xM} {h : xH} {Φ : xO → xM → xH → Prop} {S : xSr} {nid : Int}
set_option maxHeartbeats 1000000
theorem repC.barS {p : Nat} {v : Int} (R : repC S M h 17) {w : Int} {a : Nat} (ha : (w = 2 ∧ a = 19) ∨ (w = 4 ∧ a = 21) ∨ (w = 5 ∧ a = 22)) : repC (barS S w p v) (x_w M a p v) h 17 := by
  obtain ⟨a1, b1, c1, d1, e1, f1⟩ := R
  refine ⟨a1, ⟨?_, ?_, ?_⟩, fun q hq => ?_, fun l h1 h2 => ?_, fun k h1 => ?_, fun part h6 => ?_⟩
  · rw [w_ne (by omega)]
    exact b1.1
  · rw [w_ne (by omega)]
    exact b1.2.1
  · rw [w_ne (by omega)]
    exact b1.2.2
  · obtain ⟨g1, g2, g3, g4, g5, g6⟩ := c1 q hq
    show x_w M a p v 18 q = sI S q ∧ x_w M a p v 19 q = (if w = 2 then up p v (sB S) else sB S) q ∧ x_w M a p v 20 q = sX S q ∧ x_w M a p v 21 q = (if w = 4 then up p v (sT S) else sT S) q ∧ x_w M a p v 22 q = (if w = 5 then up p v (sD S) else sD S) q ∧ _
    have hup : ∀ (b : Nat) (g : Int → Int), M b q = g q → x_w M b p v b q = up p v g q := fun b g hg => by
      by_cases hqp : q = p
      · subst hqp
        rw [w_eq, up_1]
      · rw [w_nj (by omega), up_2 (by omega), hg]
    rcases ha with ⟨rfl, rfl⟩ | ⟨rfl, rfl⟩ | ⟨rfl, rfl⟩
    · exact ⟨by rw [w_ne (by omega)]; exact g1, hup 19 _ g2, by rw [w_ne (by omega)]; exact g3, by rw [w_ne (by omega)]; exact g4, by rw [w_ne (by omega)]; exact g5, fun part h6 => by rw [w_ne (by omega)]; exact g6 part h6⟩
    · exact ⟨by rw [w_ne (by omega)]; exact g1, by rw [w_ne (by omega)]; exact g2, by rw [w_ne (by omega)]; exact g3, hup 21 _ g4, by rw [w_ne (by omega)]; exact g5, fun part h6 => by rw [w_ne (by omega)]; exact g6 part h6⟩
    · exact ⟨by rw [w_ne (by omega)]; exact g1, by rw [w_ne (by omega)]; exact g2, by rw [w_ne (by omega)]; exact g3, by rw [w_ne (by omega)]; exact g4, hup 22 _ g5, fun part h6 => by rw [w_ne (by omega)]; exact g6 part h6⟩
  · rw [w_ne (by omega)]
    exact d1 l h1 h2
  · rw [w_ne (by omega), w_ne (by omega)]
    exact e1 k h1
  · rcases f1 part h6 with z | ⟨z1, z2⟩
    · exact Or.inl z
    · exact Or.inr ⟨z1, z2.frame (fun a j ha => by rw [w_ne (by omega)])⟩
theorem wfS.barS {w p v : Int} (W : wfS S nid) (ok : okSet w v) : wfS (barS S w p v) nid := by
  refine ⟨W.1, fun q hq => ?_, W.2.2.1, W.2.2.2.1, W.2.2.2.2.1, W.m20, W.2.2.2.2.2.2.1, W.2.2.2.2.2.2.2.1, W.2.2.2.2.2.2.2.2.1, W.2.2.2.2.2.2.2.2.2⟩
  obtain ⟨g1, g2, g3, g4, g5, g6⟩ := W.2.1 q hq
  show _ ∧ (1 ≤ (if w = 2 then up p v (sB S) else sB S) q ∧ (if w = 2 then up p v (sB S) else sB S) q ≤ 12) ∧ _ ∧ ((if w = 4 then up p v (sT S) else sT S) q = 0 ∨ (if w = 4 then up p v (sT S) else sT S) q = 1) ∧ ((if w = 5 then up p v (sD S) else sD S) q = 0 ∨ (if w = 5 then up p v (sD S) else sD S) q = 1) ∧ _
  have hup : ∀ (g : Int → Int), up p v g q = v ∨ up p v g q = g q := fun g => by
    by_cases hqp : (q : Int) = p
    · subst hqp
      exact Or.inl up_1
    · exact Or.inr (up_2 hqp)
  refine ⟨g1, ?_, g3, ?_, ?_, g6⟩
  · split
    · unfold okSet at ok
      rcases hup (sB S) with e | e <;> rw [e] <;> omega
    · exact g2
  · split
    · unfold okSet at ok
      rcases hup (sT S) with e | e <;> rw [e] <;> omega
    · exact g4
  · split
    · unfold okSet at ok
      rcases hup (sD S) with e | e <;> rw [e] <;> omega
    · exact g5
theorem cP_setBar (C : CW A M h) {b w v : Int} (k : ∀ M' h', CW (dSet A b w v).2 M' h' → Fr M h M' h' → Φ (xo (dSet A b w v).1) M' h') : x_Cal zP_setBar [xA 1, xI b, xI w, xI v] M h Φ := by
  have hN := C.w.N
  unfold dSet at k
  refine x_met0 kP_setBar (Nat.le_of_ble_eq_true rfl) ?_
  simp only [wq_g3, wq_gc, wq_g, wq_g1, wq_g2, eP_setBar, iP_setBar_0, iP_setBar_27, iP_setBar_28, iP_setBar_40, iP_setBar_49, iP_setBar_53, iP_setBar_54, iP_setBar_74, iP_setBar_100, iP_setBar_115, iP_setBar_122, vP_setBar, wps, x_cnd, reduceIte, Nat.reduceAdd, Nat.reduceSub, Nat.reduceEqDiff, Nat.reduceLeDiff, Nat.lt_irrefl, Nat.reduceLT, Int.cast_ofNat_Int, wq_c0, wq_c1, true_and, and_true, and_self, true_implies, forall_const, ne_eq, Decidable.not_not, not_true_eq_false, not_false_eq_true, List.map_nil, List.map_cons, List.sum_nil, List.sum_cons, List.length_cons, List.length_nil, Nat.le_refl, Nat.zero_le, reduceCtorEq, true_or, or_true, false_or, or_false, false_and, and_false, false_implies, Nat.zero_add, Nat.add_zero, Int.reduceEq, Int.reduceNe, Int.reduceLT, Int.reduceLE, Int.reduceNeg, Int.reduceToNat, Nat.not_lt_zero, Int.reduceAdd, fxs C.F]
  refine cP_requirePlace C (fun c1 => ?_) (fun p p1 p2 p3 => ?_)
  · simp only [wq_g3, wq_gc, wq_g, wq_g1, wq_g2, eP_setBar, iP_setBar_0, iP_setBar_27, iP_setBar_28, iP_setBar_40, iP_setBar_49, iP_setBar_53, iP_setBar_54, iP_setBar_74, iP_setBar_100, iP_setBar_115, iP_setBar_122, vP_setBar, wps, x_cnd, reduceIte, Nat.reduceAdd, Nat.reduceSub, Nat.reduceEqDiff, Nat.reduceLeDiff, Nat.lt_irrefl, Nat.reduceLT, Int.cast_ofNat_Int, wq_c0, wq_c1, true_and, and_true, and_self, true_implies, forall_const, ne_eq, Decidable.not_not, not_true_eq_false, not_false_eq_true, List.map_nil, List.map_cons, List.sum_nil, List.sum_cons, List.length_cons, List.length_nil, Nat.le_refl, Nat.zero_le, reduceCtorEq, true_or, or_true, false_or, or_false, false_and, and_false, false_implies, Nat.zero_add, Nat.add_zero, Int.reduceEq, Int.reduceNe, Int.reduceLT, Int.reduceLE, Int.reduceNeg, Int.reduceToNat, Nat.not_lt_zero, Int.reduceAdd]
    rw [if_pos c1] at k
    exact k M h C ⟨fun _ _ _ _ => rfl, Nat.le_refl _⟩
  rw [if_neg (by omega), p2] at k
  have kbad : ¬ okSet w v → Φ (.inr 1) M h := fun hbad => by
    rw [if_pos hbad] at k
    exact k M h C ⟨fun _ _ _ _ => rfl, Nat.le_refl _⟩
  have tail : okSet w v → ∀ (ls : xL) (f : Nat), ls 0 = some (xA 1) → ls 2 = some (xI w) → ls 3 = some (xI v) → ls 4 = some (xI p) → ls 5 = some (xI (if w = 2 then 1 else 0)) → x_Cal zH_keep [xA 37, xA 17] M h (x_k x_Cal (12, 1736, 1, x_sc0) (wpG x_Cal (12, 1736, 1, x_sc0) bP_setBar (fun _ _ _ _ _ _ _ => False) Φ (f + 5)) Φ (iP_setBar_74.drop 5) ls [] 12 1736) := by
    intro ok ls f l0 l2 l3 l4 l5
    rw [if_neg (fun q => q ok)] at k
    refine chg_keep C (fun M1 h1 P1 R1 f1 f2 => ?_)
    simp only [iP_setBar_74, List.drop_succ_cons, List.drop_zero]
    have y1 : M1 19 p = sB (aS A) p := R1.bt p1
    have y2 : M1 21 p = sT (aS A) p := R1.t p1
    have y3 : M1 22 p = sD (aS A) p := R1.d p1
    have fin : ∀ a : Nat, (w = 2 ∧ a = 19) ∨ (w = 4 ∧ a = 21) ∨ (w = 5 ∧ a = 22) → ∀ Ψ : xO → xM → xH → Prop, (∀ M3, CW (aKeep A (barS (aS A) w p v) (aI A)) M3 h1 → Fr M h M3 h1 → Ψ (.inl none) M3 h1) → x_Cal zV_refresh [xA 16] (x_w M1 a p v) h1 Ψ := by
      intro a ha Ψ kk
      refine chg_ref (A := aKeep A (barS (aS A) w p v) (aI A)) (P1.frame (fun a j ha => ?_)) (R1.barS ha) (C.w.barS ok) (fun M3 C3 f3 => kk M3 C3 ⟨fun a j z1 z2 => ?_, f2⟩)
      · rw [w_ne (by omega)]
      · rw [f3 a j (by omega), w_ne (by omega), f1 a j z2 (by omega)]
    by_cases w2 : w = 2
    · subst w2
      rw [if_pos rfl] at l5
      simp only [wq_g3, wq_gc, wq_g, wq_g1, wq_g2, eP_setBar, iP_setBar_0, iP_setBar_27, iP_setBar_28, iP_setBar_40, iP_setBar_49, iP_setBar_53, iP_setBar_54, iP_setBar_74, iP_setBar_100, iP_setBar_115, iP_setBar_122, vP_setBar, wps, x_cnd, reduceIte, Nat.reduceAdd, Nat.reduceSub, Nat.reduceEqDiff, Nat.reduceLeDiff, Nat.lt_irrefl, Nat.reduceLT, Int.cast_ofNat_Int, wq_c0, wq_c1, true_and, and_true, and_self, true_implies, forall_const, ne_eq, Decidable.not_not, not_true_eq_false, not_false_eq_true, List.map_nil, List.map_cons, List.sum_nil, List.sum_cons, List.length_cons, List.length_nil, Nat.le_refl, Nat.zero_le, reduceCtorEq, true_or, or_true, false_or, or_false, false_and, and_false, false_implies, Nat.zero_add, Nat.add_zero, Int.reduceEq, Int.reduceNe, Int.reduceLT, Int.reduceLE, Int.reduceNeg, Int.reduceToNat, Nat.not_lt_zero, Int.reduceAdd, fxs P1.F, l0, l2, l3, l4, l5, y1]
      refine ⟨by omega, by omega, fin 19 (Or.inl ⟨rfl, rfl⟩) _ (fun M3 C3 f3 => ?_)⟩
      simp only [wq_g3, wq_gc, wq_g, wq_g1, wq_g2, eP_setBar, iP_setBar_0, iP_setBar_27, iP_setBar_28, iP_setBar_40, iP_setBar_49, iP_setBar_53, iP_setBar_54, iP_setBar_74, iP_setBar_100, iP_setBar_115, iP_setBar_122, vP_setBar, wps, x_cnd, reduceIte, Nat.reduceAdd, Nat.reduceSub, Nat.reduceEqDiff, Nat.reduceLeDiff, Nat.lt_irrefl, Nat.reduceLT, Int.cast_ofNat_Int, wq_c0, wq_c1, true_and, and_true, and_self, true_implies, forall_const, ne_eq, Decidable.not_not, not_true_eq_false, not_false_eq_true, List.map_nil, List.map_cons, List.sum_nil, List.sum_cons, List.length_cons, List.length_nil, Nat.le_refl, Nat.zero_le, reduceCtorEq, true_or, or_true, false_or, or_false, false_and, and_false, false_implies, Nat.zero_add, Nat.add_zero, Int.reduceEq, Int.reduceNe, Int.reduceLT, Int.reduceLE, Int.reduceNeg, Int.reduceToNat, Nat.not_lt_zero, Int.reduceAdd, l0, l2, l3, l4, l5]
      exact k M3 h1 C3 f3
    · rw [if_neg w2] at l5 k
      by_cases w4 : w = 4
      · subst w4
        simp only [wq_g3, wq_gc, wq_g, wq_g1, wq_g2, eP_setBar, iP_setBar_0, iP_setBar_27, iP_setBar_28, iP_setBar_40, iP_setBar_49, iP_setBar_53, iP_setBar_54, iP_setBar_74, iP_setBar_100, iP_setBar_115, iP_setBar_122, vP_setBar, wps, x_cnd, reduceIte, Nat.reduceAdd, Nat.reduceSub, Nat.reduceEqDiff, Nat.reduceLeDiff, Nat.lt_irrefl, Nat.reduceLT, Int.cast_ofNat_Int, wq_c0, wq_c1, true_and, and_true, and_self, true_implies, forall_const, ne_eq, Decidable.not_not, not_true_eq_false, not_false_eq_true, List.map_nil, List.map_cons, List.sum_nil, List.sum_cons, List.length_cons, List.length_nil, Nat.le_refl, Nat.zero_le, reduceCtorEq, true_or, or_true, false_or, or_false, false_and, and_false, false_implies, Nat.zero_add, Nat.add_zero, Int.reduceEq, Int.reduceNe, Int.reduceLT, Int.reduceLE, Int.reduceNeg, Int.reduceToNat, Nat.not_lt_zero, Int.reduceAdd, fxs P1.F, l0, l2, l3, l4, l5, y2]
        refine ⟨by omega, by omega, fin 21 (Or.inr (Or.inl ⟨rfl, rfl⟩)) _ (fun M3 C3 f3 => ?_)⟩
        simp only [wq_g3, wq_gc, wq_g, wq_g1, wq_g2, eP_setBar, iP_setBar_0, iP_setBar_27, iP_setBar_28, iP_setBar_40, iP_setBar_49, iP_setBar_53, iP_setBar_54, iP_setBar_74, iP_setBar_100, iP_setBar_115, iP_setBar_122, vP_setBar, wps, x_cnd, reduceIte, Nat.reduceAdd, Nat.reduceSub, Nat.reduceEqDiff, Nat.reduceLeDiff, Nat.lt_irrefl, Nat.reduceLT, Int.cast_ofNat_Int, wq_c0, wq_c1, true_and, and_true, and_self, true_implies, forall_const, ne_eq, Decidable.not_not, not_true_eq_false, not_false_eq_true, List.map_nil, List.map_cons, List.sum_nil, List.sum_cons, List.length_cons, List.length_nil, Nat.le_refl, Nat.zero_le, reduceCtorEq, true_or, or_true, false_or, or_false, false_and, and_false, false_implies, Nat.zero_add, Nat.add_zero, Int.reduceEq, Int.reduceNe, Int.reduceLT, Int.reduceLE, Int.reduceNeg, Int.reduceToNat, Nat.not_lt_zero, Int.reduceAdd, l0, l2, l3, l4, l5]
        exact k M3 h1 C3 f3
      · have w5 : w = 5 := by unfold okSet at ok; omega
        subst w5
        simp only [wq_g3, wq_gc, wq_g, wq_g1, wq_g2, eP_setBar, iP_setBar_0, iP_setBar_27, iP_setBar_28, iP_setBar_40, iP_setBar_49, iP_setBar_53, iP_setBar_54, iP_setBar_74, iP_setBar_100, iP_setBar_115, iP_setBar_122, vP_setBar, wps, x_cnd, reduceIte, Nat.reduceAdd, Nat.reduceSub, Nat.reduceEqDiff, Nat.reduceLeDiff, Nat.lt_irrefl, Nat.reduceLT, Int.cast_ofNat_Int, wq_c0, wq_c1, true_and, and_true, and_self, true_implies, forall_const, ne_eq, Decidable.not_not, not_true_eq_false, not_false_eq_true, List.map_nil, List.map_cons, List.sum_nil, List.sum_cons, List.length_cons, List.length_nil, Nat.le_refl, Nat.zero_le, reduceCtorEq, true_or, or_true, false_or, or_false, false_and, and_false, false_implies, Nat.zero_add, Nat.add_zero, Int.reduceEq, Int.reduceNe, Int.reduceLT, Int.reduceLE, Int.reduceNeg, Int.reduceToNat, Nat.not_lt_zero, Int.reduceAdd, fxs P1.F, l0, l2, l3, l4, l5, y3]
        refine ⟨by omega, by omega, fin 22 (Or.inr (Or.inr ⟨rfl, rfl⟩)) _ (fun M3 C3 f3 => ?_)⟩
        simp only [wq_g3, wq_gc, wq_g, wq_g1, wq_g2, eP_setBar, iP_setBar_0, iP_setBar_27, iP_setBar_28, iP_setBar_40, iP_setBar_49, iP_setBar_53, iP_setBar_54, iP_setBar_74, iP_setBar_100, iP_setBar_115, iP_setBar_122, vP_setBar, wps, x_cnd, reduceIte, Nat.reduceAdd, Nat.reduceSub, Nat.reduceEqDiff, Nat.reduceLeDiff, Nat.lt_irrefl, Nat.reduceLT, Int.cast_ofNat_Int, wq_c0, wq_c1, true_and, and_true, and_self, true_implies, forall_const, ne_eq, Decidable.not_not, not_true_eq_false, not_false_eq_true, List.map_nil, List.map_cons, List.sum_nil, List.sum_cons, List.length_cons, List.length_nil, Nat.le_refl, Nat.zero_le, reduceCtorEq, true_or, or_true, false_or, or_false, false_and, and_false, false_implies, Nat.zero_add, Nat.add_zero, Int.reduceEq, Int.reduceNe, Int.reduceLT, Int.reduceLE, Int.reduceNeg, Int.reduceToNat, Nat.not_lt_zero, Int.reduceAdd, l0, l2, l3, l4, l5]
        exact k M3 h1 C3 f3
  by_cases w2 : w = 2
  · subst w2
    simp only [wq_g3, wq_gc, wq_g, wq_g1, wq_g2, eP_setBar, iP_setBar_0, iP_setBar_27, iP_setBar_28, iP_setBar_40, iP_setBar_49, iP_setBar_53, iP_setBar_54, iP_setBar_74, iP_setBar_100, iP_setBar_115, iP_setBar_122, vP_setBar, wps, x_cnd, reduceIte, Nat.reduceAdd, Nat.reduceSub, Nat.reduceEqDiff, Nat.reduceLeDiff, Nat.lt_irrefl, Nat.reduceLT, Int.cast_ofNat_Int, wq_c0, wq_c1, true_and, and_true, and_self, true_implies, forall_const, ne_eq, Decidable.not_not, not_true_eq_false, not_false_eq_true, List.map_nil, List.map_cons, List.sum_nil, List.sum_cons, List.length_cons, List.length_nil, Nat.le_refl, Nat.zero_le, reduceCtorEq, true_or, or_true, false_or, or_false, false_and, and_false, false_implies, Nat.zero_add, Nat.add_zero, Int.reduceEq, Int.reduceNe, Int.reduceLT, Int.reduceLE, Int.reduceNeg, Int.reduceToNat, Nat.not_lt_zero, Int.reduceAdd, fxs C.F]
    exact ⟨fun c0 => kbad (by unfold okSet; omega), fun c0 => ⟨fun c1 => kbad (by unfold okSet; omega), fun c1 => tail (by unfold okSet; omega) _ 10 rfl rfl rfl rfl rfl⟩⟩
  · by_cases w4 : w = 4
    · subst w4
      simp only [wq_g3, wq_gc, wq_g, wq_g1, wq_g2, eP_setBar, iP_setBar_0, iP_setBar_27, iP_setBar_28, iP_setBar_40, iP_setBar_49, iP_setBar_53, iP_setBar_54, iP_setBar_74, iP_setBar_100, iP_setBar_115, iP_setBar_122, vP_setBar, wps, x_cnd, reduceIte, Nat.reduceAdd, Nat.reduceSub, Nat.reduceEqDiff, Nat.reduceLeDiff, Nat.lt_irrefl, Nat.reduceLT, Int.cast_ofNat_Int, wq_c0, wq_c1, true_and, and_true, and_self, true_implies, forall_const, ne_eq, Decidable.not_not, not_true_eq_false, not_false_eq_true, List.map_nil, List.map_cons, List.sum_nil, List.sum_cons, List.length_cons, List.length_nil, Nat.le_refl, Nat.zero_le, reduceCtorEq, true_or, or_true, false_or, or_false, false_and, and_false, false_implies, Nat.zero_add, Nat.add_zero, Int.reduceEq, Int.reduceNe, Int.reduceLT, Int.reduceLE, Int.reduceNeg, Int.reduceToNat, Nat.not_lt_zero, Int.reduceAdd, fxs C.F]
      exact ⟨fun c0 => tail (by unfold okSet; omega) _ 8 rfl rfl rfl rfl rfl, fun c0 => ⟨fun c1 => kbad (by unfold okSet; omega), fun c1 => tail (by unfold okSet; omega) _ 8 rfl rfl rfl rfl rfl⟩⟩
    · by_cases w5 : w = 5
      · subst w5
        simp only [wq_g3, wq_gc, wq_g, wq_g1, wq_g2, eP_setBar, iP_setBar_0, iP_setBar_27, iP_setBar_28, iP_setBar_40, iP_setBar_49, iP_setBar_53, iP_setBar_54, iP_setBar_74, iP_setBar_100, iP_setBar_115, iP_setBar_122, vP_setBar, wps, x_cnd, reduceIte, Nat.reduceAdd, Nat.reduceSub, Nat.reduceEqDiff, Nat.reduceLeDiff, Nat.lt_irrefl, Nat.reduceLT, Int.cast_ofNat_Int, wq_c0, wq_c1, true_and, and_true, and_self, true_implies, forall_const, ne_eq, Decidable.not_not, not_true_eq_false, not_false_eq_true, List.map_nil, List.map_cons, List.sum_nil, List.sum_cons, List.length_cons, List.length_nil, Nat.le_refl, Nat.zero_le, reduceCtorEq, true_or, or_true, false_or, or_false, false_and, and_false, false_implies, Nat.zero_add, Nat.add_zero, Int.reduceEq, Int.reduceNe, Int.reduceLT, Int.reduceLE, Int.reduceNeg, Int.reduceToNat, Nat.not_lt_zero, Int.reduceAdd, fxs C.F]
        exact ⟨fun c0 => tail (by unfold okSet; omega) _ 8 rfl rfl rfl rfl rfl, fun c0 => ⟨fun c1 => kbad (by unfold okSet; omega), fun c1 => tail (by unfold okSet; omega) _ 8 rfl rfl rfl rfl rfl⟩⟩
      · simp only [wq_g3, wq_gc, wq_g, wq_g1, wq_g2, eP_setBar, iP_setBar_0, iP_setBar_27, iP_setBar_28, iP_setBar_40, iP_setBar_49, iP_setBar_53, iP_setBar_54, iP_setBar_74, iP_setBar_100, iP_setBar_115, iP_setBar_122, vP_setBar, wps, x_cnd, reduceIte, Nat.reduceAdd, Nat.reduceSub, Nat.reduceEqDiff, Nat.reduceLeDiff, Nat.lt_irrefl, Nat.reduceLT, Int.cast_ofNat_Int, wq_c0, wq_c1, true_and, and_true, and_self, true_implies, forall_const, ne_eq, Decidable.not_not, not_true_eq_false, not_false_eq_true, List.map_nil, List.map_cons, List.sum_nil, List.sum_cons, List.length_cons, List.length_nil, Nat.le_refl, Nat.zero_le, reduceCtorEq, true_or, or_true, false_or, or_false, false_and, and_false, false_implies, Nat.zero_add, Nat.add_zero, Int.reduceEq, Int.reduceNe, Int.reduceLT, Int.reduceLE, Int.reduceNeg, Int.reduceToNat, Nat.not_lt_zero, Int.reduceAdd, fxs C.F, w2, w4, w5]
        exact kbad (by unfold okSet; omega)
theorem repC.contS {part p : Nat} {v : Int} (R : repC S M h 17) (h6 : part < 6) (hN : sN S ≤ 150) (hp : p < 150) : repC (contS S part p v) (x_w M 23 ((part : Int) * 150 + p) v) h 17 := by
  obtain ⟨a1, b1, c1, d1, e1, f1⟩ := R
  refine ⟨a1, ⟨?_, ?_, ?_⟩, fun q hq => ?_, fun l h1 h2 => ?_, fun k h1 => ?_, fun part h6 => ?_⟩
  · rw [w_ne (by omega)]
    exact b1.1
  · rw [w_ne (by omega)]
    exact b1.2.1
  · rw [w_ne (by omega)]
    exact b1.2.2
  · obtain ⟨g1, g2, g3, g4, g5, g6⟩ := c1 q hq
    replace hq : q < sN S := hq
    refine ⟨by rw [w_ne (by omega)]; exact g1, by rw [w_ne (by omega)]; exact g2, by rw [w_ne (by omega)]; exact g3, by rw [w_ne (by omega)]; exact g4, by rw [w_ne (by omega)]; exact g5, fun k h6 => ?_⟩
    show x_w M 23 ((part : Int) * 150 + p) v 23 ((k : Int) * 150 + q) = (if (k : Int) = part then up p v (sC S k) else sC S k) q
    by_cases hk : (k : Int) = part
    · rw [if_pos hk]
      by_cases hqp : q = p
      · rw [hk, hqp, w_eq, up_1]
      · rw [w_nj (by omega), up_2 (by omega)]
        exact g6 k h6
    · rw [if_neg hk, w_nj (by omega)]
      exact g6 k h6
  · rw [w_ne (by omega)]
    exact d1 l h1 h2
  · rw [w_ne (by omega), w_ne (by omega)]
    exact e1 k h1
  · rcases f1 part h6 with z | ⟨z1, z2⟩
    · exact Or.inl z
    · exact Or.inr ⟨z1, z2.frame (fun a j ha => by rw [w_ne (by omega)])⟩
theorem wfS.contS {part p v : Int} (W : wfS S nid) (ok : 0 ≤ v ∧ v ≤ 2) : wfS (contS S part p v) nid := by
  refine ⟨W.1, fun q hq => ?_, W.2.2.1, W.2.2.2.1, W.2.2.2.2.1, W.m20, W.2.2.2.2.2.2.1, W.2.2.2.2.2.2.2.1, W.2.2.2.2.2.2.2.2.1, W.2.2.2.2.2.2.2.2.2⟩
  obtain ⟨g1, g2, g3, g4, g5, g6⟩ := W.2.1 q hq
  refine ⟨g1, g2, g3, g4, g5, fun k h6 => ?_⟩
  show 0 ≤ (if (k : Int) = part then up p v (sC S k) else sC S k) q ∧ (if (k : Int) = part then up p v (sC S k) else sC S k) q ≤ 2
  split
  · by_cases hqp : (q : Int) = p
    · subst hqp
      rw [up_1]
      exact ok
    · rw [up_2 hqp]
      exact g6 k h6
  · exact g6 k h6
/-- a score without what the view does not look at -/
def vk (S : xSr) : xSr := (sN S, 0, sI S, sB S, sX S, sT S, sD S, (fun _ _ => 0), sM S, sF S, sL S, (fun _ => 0), (fun _ _ => 0))
theorem vk_sitk (p : Int) : ∀ n : Nat, sitk (vk S) p n = sitk S p n
  | 0 => rfl
  | n + 1 => by
    show (if sM S (n + 1 : Nat) ≠ -1 ∧ pl S (sM S (n + 1 : Nat)) = p then ((n + 1 : Nat) : Int) else sitk (vk S) p n) = if sM S (n + 1 : Nat) ≠ -1 ∧ pl S (sM S (n + 1 : Nat)) = p then ((n + 1 : Nat) : Int) else sitk S p n
    rw [vk_sitk p n]
theorem vk_sit (p : Int) : sit (vk S) p = sit S p := vk_sitk p 40
theorem vk_ltk (p : Int) : ∀ n : Nat, ltk (vk S) p n = ltk S p n
  | 0 => rfl
  | n + 1 => by
    show (if sit (vk S) n ≠ 0 ∧ sh S n = p then sit (vk S) n else ltk (vk S) p n) = if sit S n ≠ 0 ∧ sh S n = p then sit S n else ltk S p n
    rw [vk_ltk p n, vk_sit]
theorem vk_lt (p : Int) : lt (vk S) p = lt S p := vk_ltk p (sN S)
theorem vk_rsn (k : Int) : rsn (vk S) k = rsn S k := by
  unfold rsn
  by_cases h : k = 0
  · rw [if_pos h, if_pos h]
  · rw [if_neg h, if_neg h]
    show (if lt (vk S) (pp S k) ≠ 0 then 1 else _) = if lt S (pp S k) ≠ 0 then 1 else _
    rw [vk_lt]
    rfl
theorem vk_VR : VR (vk S) M ↔ VR S M := by
  unfold VR
  simp only [vk_sit, vk_lt, vk_rsn]
  exact Iff.rfl
theorem VR.cg {S' : xSr} (V : VR S M) (e : vk S' = vk S) : VR S' M := vk_VR.mp (e ▸ vk_VR.mpr V)
theorem VR.contS {part p v : Int} (V : VR S M) : VR (contS S part p v) M := V.cg rfl
theorem cP_setContent (C : CW A M h) {part b v : Int} (k : ∀ M' h', CW (dCon A part b v).2 M' h' → Fr M h M' h' → Φ (xo (dCon A part b v).1) M' h') : x_Cal zP_setContent [xA 1, xI part, xI b, xI v] M h Φ := by
  have hN := C.w.N
  unfold dCon at k
  refine x_met0 kP_setContent (Nat.le_of_ble_eq_true rfl) ?_
  simp only [wq_g3, wq_gc, wq_g, wq_g1, wq_g2, eP_setContent, iP_setContent_0, iP_setContent_21, iP_setContent_29, vP_setContent, wps, x_cnd, reduceIte, Nat.reduceAdd, Nat.reduceSub, Nat.reduceEqDiff, Nat.reduceLeDiff, Nat.lt_irrefl, Nat.reduceLT, Int.cast_ofNat_Int, wq_c0, wq_c1, true_and, and_true, and_self, true_implies, forall_const, ne_eq, Decidable.not_not, not_true_eq_false, not_false_eq_true, List.map_nil, List.map_cons, List.sum_nil, List.sum_cons, List.length_cons, List.length_nil, Nat.le_refl, Nat.zero_le, reduceCtorEq, true_or, or_true, false_or, or_false, false_and, and_false, false_implies, Nat.zero_add, Nat.add_zero, Int.reduceEq, Int.reduceNe, Int.reduceLT, Int.reduceLE, Int.reduceNeg, Int.reduceToNat, Nat.not_lt_zero, Int.reduceAdd, fxs C.F]
  refine cP_requirePart C (fun c0 => ?_) (fun n h1 h2 h6 => ?_)
  · simp only [wq_g3, wq_gc, wq_g, wq_g1, wq_g2, eP_setContent, iP_setContent_0, iP_setContent_21, iP_setContent_29, vP_setContent, wps, x_cnd, reduceIte, Nat.reduceAdd, Nat.reduceSub, Nat.reduceEqDiff, Nat.reduceLeDiff, Nat.lt_irrefl, Nat.reduceLT, Int.cast_ofNat_Int, wq_c0, wq_c1, true_and, and_true, and_self, true_implies, forall_const, ne_eq, Decidable.not_not, not_true_eq_false, not_false_eq_true, List.map_nil, List.map_cons, List.sum_nil, List.sum_cons, List.length_cons, List.length_nil, Nat.le_refl, Nat.zero_le, reduceCtorEq, true_or, or_true, false_or, or_false, false_and, and_false, false_implies, Nat.zero_add, Nat.add_zero, Int.reduceEq, Int.reduceNe, Int.reduceLT, Int.reduceLE, Int.reduceNeg, Int.reduceToNat, Nat.not_lt_zero, Int.reduceAdd]
    rw [if_pos c0] at k
    exact k M h C ⟨fun _ _ _ _ => rfl, Nat.le_refl _⟩
  subst h1
  rw [if_neg (by omega)] at k
  simp only [wq_g3, wq_gc, wq_g, wq_g1, wq_g2, eP_setContent, iP_setContent_0, iP_setContent_21, iP_setContent_29, vP_setContent, wps, x_cnd, reduceIte, Nat.reduceAdd, Nat.reduceSub, Nat.reduceEqDiff, Nat.reduceLeDiff, Nat.lt_irrefl, Nat.reduceLT, Int.cast_ofNat_Int, wq_c0, wq_c1, true_and, and_true, and_self, true_implies, forall_const, ne_eq, Decidable.not_not, not_true_eq_false, not_false_eq_true, List.map_nil, List.map_cons, List.sum_nil, List.sum_cons, List.length_cons, List.length_nil, Nat.le_refl, Nat.zero_le, reduceCtorEq, true_or, or_true, false_or, or_false, false_and, and_false, false_implies, Nat.zero_add, Nat.add_zero, Int.reduceEq, Int.reduceNe, Int.reduceLT, Int.reduceLE, Int.reduceNeg, Int.reduceToNat, Nat.not_lt_zero, Int.reduceAdd, fxs C.F]
  refine cP_requirePlace C (fun c1 => ?_) (fun p p1 p2 p3 => ?_)
  · simp only [wq_g3, wq_gc, wq_g, wq_g1, wq_g2, eP_setContent, iP_setContent_0, iP_setContent_21, iP_setContent_29, vP_setContent, wps, x_cnd, reduceIte, Nat.reduceAdd, Nat.reduceSub, Nat.reduceEqDiff, Nat.reduceLeDiff, Nat.lt_irrefl, Nat.reduceLT, Int.cast_ofNat_Int, wq_c0, wq_c1, true_and, and_true, and_self, true_implies, forall_const, ne_eq, Decidable.not_not, not_true_eq_false, not_false_eq_true, List.map_nil, List.map_cons, List.sum_nil, List.sum_cons, List.length_cons, List.length_nil, Nat.le_refl, Nat.zero_le, reduceCtorEq, true_or, or_true, false_or, or_false, false_and, and_false, false_implies, Nat.zero_add, Nat.add_zero, Int.reduceEq, Int.reduceNe, Int.reduceLT, Int.reduceLE, Int.reduceNeg, Int.reduceToNat, Nat.not_lt_zero, Int.reduceAdd]
    rw [if_pos c1] at k
    exact k M h C ⟨fun _ _ _ _ => rfl, Nat.le_refl _⟩
  rw [if_neg (by omega), p2] at k
  simp only [wq_g3, wq_gc, wq_g, wq_g1, wq_g2, eP_setContent, iP_setContent_0, iP_setContent_21, iP_setContent_29, vP_setContent, wps, x_cnd, reduceIte, Nat.reduceAdd, Nat.reduceSub, Nat.reduceEqDiff, Nat.reduceLeDiff, Nat.lt_irrefl, Nat.reduceLT, Int.cast_ofNat_Int, wq_c0, wq_c1, true_and, and_true, and_self, true_implies, forall_const, ne_eq, Decidable.not_not, not_true_eq_false, not_false_eq_true, List.map_nil, List.map_cons, List.sum_nil, List.sum_cons, List.length_cons, List.length_nil, Nat.le_refl, Nat.zero_le, reduceCtorEq, true_or, or_true, false_or, or_false, false_and, and_false, false_implies, Nat.zero_add, Nat.add_zero, Int.reduceEq, Int.reduceNe, Int.reduceLT, Int.reduceLE, Int.reduceNeg, Int.reduceToNat, Nat.not_lt_zero, Int.reduceAdd, fxs C.F]
  refine ⟨fun c0 => ?_, fun c0 => ⟨fun c1 => ?_, fun c1 => ?_⟩⟩
  · rw [if_pos (by omega)] at k
    exact k M h C ⟨fun _ _ _ _ => rfl, Nat.le_refl _⟩
  · rw [if_neg (by omega)] at k
    refine chg_keep C (fun M1 h1 P1 R1 f1 f2 => ?_)
    simp only [wq_g3, wq_gc, wq_g, wq_g1, wq_g2, eP_setContent, iP_setContent_0, iP_setContent_21, iP_setContent_29, vP_setContent, wps, x_cnd, reduceIte, Nat.reduceAdd, Nat.reduceSub, Nat.reduceEqDiff, Nat.reduceLeDiff, Nat.lt_irrefl, Nat.reduceLT, Int.cast_ofNat_Int, wq_c0, wq_c1, true_and, and_true, and_self, true_implies, forall_const, ne_eq, Decidable.not_not, not_true_eq_false, not_false_eq_true, List.map_nil, List.map_cons, List.sum_nil, List.sum_cons, List.length_cons, List.length_nil, Nat.le_refl, Nat.zero_le, reduceCtorEq, true_or, or_true, false_or, or_false, false_and, and_false, false_implies, Nat.zero_add, Nat.add_zero, Int.reduceEq, Int.reduceNe, Int.reduceLT, Int.reduceLE, Int.reduceNeg, Int.reduceToNat, Nat.not_lt_zero, Int.reduceAdd, fxs P1.F]
    refine cS_contentAt P1.F.s17 h6 (by omega) ?_
    have e1 : M1 (17 + 6) ((n : Int) * 150 + p) = sC (aS A) n p := R1.c p1 h6
    rw [e1]
    simp only [wq_g3, wq_gc, wq_g, wq_g1, wq_g2, eP_setContent, iP_setContent_0, iP_setContent_21, iP_setContent_29, vP_setContent, wps, x_cnd, reduceIte, Nat.reduceAdd, Nat.reduceSub, Nat.reduceEqDiff, Nat.reduceLeDiff, Nat.lt_irrefl, Nat.reduceLT, Int.cast_ofNat_Int, wq_c0, wq_c1, true_and, and_true, and_self, true_implies, forall_const, ne_eq, Decidable.not_not, not_true_eq_false, not_false_eq_true, List.map_nil, List.map_cons, List.sum_nil, List.sum_cons, List.length_cons, List.length_nil, Nat.le_refl, Nat.zero_le, reduceCtorEq, true_or, or_true, false_or, or_false, false_and, and_false, false_implies, Nat.zero_add, Nat.add_zero, Int.reduceEq, Int.reduceNe, Int.reduceLT, Int.reduceLE, Int.reduceNeg, Int.reduceToNat, Nat.not_lt_zero, Int.reduceAdd, fxs P1.F]
    refine cS_putContent P1.F.s17 h6 (by omega) ?_
    simp only [wq_g3, wq_gc, wq_g, wq_g1, wq_g2, eP_setContent, iP_setContent_0, iP_setContent_21, iP_setContent_29, vP_setContent, wps, x_cnd, reduceIte, Nat.reduceAdd, Nat.reduceSub, Nat.reduceEqDiff, Nat.reduceLeDiff, Nat.lt_irrefl, Nat.reduceLT, Int.cast_ofNat_Int, wq_c0, wq_c1, true_and, and_true, and_self, true_implies, forall_const, ne_eq, Decidable.not_not, not_true_eq_false, not_false_eq_true, List.map_nil, List.map_cons, List.sum_nil, List.sum_cons, List.length_cons, List.length_nil, Nat.le_refl, Nat.zero_le, reduceCtorEq, true_or, or_true, false_or, or_false, false_and, and_false, false_implies, Nat.zero_add, Nat.add_zero, Int.reduceEq, Int.reduceNe, Int.reduceLT, Int.reduceLE, Int.reduceNeg, Int.reduceToNat, Nat.not_lt_zero, Int.reduceAdd]
    have P2 := P1.frame (M' := x_w M1 23 ((n : Int) * 150 + p) v) (fun a j ha => by rw [w_ne (by omega)])
    obtain ⟨p1', p2', p3', p4', p5'⟩ := P2
    have V2 : VR (aS A) (x_w M1 23 ((n : Int) * 150 + p) v) := C.V.frame (fun a j ha => by rw [w_ne (by omega), f1 a j (by omega) (by omega)])
    refine k _ h1 ⟨p1', R1.contS h6 hN (by omega), C.w.contS (by omega), V2.contS, p2', p3', p4', p5'⟩ ⟨fun a j z1 z2 => ?_, f2⟩
    show x_w M1 23 _ v a j = _
    rw [w_ne (by omega), f1 a j z2 (by omega)]
  · rw [if_pos (by omega)] at k
    exact k M h C ⟨fun _ _ _ _ => rfl, Nat.le_refl _⟩
theorem cP_undo (C : CW A M h) (k : ∀ M' h', CW (dUndo A).2 M' h' → Fr M h M' h' → Φ (xo (dUndo A).1) M' h') : x_Cal zP_undo [xA 1] M h Φ := by
  have e0 : M 37 2 = aH A := C.H.1.1
  have hi := C.i
  obtain ⟨r1, r2, r3, r4⟩ := C.r
  obtain ⟨o1, o2, o3⟩ := C.o
  unfold dUndo at k
  refine x_met0 kP_undo (Nat.le_of_ble_eq_true rfl) ?_
  simp only [wq_g3, wq_gc, wq_g, wq_g1, wq_g2, eP_undo, iP_undo_0, iP_undo_18, vP_undo, wps, x_cnd, reduceIte, Nat.reduceAdd, Nat.reduceSub, Nat.reduceEqDiff, Nat.reduceLeDiff, Nat.lt_irrefl, Nat.reduceLT, Int.cast_ofNat_Int, wq_c0, wq_c1, true_and, and_true, and_self, true_implies, forall_const, ne_eq, Decidable.not_not, not_true_eq_false, not_false_eq_true, List.map_nil, List.map_cons, List.sum_nil, List.sum_cons, List.length_cons, List.length_nil, Nat.le_refl, Nat.zero_le, reduceCtorEq, true_or, or_true, false_or, or_false, false_and, and_false, false_implies, Nat.zero_add, Nat.add_zero, Int.reduceEq, Int.reduceNe, Int.reduceLT, Int.reduceLE, Int.reduceNeg, Int.reduceToNat, Nat.not_lt_zero, Int.reduceAdd, fxs C.F, e0]
  refine ⟨fun c0 => ?_, fun c0 => ?_⟩
  · rw [if_neg (by omega)] at k
    refine cH_bringBack C.F C.R C.w C.H (by omega) (fun M1 h1 F1 R1 H1 f1 f2 f3 => ?_)
    simp only [wq_g3, wq_gc, wq_g, wq_g1, wq_g2, eP_undo, iP_undo_0, iP_undo_18, vP_undo, wps, x_cnd, reduceIte, Nat.reduceAdd, Nat.reduceSub, Nat.reduceEqDiff, Nat.reduceLeDiff, Nat.lt_irrefl, Nat.reduceLT, Int.cast_ofNat_Int, wq_c0, wq_c1, true_and, and_true, and_self, true_implies, forall_const, ne_eq, Decidable.not_not, not_true_eq_false, not_false_eq_true, List.map_nil, List.map_cons, List.sum_nil, List.sum_cons, List.length_cons, List.length_nil, Nat.le_refl, Nat.zero_le, reduceCtorEq, true_or, or_true, false_or, or_false, false_and, and_false, false_implies, Nat.zero_add, Nat.add_zero, Int.reduceEq, Int.reduceNe, Int.reduceLT, Int.reduceLE, Int.reduceNeg, Int.reduceToNat, Nat.not_lt_zero, Int.reduceAdd, fxs F1]
    obtain ⟨nx, n1, n2, n3⟩ := C.H.2.1
    have P1 : PW (aG A 0, aI A, aH A - 1, (fun j => aG A (j + 1)), aN A, aB A, aE A, aP A, aO A) M1 h1 := by
      refine ⟨F1, H1, ?_, ⟨?_, ?_, fun i hi => ?_, fun i => ?_⟩, ?_, o2, fun i hi => ?_⟩
      · rw [f1 1 6 (by omega) (by omega) (by omega)]
        exact hi
      · rw [f1 2 3 (by omega) (by omega) (by omega)]
        exact r1
      · rw [f1 2 1 (by omega) (by omega) (by omega), f1 2 2 (by omega) (by omega) (by omega)]
        exact r2
      · rw [f1 14 i (by omega) (by omega) (by omega)]
        exact r3 i hi
      · rw [f3 13 i (by omega) (by omega)]
        exact r4 i
      · rw [f1 39 1 (by omega) (by omega) (by omega)]
        exact o1
      · rw [f1 40 i (by omega) (by omega) (by omega)]
        exact o3 i hi
    refine chg_ref P1 R1 (n3 0 (by omega)).2.2 (fun M3 C3 f4 => ?_)
    have e9 : M3 37 2 = ((aH A - 1 : Nat) : Int) := C3.H.1.1
    simp only [wq_g3, wq_gc, wq_g, wq_g1, wq_g2, eP_undo, iP_undo_0, iP_undo_18, vP_undo, wps, x_cnd, reduceIte, Nat.reduceAdd, Nat.reduceSub, Nat.reduceEqDiff, Nat.reduceLeDiff, Nat.lt_irrefl, Nat.reduceLT, Int.cast_ofNat_Int, wq_c0, wq_c1, true_and, and_true, and_self, true_implies, forall_const, ne_eq, Decidable.not_not, not_true_eq_false, not_false_eq_true, List.map_nil, List.map_cons, List.sum_nil, List.sum_cons, List.length_cons, List.length_nil, Nat.le_refl, Nat.zero_le, reduceCtorEq, true_or, or_true, false_or, or_false, false_and, and_false, false_implies, Nat.zero_add, Nat.add_zero, Int.reduceEq, Int.reduceNe, Int.reduceLT, Int.reduceLE, Int.reduceNeg, Int.reduceToNat, Nat.not_lt_zero, Int.reduceAdd, fxs F1, e9]
    refine k M3 h1 C3 ⟨fun a j z1 z2 => ?_, by omega⟩
    rw [f4 a j (by omega), f1 a j z2 (by omega) (by omega)]
  · rw [if_pos (by omega)] at k
    exact k M h C ⟨fun _ _ _ _ => rfl, Nat.le_refl _⟩
end SET
