/-! cuts and marks changed -/
def up (c v : Int) (g : Int → Int) : Int → Int := fun p => if p = c then v else g p
theorem up_1 {c v : Int} {g : Int → Int} : up c v g c = v := if_pos rfl
theorem up_2 {c v p : Int} {g : Int → Int} (h : p ≠ c) : up c v g p = g p := if_neg h
def cutS (S : xSr) (c f l : Int) : xSr := (sN S, sP S, sI S, sB S, sX S, sT S, sD S, sC S, sM S, up c f (sF S), up c l (sL S), sQ S, sR S)
def markS (S : xSr) (l x : Int) : xSr := (sN S, sP S, sI S, sB S, sX S, sT S, sD S, sC S, up l x (sM S), sF S, sL S, sQ S, sR S)
def dCut (A : xAb) (f l : Int) : xAn × xAb :=
  if pl (aS A) f = -1 ∨ pl (aS A) l = -1 then (.inr 2, A)
  else if pl (aS A) l < pl (aS A) f then (.inr 1, A)
  else if fi (sF (aS A)) (-1) 10 = -1 then (.inr 0, A)
  else (.inl (fi (sF (aS A)) (-1) 10), aKeep A (cutS (aS A) (fi (sF (aS A)) (-1) 10) f l) (aI A))
def dOpen (A : xAb) (c : Int) : xAn × xAb :=
  if 0 ≤ c ∧ c < 10 ∧ sF (aS A) c ≠ -1 then (.inl (pN (cutS (aS A) c (-1) (-1))), aKeep A (cutS (aS A) c (-1) (-1)) (aI A)) else (.inr 2, A)
def dPut (A : xAb) (l b : Int) : xAn × xAb :=
  if pl (aS A) b = -1 then (.inr 2, A)
  else if ¬ (1 ≤ l ∧ l ≤ 40) then (.inr 1, A)
  else if (sit (aS A) (pl (aS A) b) ≠ 0 ∧ sit (aS A) (pl (aS A) b) ≠ l) ∨ (20 ≤ mkN (aS A) ∧ sM (aS A) l = -1) then (.inr 0, A)
  else (.inl (sM (aS A) l), aKeep A (markS (aS A) l b) (aI A))
def dRem (A : xAb) (l : Int) : xAn × xAb :=
  if 1 ≤ l ∧ l ≤ 40 ∧ sM (aS A) l ≠ -1 then (.inl (mkN (markS (aS A) l (-1))), aKeep A (markS (aS A) l (-1)) (aI A)) else (.inr 2, A)
theorem mkN_up {S : xSr} {l : Nat} {x : Int} (h1 : 1 ≤ l) (h2 : l ≤ 40) : mkN (markS S l x) = mkN S + (b01 (x ≠ -1) - b01 (sM S l ≠ -1)) := by
  unfold mkN
  rw [cn_up (P := mkb S) (r := l - 1) (by omega) (fun q hq hne => ?_)]
  · have e1 : mkb (markS S l x) ((l - 1 : Nat) : Int) = (x != -1) := by
      show (up l x (sM S) (((l - 1 : Nat) : Int) + 1) != -1) = _
      rw [show ((l - 1 : Nat) : Int) + 1 = l by omega, up_1]
    have e2 : mkb S ((l - 1 : Nat) : Int) = (sM S l != -1) := by
      show (sM S (((l - 1 : Nat) : Int) + 1) != -1) = _
      rw [show ((l - 1 : Nat) : Int) + 1 = l by omega]
    rw [e1, e2]
    unfold b01
    congr 2 <;> simp
  · show (up l x (sM S) ((q : Int) + 1) != -1) = (sM S ((q : Int) + 1) != -1)
    rw [up_2 (by omega)]
section MRK
variable {A : xAb} {M : xM} {h : xH} {Φ : xO → xM → xH → Prop} {S : xSr} {nid : Int}
set_option maxHeartbeats 1000000
theorem repC.cutS {c : Nat} {f l : Int} (R : repC S M h 17) : repC (cutS S c f l) (x_w (x_w M 25 c f) 26 c l) h 17 := by
  obtain ⟨a1, b1, c1, d1, e1, f1⟩ := R
  refine ⟨a1, ⟨?_, ?_, ?_⟩, fun p hp => ?_, fun l h1 h2 => ?_, fun k h1 => ⟨?_, ?_⟩, fun part h6 => ?_⟩
  · rw [w_ne (by omega), w_ne (by omega)]
    exact b1.1
  · rw [w_ne (by omega), w_ne (by omega)]
    exact b1.2.1
  · rw [w_ne (by omega), w_ne (by omega)]
    exact b1.2.2
  · rw [w_ne (by omega), w_ne (by omega), w_ne (by omega), w_ne (by omega), w_ne (by omega), w_ne (by omega), w_ne (by omega), w_ne (by omega), w_ne (by omega), w_ne (by omega)]
    obtain ⟨g1, g2, g3, g4, g5, g6⟩ := c1 p hp
    exact ⟨g1, g2, g3, g4, g5, fun part h6 => by rw [w_ne (by omega), w_ne (by omega)]; exact g6 part h6⟩
  · rw [w_ne (by omega), w_ne (by omega)]
    exact d1 l h1 h2
  · rw [w_ne (by omega)]
    show x_w M 25 c f 25 k = up c f (sF S) k
    by_cases hk : k = c
    · subst hk
      rw [w_eq, up_1]
    · rw [w_nj (by omega), up_2 (by omega)]
      exact (e1 k h1).1
  · show x_w (x_w M 25 c f) 26 c l 26 k = up c l (sL S) k
    by_cases hk : k = c
    · subst hk
      rw [w_eq, up_1]
    · rw [w_nj (by omega), w_ne (by omega), up_2 (by omega)]
      exact (e1 k h1).2
  · rcases f1 part h6 with z | ⟨z1, z2⟩
    · exact Or.inl z
    · exact Or.inr ⟨z1, z2.frame (fun a j ha => by rw [w_ne (by omega), w_ne (by omega)])⟩
theorem wfS.cutS {c : Nat} {f l : Int} (w : wfS S nid) (hc : f = -1 ∨ ∃ p q : Nat, p ≤ q ∧ q < sN S ∧ sI S p = f ∧ sI S q = l) : wfS (cutS S c f l) nid := by
  refine ⟨w.1, w.2.1, w.2.2.1, w.2.2.2.1, w.2.2.2.2.1, w.m20, fun k hk => ?_, w.2.2.2.2.2.2.2.1, w.2.2.2.2.2.2.2.2.1, w.2.2.2.2.2.2.2.2.2⟩
  show up c f (sF S) k = -1 ∨ ∃ p q : Nat, p ≤ q ∧ q < sN S ∧ sI S p = up c f (sF S) k ∧ sI S q = up c l (sL S) k
  by_cases h : k = c
  · subst h
    rw [up_1, up_1]
    exact hc
  · rw [up_2 (by omega), up_2 (by omega)]
    exact w.cut hk
theorem repC.markS {l : Nat} {x : Int} (R : repC S M h 17) (h1 : 1 ≤ l) (h2 : l ≤ 40) : repC (markS S l x) (x_w (x_w M 24 l x) 17 2 (mkN S + (b01 (x ≠ -1) - b01 (sM S l ≠ -1)))) h 17 := by
  obtain ⟨a1, b1, c1, d1, e1, f1⟩ := R
  refine ⟨a1, ⟨?_, ?_, ?_⟩, fun p hp => ?_, fun k h3 h4 => ?_, fun k h1 => ?_, fun part h6 => ?_⟩
  · rw [w_nj (by omega), w_ne (by omega)]
    exact b1.1
  · rw [w_nj (by omega), w_ne (by omega)]
    exact b1.2.1
  · rw [w_eq]
    exact (mkN_up h1 h2).symm
  · rw [w_ne (by omega), w_ne (by omega), w_ne (by omega), w_ne (by omega), w_ne (by omega), w_ne (by omega), w_ne (by omega), w_ne (by omega), w_ne (by omega), w_ne (by omega)]
    obtain ⟨g1, g2, g3, g4, g5, g6⟩ := c1 p hp
    exact ⟨g1, g2, g3, g4, g5, fun part h6 => by rw [w_ne (by omega), w_ne (by omega)]; exact g6 part h6⟩
  · rw [w_ne (by omega)]
    show x_w M 24 l x 24 k = up l x (sM S) k
    by_cases hk : k = l
    · subst hk
      rw [w_eq, up_1]
    · rw [w_nj (by omega), up_2 (by omega)]
      exact d1 k h3 h4
  · rw [w_ne (by omega), w_ne (by omega), w_ne (by omega), w_ne (by omega)]
    exact e1 k h1
  · rcases f1 part h6 with z | ⟨z1, z2⟩
    · exact Or.inl z
    · exact Or.inr ⟨z1, z2.frame (fun a j ha => by rw [w_ne (by omega), w_ne (by omega)])⟩
theorem wfS.markS {l : Nat} {x : Int} (w : wfS S nid) (h1 : 1 ≤ l) (h2 : l ≤ 40) (h20 : x ≠ -1 → mkN S < 20 ∨ sM S l ≠ -1) (hc : x = -1 ∨ ∃ p : Nat, p < sN S ∧ sI S p = x) (hx : ∀ k : Nat, 1 ≤ k → k ≤ 40 → k ≠ l → x ≠ -1 → sM S k ≠ x) : wfS (markS S l x) nid := by
  refine ⟨w.1, w.2.1, w.2.2.1, fun k h3 h4 => ?_, fun k j k1 k2 j1 j2 hk he => ?_, ?_, w.2.2.2.2.2.2.1, w.2.2.2.2.2.2.2.1, w.2.2.2.2.2.2.2.2.1, w.2.2.2.2.2.2.2.2.2⟩
  · show up l x (sM S) k = -1 ∨ ∃ p : Nat, p < sN S ∧ sI S p = up l x (sM S) k
    by_cases h : k = l
    · subst h
      rw [up_1]
      exact hc
    · rw [up_2 (by omega)]
      exact w.mk h3 h4
  · replace hk : up l x (sM S) k ≠ -1 := hk
    replace he : up l x (sM S) k = up l x (sM S) j := he
    by_cases g1 : k = l
    · by_cases g2 : j = l
      · omega
      · subst g1
        rw [up_1] at hk he
        rw [up_2 (by omega)] at he
        exact absurd he.symm (hx j j1 j2 g2 hk)
    · rw [up_2 (by omega)] at hk he
      by_cases g2 : j = l
      · subst g2
        rw [up_1] at he
        exact absurd he (hx k k1 k2 g1 (by omega))
      · rw [up_2 (by omega)] at he
        exact w.mi k1 k2 j1 j2 hk he
  · rw [mkN_up h1 h2]
    have := w.m20
    by_cases g1 : x = -1
    · rw [b01_f (p := x ≠ -1) (by omega)]
      have := b01_r (p := sM S l ≠ -1)
      omega
    · rw [b01_t (p := x ≠ -1) g1]
      rcases h20 g1 with g | g
      · have := b01_r (p := sM S l ≠ -1)
        omega
      · rw [b01_t (p := sM S l ≠ -1) g]
        omega
theorem cP_makeCut (C : CW A M h) {f l : Int} (k : ∀ M' h', CW (dCut A f l).2 M' h' → Fr M h M' h' → Φ (xo (dCut A f l).1) M' h') : x_Cal zP_makeCut [xA 1, xI f, xI l] M h Φ := by
  have hN := C.w.N
  unfold dCut at k
  refine x_met0 kP_makeCut (Nat.le_of_ble_eq_true rfl) ?_
  simp only [wq_g3, wq_gc, wq_g, wq_g1, wq_g2, eP_makeCut, iP_makeCut_0, iP_makeCut_27, iP_makeCut_50, vP_makeCut, wps, x_cnd, reduceIte, Nat.reduceAdd, Nat.reduceSub, Nat.reduceEqDiff, Nat.reduceLeDiff, Nat.lt_irrefl, Nat.reduceLT, Int.cast_ofNat_Int, wq_c0, wq_c1, true_and, and_true, and_self, true_implies, forall_const, ne_eq, Decidable.not_not, not_true_eq_false, not_false_eq_true, List.map_nil, List.map_cons, List.sum_nil, List.sum_cons, List.length_cons, List.length_nil, Nat.le_refl, Nat.zero_le, reduceCtorEq, true_or, or_true, false_or, or_false, false_and, and_false, false_implies, Nat.zero_add, Nat.add_zero, Int.reduceEq, Int.reduceNe, Int.reduceLT, Int.reduceLE, Int.reduceNeg, Int.reduceToNat, Nat.not_lt_zero, Int.reduceAdd, fxs C.F]
  refine cP_requirePlace C (fun c1 => ?_) (fun p p1 p2 p3 => ?_)
  · simp only [wq_g3, wq_gc, wq_g, wq_g1, wq_g2, eP_makeCut, iP_makeCut_0, iP_makeCut_27, iP_makeCut_50, vP_makeCut, wps, x_cnd, reduceIte, Nat.reduceAdd, Nat.reduceSub, Nat.reduceEqDiff, Nat.reduceLeDiff, Nat.lt_irrefl, Nat.reduceLT, Int.cast_ofNat_Int, wq_c0, wq_c1, true_and, and_true, and_self, true_implies, forall_const, ne_eq, Decidable.not_not, not_true_eq_false, not_false_eq_true, List.map_nil, List.map_cons, List.sum_nil, List.sum_cons, List.length_cons, List.length_nil, Nat.le_refl, Nat.zero_le, reduceCtorEq, true_or, or_true, false_or, or_false, false_and, and_false, false_implies, Nat.zero_add, Nat.add_zero, Int.reduceEq, Int.reduceNe, Int.reduceLT, Int.reduceLE, Int.reduceNeg, Int.reduceToNat, Nat.not_lt_zero, Int.reduceAdd]
    rw [if_pos (Or.inl c1)] at k
    exact k M h C ⟨fun _ _ _ _ => rfl, Nat.le_refl _⟩
  simp only [wq_g3, wq_gc, wq_g, wq_g1, wq_g2, eP_makeCut, iP_makeCut_0, iP_makeCut_27, iP_makeCut_50, vP_makeCut, wps, x_cnd, reduceIte, Nat.reduceAdd, Nat.reduceSub, Nat.reduceEqDiff, Nat.reduceLeDiff, Nat.lt_irrefl, Nat.reduceLT, Int.cast_ofNat_Int, wq_c0, wq_c1, true_and, and_true, and_self, true_implies, forall_const, ne_eq, Decidable.not_not, not_true_eq_false, not_false_eq_true, List.map_nil, List.map_cons, List.sum_nil, List.sum_cons, List.length_cons, List.length_nil, Nat.le_refl, Nat.zero_le, reduceCtorEq, true_or, or_true, false_or, or_false, false_and, and_false, false_implies, Nat.zero_add, Nat.add_zero, Int.reduceEq, Int.reduceNe, Int.reduceLT, Int.reduceLE, Int.reduceNeg, Int.reduceToNat, Nat.not_lt_zero, Int.reduceAdd, fxs C.F]
  refine cP_requirePlace C (fun c1 => ?_) (fun q q1 q2 q3 => ?_)
  · simp only [wq_g3, wq_gc, wq_g, wq_g1, wq_g2, eP_makeCut, iP_makeCut_0, iP_makeCut_27, iP_makeCut_50, vP_makeCut, wps, x_cnd, reduceIte, Nat.reduceAdd, Nat.reduceSub, Nat.reduceEqDiff, Nat.reduceLeDiff, Nat.lt_irrefl, Nat.reduceLT, Int.cast_ofNat_Int, wq_c0, wq_c1, true_and, and_true, and_self, true_implies, forall_const, ne_eq, Decidable.not_not, not_true_eq_false, not_false_eq_true, List.map_nil, List.map_cons, List.sum_nil, List.sum_cons, List.length_cons, List.length_nil, Nat.le_refl, Nat.zero_le, reduceCtorEq, true_or, or_true, false_or, or_false, false_and, and_false, false_implies, Nat.zero_add, Nat.add_zero, Int.reduceEq, Int.reduceNe, Int.reduceLT, Int.reduceLE, Int.reduceNeg, Int.reduceToNat, Nat.not_lt_zero, Int.reduceAdd]
    rw [if_pos (Or.inr c1)] at k
    exact k M h C ⟨fun _ _ _ _ => rfl, Nat.le_refl _⟩
  rw [if_neg (by omega), p2, q2] at k
  simp only [wq_g3, wq_gc, wq_g, wq_g1, wq_g2, eP_makeCut, iP_makeCut_0, iP_makeCut_27, iP_makeCut_50, vP_makeCut, wps, x_cnd, reduceIte, Nat.reduceAdd, Nat.reduceSub, Nat.reduceEqDiff, Nat.reduceLeDiff, Nat.lt_irrefl, Nat.reduceLT, Int.cast_ofNat_Int, wq_c0, wq_c1, true_and, and_true, and_self, true_implies, forall_const, ne_eq, Decidable.not_not, not_true_eq_false, not_false_eq_true, List.map_nil, List.map_cons, List.sum_nil, List.sum_cons, List.length_cons, List.length_nil, Nat.le_refl, Nat.zero_le, reduceCtorEq, true_or, or_true, false_or, or_false, false_and, and_false, false_implies, Nat.zero_add, Nat.add_zero, Int.reduceEq, Int.reduceNe, Int.reduceLT, Int.reduceLE, Int.reduceNeg, Int.reduceToNat, Nat.not_lt_zero, Int.reduceAdd, fxs C.F]
  refine ⟨fun c0 => cS_firstFreeCut C.F.s17 ?_, fun c0 => ?_⟩
  · rw [if_neg (by omega)] at k
    have hfi : fi (M (17 + 8)) (-1) 10 = fi (sF (aS A)) (-1) 10 := fi_congr (fun q hq => C.R.cf hq)
    rw [hfi]
    have hfr := fi_rng (f := sF (aS A)) (x := -1) (n := 10)
    generalize fi (sF (aS A)) (-1) 10 = c at k hfr ⊢
    simp only [wq_g3, wq_gc, wq_g, wq_g1, wq_g2, eP_makeCut, iP_makeCut_0, iP_makeCut_27, iP_makeCut_50, vP_makeCut, wps, x_cnd, reduceIte, Nat.reduceAdd, Nat.reduceSub, Nat.reduceEqDiff, Nat.reduceLeDiff, Nat.lt_irrefl, Nat.reduceLT, Int.cast_ofNat_Int, wq_c0, wq_c1, true_and, and_true, and_self, true_implies, forall_const, ne_eq, Decidable.not_not, not_true_eq_false, not_false_eq_true, List.map_nil, List.map_cons, List.sum_nil, List.sum_cons, List.length_cons, List.length_nil, Nat.le_refl, Nat.zero_le, reduceCtorEq, true_or, or_true, false_or, or_false, false_and, and_false, false_implies, Nat.zero_add, Nat.add_zero, Int.reduceEq, Int.reduceNe, Int.reduceLT, Int.reduceLE, Int.reduceNeg, Int.reduceToNat, Nat.not_lt_zero, Int.reduceAdd, fxs C.F]
    refine ⟨fun c2 => ?_, fun c2 => ?_⟩
    · obtain ⟨c', hc'⟩ : ∃ c' : Nat, c = c' := ⟨c.toNat, by omega⟩
      subst hc'
      rw [if_neg c2] at k
      refine chg_keep C (fun M1 h1 P1 R1 f1 f2 => ?_)
      simp only [wq_g3, wq_gc, wq_g, wq_g1, wq_g2, eP_makeCut, iP_makeCut_0, iP_makeCut_27, iP_makeCut_50, vP_makeCut, wps, x_cnd, reduceIte, Nat.reduceAdd, Nat.reduceSub, Nat.reduceEqDiff, Nat.reduceLeDiff, Nat.lt_irrefl, Nat.reduceLT, Int.cast_ofNat_Int, wq_c0, wq_c1, true_and, and_true, and_self, true_implies, forall_const, ne_eq, Decidable.not_not, not_true_eq_false, not_false_eq_true, List.map_nil, List.map_cons, List.sum_nil, List.sum_cons, List.length_cons, List.length_nil, Nat.le_refl, Nat.zero_le, reduceCtorEq, true_or, or_true, false_or, or_false, false_and, and_false, false_implies, Nat.zero_add, Nat.add_zero, Int.reduceEq, Int.reduceNe, Int.reduceLT, Int.reduceLE, Int.reduceNeg, Int.reduceToNat, Nat.not_lt_zero, Int.reduceAdd, fxs P1.F]
      refine cS_setCut P1.F.s17 (by omega) ?_
      simp only [wq_g3, wq_gc, wq_g, wq_g1, wq_g2, eP_makeCut, iP_makeCut_0, iP_makeCut_27, iP_makeCut_50, vP_makeCut, wps, x_cnd, reduceIte, Nat.reduceAdd, Nat.reduceSub, Nat.reduceEqDiff, Nat.reduceLeDiff, Nat.lt_irrefl, Nat.reduceLT, Int.cast_ofNat_Int, wq_c0, wq_c1, true_and, and_true, and_self, true_implies, forall_const, ne_eq, Decidable.not_not, not_true_eq_false, not_false_eq_true, List.map_nil, List.map_cons, List.sum_nil, List.sum_cons, List.length_cons, List.length_nil, Nat.le_refl, Nat.zero_le, reduceCtorEq, true_or, or_true, false_or, or_false, false_and, and_false, false_implies, Nat.zero_add, Nat.add_zero, Int.reduceEq, Int.reduceNe, Int.reduceLT, Int.reduceLE, Int.reduceNeg, Int.reduceToNat, Nat.not_lt_zero, Int.reduceAdd, fxs P1.F]
      refine chg_ref (A := aKeep A (cutS (aS A) c' f l) (aI A)) (P1.frame (fun a j ha => ?_)) R1.cutS (C.w.cutS (Or.inr ⟨p, q, by omega, q1, p3, q3⟩)) (fun M3 C3 f3 => ?_)
      · rw [w_ne (by omega), w_ne (by omega)]
      · simp only [wq_g3, wq_gc, wq_g, wq_g1, wq_g2, eP_makeCut, iP_makeCut_0, iP_makeCut_27, iP_makeCut_50, vP_makeCut, wps, x_cnd, reduceIte, Nat.reduceAdd, Nat.reduceSub, Nat.reduceEqDiff, Nat.reduceLeDiff, Nat.lt_irrefl, Nat.reduceLT, Int.cast_ofNat_Int, wq_c0, wq_c1, true_and, and_true, and_self, true_implies, forall_const, ne_eq, Decidable.not_not, not_true_eq_false, not_false_eq_true, List.map_nil, List.map_cons, List.sum_nil, List.sum_cons, List.length_cons, List.length_nil, Nat.le_refl, Nat.zero_le, reduceCtorEq, true_or, or_true, false_or, or_false, false_and, and_false, false_implies, Nat.zero_add, Nat.add_zero, Int.reduceEq, Int.reduceNe, Int.reduceLT, Int.reduceLE, Int.reduceNeg, Int.reduceToNat, Nat.not_lt_zero, Int.reduceAdd]
        refine k M3 h1 C3 ⟨fun a j z1 z2 => ?_, f2⟩
        rw [f3 a j (by omega), w_ne (by omega), w_ne (by omega), f1 a j z2 (by omega)]
    · rw [if_pos c2] at k
      exact k M h C ⟨fun _ _ _ _ => rfl, Nat.le_refl _⟩
  · rw [if_pos (by omega)] at k
    exact k M h C ⟨fun _ _ _ _ => rfl, Nat.le_refl _⟩
theorem cP_openCut (C : CW A M h) {c : Int} (k : ∀ M' h', CW (dOpen A c).2 M' h' → Fr M h M' h' → Φ (xo (dOpen A c).1) M' h') : x_Cal zP_openCut [xA 1, xI c] M h Φ := by
  unfold dOpen at k
  refine x_met0 kP_openCut (Nat.le_of_ble_eq_true rfl) ?_
  simp only [wq_g3, wq_gc, wq_g, wq_g1, wq_g2, eP_openCut, iP_openCut_0, vP_openCut, wps, x_cnd, reduceIte, Nat.reduceAdd, Nat.reduceSub, Nat.reduceEqDiff, Nat.reduceLeDiff, Nat.lt_irrefl, Nat.reduceLT, Int.cast_ofNat_Int, wq_c0, wq_c1, true_and, and_true, and_self, true_implies, forall_const, ne_eq, Decidable.not_not, not_true_eq_false, not_false_eq_true, List.map_nil, List.map_cons, List.sum_nil, List.sum_cons, List.length_cons, List.length_nil, Nat.le_refl, Nat.zero_le, reduceCtorEq, true_or, or_true, false_or, or_false, false_and, and_false, false_implies, Nat.zero_add, Nat.add_zero, Int.reduceEq, Int.reduceNe, Int.reduceLT, Int.reduceLE, Int.reduceNeg, Int.reduceToNat, Nat.not_lt_zero, Int.reduceAdd, fxs C.F]
  refine cP_requireCut C (fun c0 => ?_) (fun n n1 n2 n3 => ?_)
  · simp only [wq_g3, wq_gc, wq_g, wq_g1, wq_g2, eP_openCut, iP_openCut_0, vP_openCut, wps, x_cnd, reduceIte, Nat.reduceAdd, Nat.reduceSub, Nat.reduceEqDiff, Nat.reduceLeDiff, Nat.lt_irrefl, Nat.reduceLT, Int.cast_ofNat_Int, wq_c0, wq_c1, true_and, and_true, and_self, true_implies, forall_const, ne_eq, Decidable.not_not, not_true_eq_false, not_false_eq_true, List.map_nil, List.map_cons, List.sum_nil, List.sum_cons, List.length_cons, List.length_nil, Nat.le_refl, Nat.zero_le, reduceCtorEq, true_or, or_true, false_or, or_false, false_and, and_false, false_implies, Nat.zero_add, Nat.add_zero, Int.reduceEq, Int.reduceNe, Int.reduceLT, Int.reduceLE, Int.reduceNeg, Int.reduceToNat, Nat.not_lt_zero, Int.reduceAdd]
    rw [if_neg c0] at k
    exact k M h C ⟨fun _ _ _ _ => rfl, Nat.le_refl _⟩
  subst n1
  rw [if_pos ⟨by omega, by omega, n3⟩] at k
  simp only [wq_g3, wq_gc, wq_g, wq_g1, wq_g2, eP_openCut, iP_openCut_0, vP_openCut, wps, x_cnd, reduceIte, Nat.reduceAdd, Nat.reduceSub, Nat.reduceEqDiff, Nat.reduceLeDiff, Nat.lt_irrefl, Nat.reduceLT, Int.cast_ofNat_Int, wq_c0, wq_c1, true_and, and_true, and_self, true_implies, forall_const, ne_eq, Decidable.not_not, not_true_eq_false, not_false_eq_true, List.map_nil, List.map_cons, List.sum_nil, List.sum_cons, List.length_cons, List.length_nil, Nat.le_refl, Nat.zero_le, reduceCtorEq, true_or, or_true, false_or, or_false, false_and, and_false, false_implies, Nat.zero_add, Nat.add_zero, Int.reduceEq, Int.reduceNe, Int.reduceLT, Int.reduceLE, Int.reduceNeg, Int.reduceToNat, Nat.not_lt_zero, Int.reduceAdd, fxs C.F]
  refine chg_keep C (fun M1 h1 P1 R1 f1 f2 => ?_)
  simp only [wq_g3, wq_gc, wq_g, wq_g1, wq_g2, eP_openCut, iP_openCut_0, vP_openCut, wps, x_cnd, reduceIte, Nat.reduceAdd, Nat.reduceSub, Nat.reduceEqDiff, Nat.reduceLeDiff, Nat.lt_irrefl, Nat.reduceLT, Int.cast_ofNat_Int, wq_c0, wq_c1, true_and, and_true, and_self, true_implies, forall_const, ne_eq, Decidable.not_not, not_true_eq_false, not_false_eq_true, List.map_nil, List.map_cons, List.sum_nil, List.sum_cons, List.length_cons, List.length_nil, Nat.le_refl, Nat.zero_le, reduceCtorEq, true_or, or_true, false_or, or_false, false_and, and_false, false_implies, Nat.zero_add, Nat.add_zero, Int.reduceEq, Int.reduceNe, Int.reduceLT, Int.reduceLE, Int.reduceNeg, Int.reduceToNat, Nat.not_lt_zero, Int.reduceAdd, fxs P1.F]
  refine cS_setCut P1.F.s17 (by omega) ?_
  simp only [wq_g3, wq_gc, wq_g, wq_g1, wq_g2, eP_openCut, iP_openCut_0, vP_openCut, wps, x_cnd, reduceIte, Nat.reduceAdd, Nat.reduceSub, Nat.reduceEqDiff, Nat.reduceLeDiff, Nat.lt_irrefl, Nat.reduceLT, Int.cast_ofNat_Int, wq_c0, wq_c1, true_and, and_true, and_self, true_implies, forall_const, ne_eq, Decidable.not_not, not_true_eq_false, not_false_eq_true, List.map_nil, List.map_cons, List.sum_nil, List.sum_cons, List.length_cons, List.length_nil, Nat.le_refl, Nat.zero_le, reduceCtorEq, true_or, or_true, false_or, or_false, false_and, and_false, false_implies, Nat.zero_add, Nat.add_zero, Int.reduceEq, Int.reduceNe, Int.reduceLT, Int.reduceLE, Int.reduceNeg, Int.reduceToNat, Nat.not_lt_zero, Int.reduceAdd, fxs P1.F]
  refine chg_ref (A := aKeep A (cutS (aS A) n (-1) (-1)) (aI A)) (P1.frame (fun a j ha => ?_)) R1.cutS (C.w.cutS (Or.inl rfl)) (fun M3 C3 f3 => ?_)
  · rw [w_ne (by omega), w_ne (by omega)]
  · simp only [wq_g3, wq_gc, wq_g, wq_g1, wq_g2, eP_openCut, iP_openCut_0, vP_openCut, wps, x_cnd, reduceIte, Nat.reduceAdd, Nat.reduceSub, Nat.reduceEqDiff, Nat.reduceLeDiff, Nat.lt_irrefl, Nat.reduceLT, Int.cast_ofNat_Int, wq_c0, wq_c1, true_and, and_true, and_self, true_implies, forall_const, ne_eq, Decidable.not_not, not_true_eq_false, not_false_eq_true, List.map_nil, List.map_cons, List.sum_nil, List.sum_cons, List.length_cons, List.length_nil, Nat.le_refl, Nat.zero_le, reduceCtorEq, true_or, or_true, false_or, or_false, false_and, and_false, false_implies, Nat.zero_add, Nat.add_zero, Int.reduceEq, Int.reduceNe, Int.reduceLT, Int.reduceLE, Int.reduceNeg, Int.reduceToNat, Nat.not_lt_zero, Int.reduceAdd, fxs C3.F]
    rw [C3.V.n]
    refine k M3 h1 C3 ⟨fun a j z1 z2 => ?_, f2⟩
    rw [f3 a j (by omega), w_ne (by omega), w_ne (by omega), f1 a j z2 (by omega)]
theorem cP_removeMark (C : CW A M h) {l : Int} (k : ∀ M' h', CW (dRem A l).2 M' h' → Fr M h M' h' → Φ (xo (dRem A l).1) M' h') : x_Cal zP_removeMark [xA 1, xI l] M h Φ := by
  have hm := C.w.m20
  have hm0 : 0 ≤ mkN (aS A) := cn_rng.1
  unfold dRem at k
  refine x_met0 kP_removeMark (Nat.le_of_ble_eq_true rfl) ?_
  simp only [wq_g3, wq_gc, wq_g, wq_g1, wq_g2, eP_removeMark, iP_removeMark_0, vP_removeMark, wps, x_cnd, reduceIte, Nat.reduceAdd, Nat.reduceSub, Nat.reduceEqDiff, Nat.reduceLeDiff, Nat.lt_irrefl, Nat.reduceLT, Int.cast_ofNat_Int, wq_c0, wq_c1, true_and, and_true, and_self, true_implies, forall_const, ne_eq, Decidable.not_not, not_true_eq_false, not_false_eq_true, List.map_nil, List.map_cons, List.sum_nil, List.sum_cons, List.length_cons, List.length_nil, Nat.le_refl, Nat.zero_le, reduceCtorEq, true_or, or_true, false_or, or_false, false_and, and_false, false_implies, Nat.zero_add, Nat.add_zero, Int.reduceEq, Int.reduceNe, Int.reduceLT, Int.reduceLE, Int.reduceNeg, Int.reduceToNat, Nat.not_lt_zero, Int.reduceAdd, fxs C.F]
  refine cP_requireMark C (fun c0 => ?_) (fun n n1 n2 n3 n4 => ?_)
  · simp only [wq_g3, wq_gc, wq_g, wq_g1, wq_g2, eP_removeMark, iP_removeMark_0, vP_removeMark, wps, x_cnd, reduceIte, Nat.reduceAdd, Nat.reduceSub, Nat.reduceEqDiff, Nat.reduceLeDiff, Nat.lt_irrefl, Nat.reduceLT, Int.cast_ofNat_Int, wq_c0, wq_c1, true_and, and_true, and_self, true_implies, forall_const, ne_eq, Decidable.not_not, not_true_eq_false, not_false_eq_true, List.map_nil, List.map_cons, List.sum_nil, List.sum_cons, List.length_cons, List.length_nil, Nat.le_refl, Nat.zero_le, reduceCtorEq, true_or, or_true, false_or, or_false, false_and, and_false, false_implies, Nat.zero_add, Nat.add_zero, Int.reduceEq, Int.reduceNe, Int.reduceLT, Int.reduceLE, Int.reduceNeg, Int.reduceToNat, Nat.not_lt_zero, Int.reduceAdd]
    rw [if_neg c0] at k
    exact k M h C ⟨fun _ _ _ _ => rfl, Nat.le_refl _⟩
  subst n1
  rw [if_pos ⟨by omega, by omega, n4⟩] at k
  simp only [wq_g3, wq_gc, wq_g, wq_g1, wq_g2, eP_removeMark, iP_removeMark_0, vP_removeMark, wps, x_cnd, reduceIte, Nat.reduceAdd, Nat.reduceSub, Nat.reduceEqDiff, Nat.reduceLeDiff, Nat.lt_irrefl, Nat.reduceLT, Int.cast_ofNat_Int, wq_c0, wq_c1, true_and, and_true, and_self, true_implies, forall_const, ne_eq, Decidable.not_not, not_true_eq_false, not_false_eq_true, List.map_nil, List.map_cons, List.sum_nil, List.sum_cons, List.length_cons, List.length_nil, Nat.le_refl, Nat.zero_le, reduceCtorEq, true_or, or_true, false_or, or_false, false_and, and_false, false_implies, Nat.zero_add, Nat.add_zero, Int.reduceEq, Int.reduceNe, Int.reduceLT, Int.reduceLE, Int.reduceNeg, Int.reduceToNat, Nat.not_lt_zero, Int.reduceAdd, fxs C.F]
  refine chg_keep C (fun M1 h1 P1 R1 f1 f2 => ?_)
  simp only [wq_g3, wq_gc, wq_g, wq_g1, wq_g2, eP_removeMark, iP_removeMark_0, vP_removeMark, wps, x_cnd, reduceIte, Nat.reduceAdd, Nat.reduceSub, Nat.reduceEqDiff, Nat.reduceLeDiff, Nat.lt_irrefl, Nat.reduceLT, Int.cast_ofNat_Int, wq_c0, wq_c1, true_and, and_true, and_self, true_implies, forall_const, ne_eq, Decidable.not_not, not_true_eq_false, not_false_eq_true, List.map_nil, List.map_cons, List.sum_nil, List.sum_cons, List.length_cons, List.length_nil, Nat.le_refl, Nat.zero_le, reduceCtorEq, true_or, or_true, false_or, or_false, false_and, and_false, false_implies, Nat.zero_add, Nat.add_zero, Int.reduceEq, Int.reduceNe, Int.reduceLT, Int.reduceLE, Int.reduceNeg, Int.reduceToNat, Nat.not_lt_zero, Int.reduceAdd, fxs P1.F]
  have e1 : M1 17 2 = mkN (aS A) := R1.m
  have e2 : M1 (17 + 7) n = sM (aS A) n := R1.mk n2 n3
  refine cS_setMark P1.F.s17 n2 n3 (by rw [e1]; omega) ?_
  rw [e1, e2]
  simp only [wq_g3, wq_gc, wq_g, wq_g1, wq_g2, eP_removeMark, iP_removeMark_0, vP_removeMark, wps, x_cnd, reduceIte, Nat.reduceAdd, Nat.reduceSub, Nat.reduceEqDiff, Nat.reduceLeDiff, Nat.lt_irrefl, Nat.reduceLT, Int.cast_ofNat_Int, wq_c0, wq_c1, true_and, and_true, and_self, true_implies, forall_const, ne_eq, Decidable.not_not, not_true_eq_false, not_false_eq_true, List.map_nil, List.map_cons, List.sum_nil, List.sum_cons, List.length_cons, List.length_nil, Nat.le_refl, Nat.zero_le, reduceCtorEq, true_or, or_true, false_or, or_false, false_and, and_false, false_implies, Nat.zero_add, Nat.add_zero, Int.reduceEq, Int.reduceNe, Int.reduceLT, Int.reduceLE, Int.reduceNeg, Int.reduceToNat, Nat.not_lt_zero, Int.reduceAdd, fxs P1.F]
  refine chg_ref (A := aKeep A (markS (aS A) n (-1)) (aI A)) (P1.frame (fun a j ha => ?_)) (R1.markS n2 n3) (C.w.markS n2 n3 (fun q => absurd rfl q) (Or.inl rfl) (fun _ _ _ _ q => absurd rfl q)) (fun M3 C3 f3 => ?_)
  · rw [w_ne (by omega), w_ne (by omega)]
  · simp only [wq_g3, wq_gc, wq_g, wq_g1, wq_g2, eP_removeMark, iP_removeMark_0, vP_removeMark, wps, x_cnd, reduceIte, Nat.reduceAdd, Nat.reduceSub, Nat.reduceEqDiff, Nat.reduceLeDiff, Nat.lt_irrefl, Nat.reduceLT, Int.cast_ofNat_Int, wq_c0, wq_c1, true_and, and_true, and_self, true_implies, forall_const, ne_eq, Decidable.not_not, not_true_eq_false, not_false_eq_true, List.map_nil, List.map_cons, List.sum_nil, List.sum_cons, List.length_cons, List.length_nil, Nat.le_refl, Nat.zero_le, reduceCtorEq, true_or, or_true, false_or, or_false, false_and, and_false, false_implies, Nat.zero_add, Nat.add_zero, Int.reduceEq, Int.reduceNe, Int.reduceLT, Int.reduceLE, Int.reduceNeg, Int.reduceToNat, Nat.not_lt_zero, Int.reduceAdd, fxs C3.F]
    have e3 : M3 17 2 = mkN (markS (aS A) n (-1)) := C3.R.m
    rw [e3]
    refine k M3 h1 C3 ⟨fun a j z1 z2 => ?_, f2⟩
    rw [f3 a j (by omega), w_ne (by omega), w_ne (by omega), f1 a j z2 (by omega)]
theorem cP_putMark (C : CW A M h) {l b : Int} (k : ∀ M' h', CW (dPut A l b).2 M' h' → Fr M h M' h' → Φ (xo (dPut A l b).1) M' h') : x_Cal zP_putMark [xA 1, xI l, xI b] M h Φ := by
  have hN := C.w.N
  have hm := C.w.m20
  have hm0 : 0 ≤ mkN (aS A) := cn_rng.1
  have e0 : M 17 2 = mkN (aS A) := C.R.m
  unfold dPut at k
  refine x_met0 kP_putMark (Nat.le_of_ble_eq_true rfl) ?_
  simp only [wq_g3, wq_gc, wq_g, wq_g1, wq_g2, eP_putMark, iP_putMark_0, iP_putMark_17, iP_putMark_25, iP_putMark_51, iP_putMark_52, iP_putMark_81, iP_putMark_82, iP_putMark_94, iP_putMark_102, vP_putMark, wps, x_cnd, reduceIte, Nat.reduceAdd, Nat.reduceSub, Nat.reduceEqDiff, Nat.reduceLeDiff, Nat.lt_irrefl, Nat.reduceLT, Int.cast_ofNat_Int, wq_c0, wq_c1, true_and, and_true, and_self, true_implies, forall_const, ne_eq, Decidable.not_not, not_true_eq_false, not_false_eq_true, List.map_nil, List.map_cons, List.sum_nil, List.sum_cons, List.length_cons, List.length_nil, Nat.le_refl, Nat.zero_le, reduceCtorEq, true_or, or_true, false_or, or_false, false_and, and_false, false_implies, Nat.zero_add, Nat.add_zero, Int.reduceEq, Int.reduceNe, Int.reduceLT, Int.reduceLE, Int.reduceNeg, Int.reduceToNat, Nat.not_lt_zero, Int.reduceAdd, fxs C.F]
  refine cP_requirePlace C (fun c1 => ?_) (fun p p1 p2 p3 => ?_)
  · simp only [wq_g3, wq_gc, wq_g, wq_g1, wq_g2, eP_putMark, iP_putMark_0, iP_putMark_17, iP_putMark_25, iP_putMark_51, iP_putMark_52, iP_putMark_81, iP_putMark_82, iP_putMark_94, iP_putMark_102, vP_putMark, wps, x_cnd, reduceIte, Nat.reduceAdd, Nat.reduceSub, Nat.reduceEqDiff, Nat.reduceLeDiff, Nat.lt_irrefl, Nat.reduceLT, Int.cast_ofNat_Int, wq_c0, wq_c1, true_and, and_true, and_self, true_implies, forall_const, ne_eq, Decidable.not_not, not_true_eq_false, not_false_eq_true, List.map_nil, List.map_cons, List.sum_nil, List.sum_cons, List.length_cons, List.length_nil, Nat.le_refl, Nat.zero_le, reduceCtorEq, true_or, or_true, false_or, or_false, false_and, and_false, false_implies, Nat.zero_add, Nat.add_zero, Int.reduceEq, Int.reduceNe, Int.reduceLT, Int.reduceLE, Int.reduceNeg, Int.reduceToNat, Nat.not_lt_zero, Int.reduceAdd]
    rw [if_pos c1] at k
    exact k M h C ⟨fun _ _ _ _ => rfl, Nat.le_refl _⟩
  rw [if_neg (by omega), p2] at k
  have e1 := C.V.sit p1
  simp only [wq_g3, wq_gc, wq_g, wq_g1, wq_g2, eP_putMark, iP_putMark_0, iP_putMark_17, iP_putMark_25, iP_putMark_51, iP_putMark_52, iP_putMark_81, iP_putMark_82, iP_putMark_94, iP_putMark_102, vP_putMark, wps, x_cnd, reduceIte, Nat.reduceAdd, Nat.reduceSub, Nat.reduceEqDiff, Nat.reduceLeDiff, Nat.lt_irrefl, Nat.reduceLT, Int.cast_ofNat_Int, wq_c0, wq_c1, true_and, and_true, and_self, true_implies, forall_const, ne_eq, Decidable.not_not, not_true_eq_false, not_false_eq_true, List.map_nil, List.map_cons, List.sum_nil, List.sum_cons, List.length_cons, List.length_nil, Nat.le_refl, Nat.zero_le, reduceCtorEq, true_or, or_true, false_or, or_false, false_and, and_false, false_implies, Nat.zero_add, Nat.add_zero, Int.reduceEq, Int.reduceNe, Int.reduceLT, Int.reduceLE, Int.reduceNeg, Int.reduceToNat, Nat.not_lt_zero, Int.reduceAdd, fxs C.F, e1, e0]
  refine ⟨fun c0 => ?_, fun c0 => ⟨fun c1 => ?_, fun c1 => ?_⟩⟩
  · rw [if_pos (by omega)] at k
    exact k M h C ⟨fun _ _ _ _ => rfl, Nat.le_refl _⟩
  rotate_left
  · rw [if_pos (by omega)] at k
    exact k M h C ⟨fun _ _ _ _ => rfl, Nat.le_refl _⟩
  rw [if_neg (by omega)] at k
  obtain ⟨l', hl⟩ : ∃ l' : Nat, l = l' := ⟨l.toNat, by omega⟩
  subst hl
  have es : sit (aS A) p = l' ↔ sM (aS A) l' = sI (aS A) p := sit_iff C.w p1 (by omega) (by omega)
  have tail : ¬ ((sit (aS A) p ≠ 0 ∧ sit (aS A) p ≠ l') ∨ (20 ≤ mkN (aS A) ∧ sM (aS A) l' = -1)) → ∀ (ls : xL) (f : Nat), ls 0 = some (xA 1) → ls 1 = some (xI l') → ls 2 = some (xI b) → x_Cal zH_keep [xA 37, xA 17] M h (x_k x_Cal (12, 1736, 1, x_sc0) (wpG x_Cal (12, 1736, 1, x_sc0) bP_putMark (fun _ _ _ _ _ _ _ => False) Φ f) Φ (iP_putMark_102.drop 5) ls [] 12 1736) := by
    intro hok ls f l0 l1 l2
    rw [if_neg hok] at k
    refine chg_keep C (fun M1 h1 P1 R1 f1 f2 => ?_)
    simp only [iP_putMark_102, List.drop_succ_cons, List.drop_zero]
    have e1 : M1 17 2 = mkN (aS A) := R1.m
    have e2 : M1 (17 + 7) l' = sM (aS A) l' := R1.mk (by omega) (by omega)
    have e3 : M1 24 l' = sM (aS A) l' := e2
    simp only [wq_g3, wq_gc, wq_g, wq_g1, wq_g2, eP_putMark, iP_putMark_0, iP_putMark_17, iP_putMark_25, iP_putMark_51, iP_putMark_52, iP_putMark_81, iP_putMark_82, iP_putMark_94, iP_putMark_102, vP_putMark, wps, x_cnd, reduceIte, Nat.reduceAdd, Nat.reduceSub, Nat.reduceEqDiff, Nat.reduceLeDiff, Nat.lt_irrefl, Nat.reduceLT, Int.cast_ofNat_Int, wq_c0, wq_c1, true_and, and_true, and_self, true_implies, forall_const, ne_eq, Decidable.not_not, not_true_eq_false, not_false_eq_true, List.map_nil, List.map_cons, List.sum_nil, List.sum_cons, List.length_cons, List.length_nil, Nat.le_refl, Nat.zero_le, reduceCtorEq, true_or, or_true, false_or, or_false, false_and, and_false, false_implies, Nat.zero_add, Nat.add_zero, Int.reduceEq, Int.reduceNe, Int.reduceLT, Int.reduceLE, Int.reduceNeg, Int.reduceToNat, Nat.not_lt_zero, Int.reduceAdd, fxs P1.F, l0, l1, l2, e3]
    refine ⟨by omega, cS_setMark P1.F.s17 (by omega) (by omega) (by rw [e1]; omega) ?_⟩
    rw [e1, e2]
    simp only [wq_g3, wq_gc, wq_g, wq_g1, wq_g2, eP_putMark, iP_putMark_0, iP_putMark_17, iP_putMark_25, iP_putMark_51, iP_putMark_52, iP_putMark_81, iP_putMark_82, iP_putMark_94, iP_putMark_102, vP_putMark, wps, x_cnd, reduceIte, Nat.reduceAdd, Nat.reduceSub, Nat.reduceEqDiff, Nat.reduceLeDiff, Nat.lt_irrefl, Nat.reduceLT, Int.cast_ofNat_Int, wq_c0, wq_c1, true_and, and_true, and_self, true_implies, forall_const, ne_eq, Decidable.not_not, not_true_eq_false, not_false_eq_true, List.map_nil, List.map_cons, List.sum_nil, List.sum_cons, List.length_cons, List.length_nil, Nat.le_refl, Nat.zero_le, reduceCtorEq, true_or, or_true, false_or, or_false, false_and, and_false, false_implies, Nat.zero_add, Nat.add_zero, Int.reduceEq, Int.reduceNe, Int.reduceLT, Int.reduceLE, Int.reduceNeg, Int.reduceToNat, Nat.not_lt_zero, Int.reduceAdd, fxs P1.F, l0, l1, l2, e3]
    refine chg_ref (A := aKeep A (markS (aS A) l' b) (aI A)) (P1.frame (fun a j ha => ?_)) (R1.markS (by omega) (by omega)) (C.w.markS (by omega) (by omega) (fun _ => by omega) (Or.inr ⟨p, p1, p3⟩) (fun j j1 j2 hne _ he => ?_)) (fun M3 C3 f3 => ?_)
    · rw [w_ne (by omega), w_ne (by omega)]
    · have := (sit_iff C.w p1 j1 j2).mpr (he.trans p3.symm)
      omega
    · simp only [wq_g3, wq_gc, wq_g, wq_g1, wq_g2, eP_putMark, iP_putMark_0, iP_putMark_17, iP_putMark_25, iP_putMark_51, iP_putMark_52, iP_putMark_81, iP_putMark_82, iP_putMark_94, iP_putMark_102, vP_putMark, wps, x_cnd, reduceIte, Nat.reduceAdd, Nat.reduceSub, Nat.reduceEqDiff, Nat.reduceLeDiff, Nat.lt_irrefl, Nat.reduceLT, Int.cast_ofNat_Int, wq_c0, wq_c1, true_and, and_true, and_self, true_implies, forall_const, ne_eq, Decidable.not_not, not_true_eq_false, not_false_eq_true, List.map_nil, List.map_cons, List.sum_nil, List.sum_cons, List.length_cons, List.length_nil, Nat.le_refl, Nat.zero_le, reduceCtorEq, true_or, or_true, false_or, or_false, false_and, and_false, false_implies, Nat.zero_add, Nat.add_zero, Int.reduceEq, Int.reduceNe, Int.reduceLT, Int.reduceLE, Int.reduceNeg, Int.reduceToNat, Nat.not_lt_zero, Int.reduceAdd, l0, l1, l2]
      refine k M3 h1 C3 ⟨fun a j z1 z2 => ?_, f2⟩
      rw [f3 a j (by omega), w_ne (by omega), w_ne (by omega), f1 a j z2 (by omega)]
  have e4 : M (17 + 7) l' = sM (aS A) l' := C.R.mk (by omega) (by omega)
  have hb : b01 (1 ≤ (l' : Int) ∧ (l' : Int) ≤ 40 ∧ M (17 + 7) l' ≠ -1) = b01 (sM (aS A) l' ≠ -1) := b01_c (by rw [e4]; omega)
  have kbad : ((sit (aS A) p ≠ 0 ∧ sit (aS A) p ≠ l') ∨ (20 ≤ mkN (aS A) ∧ sM (aS A) l' = -1)) → Φ (.inr 0) M h := fun hbad => by
    rw [if_pos hbad] at k
    exact k M h C ⟨fun _ _ _ _ => rfl, Nat.le_refl _⟩
  refine ⟨by omega, fun d0 => ⟨fun d1 => ?_, fun d1 => ?_⟩, fun d0 => ⟨fun d1 => ⟨fun d2 => ?_, fun d2 => ?_⟩, fun d1 => ⟨fun d2 => ?_, fun d2 => ?_⟩⟩⟩
  · exact tail (by omega) _ 13 rfl rfl rfl
  · refine cS_hasMark C.F.s17 ?_
    rw [hb]
    simp only [wq_g3, wq_gc, wq_g, wq_g1, wq_g2, eP_putMark, iP_putMark_0, iP_putMark_17, iP_putMark_25, iP_putMark_51, iP_putMark_52, iP_putMark_81, iP_putMark_82, iP_putMark_94, iP_putMark_102, vP_putMark, wps, x_cnd, reduceIte, Nat.reduceAdd, Nat.reduceSub, Nat.reduceEqDiff, Nat.reduceLeDiff, Nat.lt_irrefl, Nat.reduceLT, Int.cast_ofNat_Int, wq_c0, wq_c1, true_and, and_true, and_self, true_implies, forall_const, ne_eq, Decidable.not_not, not_true_eq_false, not_false_eq_true, List.map_nil, List.map_cons, List.sum_nil, List.sum_cons, List.length_cons, List.length_nil, Nat.le_refl, Nat.zero_le, reduceCtorEq, true_or, or_true, false_or, or_false, false_and, and_false, false_implies, Nat.zero_add, Nat.add_zero, Int.reduceEq, Int.reduceNe, Int.reduceLT, Int.reduceLE, Int.reduceNeg, Int.reduceToNat, Nat.not_lt_zero, Int.reduceAdd, fxs C.F, b01_0]
    exact ⟨fun d3 => tail (by omega) _ 13 rfl rfl rfl, fun d3 => kbad (by omega)⟩
  · exact tail (by omega) _ 13 rfl rfl rfl
  · refine cS_hasMark C.F.s17 ?_
    rw [hb]
    simp only [wq_g3, wq_gc, wq_g, wq_g1, wq_g2, eP_putMark, iP_putMark_0, iP_putMark_17, iP_putMark_25, iP_putMark_51, iP_putMark_52, iP_putMark_81, iP_putMark_82, iP_putMark_94, iP_putMark_102, vP_putMark, wps, x_cnd, reduceIte, Nat.reduceAdd, Nat.reduceSub, Nat.reduceEqDiff, Nat.reduceLeDiff, Nat.lt_irrefl, Nat.reduceLT, Int.cast_ofNat_Int, wq_c0, wq_c1, true_and, and_true, and_self, true_implies, forall_const, ne_eq, Decidable.not_not, not_true_eq_false, not_false_eq_true, List.map_nil, List.map_cons, List.sum_nil, List.sum_cons, List.length_cons, List.length_nil, Nat.le_refl, Nat.zero_le, reduceCtorEq, true_or, or_true, false_or, or_false, false_and, and_false, false_implies, Nat.zero_add, Nat.add_zero, Int.reduceEq, Int.reduceNe, Int.reduceLT, Int.reduceLE, Int.reduceNeg, Int.reduceToNat, Nat.not_lt_zero, Int.reduceAdd, fxs C.F, b01_0]
    exact ⟨fun d3 => tail (by omega) _ 13 rfl rfl rfl, fun d3 => kbad (by omega)⟩
  · exact kbad (by omega)
  · refine cS_hasMark C.F.s17 ?_
    rw [hb]
    simp only [wq_g3, wq_gc, wq_g, wq_g1, wq_g2, eP_putMark, iP_putMark_0, iP_putMark_17, iP_putMark_25, iP_putMark_51, iP_putMark_52, iP_putMark_81, iP_putMark_82, iP_putMark_94, iP_putMark_102, vP_putMark, wps, x_cnd, reduceIte, Nat.reduceAdd, Nat.reduceSub, Nat.reduceEqDiff, Nat.reduceLeDiff, Nat.lt_irrefl, Nat.reduceLT, Int.cast_ofNat_Int, wq_c0, wq_c1, true_and, and_true, and_self, true_implies, forall_const, ne_eq, Decidable.not_not, not_true_eq_false, not_false_eq_true, List.map_nil, List.map_cons, List.sum_nil, List.sum_cons, List.length_cons, List.length_nil, Nat.le_refl, Nat.zero_le, reduceCtorEq, true_or, or_true, false_or, or_false, false_and, and_false, false_implies, Nat.zero_add, Nat.add_zero, Int.reduceEq, Int.reduceNe, Int.reduceLT, Int.reduceLE, Int.reduceNeg, Int.reduceToNat, Nat.not_lt_zero, Int.reduceAdd, fxs C.F, b01_0]
    exact ⟨fun d3 => kbad (by omega), fun d3 => kbad (by omega)⟩
end MRK
