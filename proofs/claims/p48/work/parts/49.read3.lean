/-! the reader: statements -/
section RST
variable {B : Int → Int} {n x : Nat} {l : Bool} {R : xRd} {M0 M : xM} {h : xH} {Φ : xO → xM → xH → Prop}
set_option maxHeartbeats 1000000
theorem RA.upd (A : RA B n M0 h x l R M) {R' : xRd} {M' : xM} (f : ∀ a j, (a < 3 ∨ a = 14 ∨ 15 < a) → ¬ (a = 2 ∧ j = 6) → M' a j = M a j) (D : repC (rS R') M' h 3) (h6 : M' 2 6 = rC R') (N : NM B R' M') (W : wfR R') : RA B n M0 h x l R' M' := by
  obtain ⟨⟨T, Z⟩, ⟨K, hx⟩, -, -, -, e1, e2⟩ := A
  refine ⟨⟨⟨?_, T.2.1, fun i hi => ?_⟩, fun a j ha => ?_, ?_⟩, ⟨⟨?_, ?_, ?_, fun q => ?_⟩, hx⟩, ⟨D, h6⟩, N, W, ?_, ?_⟩
  · rw [f 2 5 (by decide) (by decide)]
    exact T.1
  · rw [f 14 i (by omega) (by omega)]
    exact T.2.2 i hi
  · rw [f a j (by omega) (by omega)]
    exact Z.1 a j ha
  · rw [f 2 3 (by decide) (by decide)]
    exact Z.2
  · rw [f 2 8 (by decide) (by decide)]
    exact K.1
  · rw [f 2 9 (by decide) (by decide)]
    exact K.2.1
  · rw [f 2 10 (by decide) (by decide)]
    exact K.2.2.1
  · rw [f 2 11 (by decide) (by decide)]
    exact K.2.2.2 q
  · rw [f 2 1 (by decide) (by decide)]
    exact e1
  · rw [f 2 2 (by decide) (by decide)]
    exact e2
theorem RA.D (A : RA B n M0 h x l R M) : repC (rS R) M h 3 := A.2.2.1.1
theorem RA.W (A : RA B n M0 h x l R M) : wfR R := A.2.2.2.2.1
theorem RA.N (A : RA B n M0 h x l R M) : NM B R M := A.2.2.2.1
theorem RA.c6 (A : RA B n M0 h x l R M) : M 2 6 = rC R := A.2.2.1.2
theorem cR_readBars (F : Fx h) (A : RA B n M0 h x l R M) (hk : kin B n x l = 1) (k : rOut B n M0 h Φ (pBars B n (ten B n x) R)) : x_Cal zR_readBars [xA 2] M h Φ := by
  have hN := A.W.1.N
  unfold pBars at k
  refine x_met0 kR_readBars (Nat.le_of_ble_eq_true rfl) ?_
  simp only [wq_g3, wq_gc, wq_g, wq_g1, wq_g2, eR_readBars, iR_readBars_0, iR_readBars_15, iR_readBars_41, iR_readBars_66, iR_readBars_75, vR_readBars, wps, x_cnd, reduceIte, Nat.reduceAdd, Nat.reduceSub, Nat.reduceEqDiff, Nat.reduceLeDiff, Nat.lt_irrefl, Nat.reduceLT, Int.cast_ofNat_Int, wq_c0, wq_c1, true_and, and_true, and_self, true_implies, forall_const, ne_eq, Decidable.not_not, not_true_eq_false, not_false_eq_true, List.map_nil, List.map_cons, List.sum_nil, List.sum_cons, List.length_cons, List.length_nil, Nat.le_refl, Nat.zero_le, reduceCtorEq, true_or, or_true, false_or, or_false, false_and, and_false, false_implies, Nat.zero_add, Nat.add_zero, Int.reduceEq, Int.reduceNe, Int.reduceLT, Int.reduceLE, Int.reduceNeg, Int.reduceToNat, Nat.not_lt_zero, Int.reduceAdd, fxs F]
  refine cR_nxt F A (l' := true) (by rw [hk]; decide) (fun M1 A1 => ?_)
  simp only [wq_g3, wq_gc, wq_g, wq_g1, wq_g2, eR_readBars, iR_readBars_0, iR_readBars_15, iR_readBars_41, iR_readBars_66, iR_readBars_75, vR_readBars, wps, x_cnd, reduceIte, Nat.reduceAdd, Nat.reduceSub, Nat.reduceEqDiff, Nat.reduceLeDiff, Nat.lt_irrefl, Nat.reduceLT, Int.cast_ofNat_Int, wq_c0, wq_c1, true_and, and_true, and_self, true_implies, forall_const, ne_eq, Decidable.not_not, not_true_eq_false, not_false_eq_true, List.map_nil, List.map_cons, List.sum_nil, List.sum_cons, List.length_cons, List.length_nil, Nat.le_refl, Nat.zero_le, reduceCtorEq, true_or, or_true, false_or, or_false, false_and, and_false, false_implies, Nat.zero_add, Nat.add_zero, Int.reduceEq, Int.reduceNe, Int.reduceLT, Int.reduceLE, Int.reduceNeg, Int.reduceToNat, Nat.not_lt_zero, Int.reduceAdd, fxs F]
  refine cR_isNumberUpTo F A1 (fun c0 M' fl => ?_) (fun c0 g1 g2 g3 g4 g5 => ?_)
  · rw [if_pos c0] at k
    simp only [wq_g3, wq_gc, wq_g, wq_g1, wq_g2, eR_readBars, iR_readBars_0, iR_readBars_15, iR_readBars_41, iR_readBars_66, iR_readBars_75, vR_readBars, wps, x_cnd, reduceIte, Nat.reduceAdd, Nat.reduceSub, Nat.reduceEqDiff, Nat.reduceLeDiff, Nat.lt_irrefl, Nat.reduceLT, Int.cast_ofNat_Int, wq_c0, wq_c1, true_and, and_true, and_self, true_implies, forall_const, ne_eq, Decidable.not_not, not_true_eq_false, not_false_eq_true, List.map_nil, List.map_cons, List.sum_nil, List.sum_cons, List.length_cons, List.length_nil, Nat.le_refl, Nat.zero_le, reduceCtorEq, true_or, or_true, false_or, or_false, false_and, and_false, false_implies, Nat.zero_add, Nat.add_zero, Int.reduceEq, Int.reduceNe, Int.reduceLT, Int.reduceLE, Int.reduceNeg, Int.reduceToNat, Nat.not_lt_zero, Int.reduceAdd, fxs F]
    exact k M' fl
  have e0 : M1 3 0 = sN (rS R) := A1.D.n
  obtain ⟨v, hv⟩ : ∃ v : Nat, tnv B n (ten B n x) = v := ⟨(tnv B n (ten B n x)).toNat, by omega⟩
  rw [hv] at k g2 g3 g4 g5
  rw [if_neg (fun q => q c0), Int.toNat_natCast] at k
  simp only [wq_g3, wq_gc, wq_g, wq_g1, wq_g2, eR_readBars, iR_readBars_0, iR_readBars_15, iR_readBars_41, iR_readBars_66, iR_readBars_75, vR_readBars, wps, x_cnd, reduceIte, Nat.reduceAdd, Nat.reduceSub, Nat.reduceEqDiff, Nat.reduceLeDiff, Nat.lt_irrefl, Nat.reduceLT, Int.cast_ofNat_Int, wq_c0, wq_c1, true_and, and_true, and_self, true_implies, forall_const, ne_eq, Decidable.not_not, not_true_eq_false, not_false_eq_true, List.map_nil, List.map_cons, List.sum_nil, List.sum_cons, List.length_cons, List.length_nil, Nat.le_refl, Nat.zero_le, reduceCtorEq, true_or, or_true, false_or, or_false, false_and, and_false, false_implies, Nat.zero_add, Nat.add_zero, Int.reduceEq, Int.reduceNe, Int.reduceLT, Int.reduceLE, Int.reduceNeg, Int.reduceToNat, Nat.not_lt_zero, Int.reduceAdd, fxs F, g5, e0]
  simp (disch := omega) only [w32_of]
  refine ⟨fun c1 => ?_, fun c1 => ?_⟩
  · rw [if_neg (by omega)] at k
    refine cR_nxt F A1 (l' := true) (by rw [g1]; decide) (fun M2 A2 => ?_)
    have e1 : M2 3 0 = sN (rS R) := A2.D.n
    have e8 := A2.2.1.1.1
    simp only [wq_g3, wq_gc, wq_g, wq_g1, wq_g2, eR_readBars, iR_readBars_0, iR_readBars_15, iR_readBars_41, iR_readBars_66, iR_readBars_75, vR_readBars, wps, x_cnd, reduceIte, Nat.reduceAdd, Nat.reduceSub, Nat.reduceEqDiff, Nat.reduceLeDiff, Nat.lt_irrefl, Nat.reduceLT, Int.cast_ofNat_Int, wq_c0, wq_c1, true_and, and_true, and_self, true_implies, forall_const, ne_eq, Decidable.not_not, not_true_eq_false, not_false_eq_true, List.map_nil, List.map_cons, List.sum_nil, List.sum_cons, List.length_cons, List.length_nil, Nat.le_refl, Nat.zero_le, reduceCtorEq, true_or, or_true, false_or, or_false, false_and, and_false, false_implies, Nat.zero_add, Nat.add_zero, Int.reduceEq, Int.reduceNe, Int.reduceLT, Int.reduceLE, Int.reduceNeg, Int.reduceToNat, Nat.not_lt_zero, Int.reduceAdd, fxs F, e8, e1]
    have fin : ∀ (b : Int) (y : Nat) (M3 : xM), 1 ≤ b → b ≤ 12 → RA B n M0 h y true R M3 → rOut B n M0 h Φ (.inr (y, true, addS (rS R) v b, rM R, rC R, rN R)) → Φ (.inl (some (xI 1))) (x_w (adM (mvM M3 3 (sN (rS R)) (sN (rS R) + v) ((sN (rS R) - sN (rS R) : Nat) : Int)) 3 (sN (rS R)) v (sN (rS R)) b 0) 3 0 (sN (rS R) + v)) h := fun b y M3 b1 b2 A3 k3 => by
      refine k3 _ (A3.upd (fun a j ha hb => ?_) (rC_add3 A3.D A3.W.2.1 (by omega)) ?_ ?_ (wfR_add A3.W (by omega) ⟨b1, b2⟩))
      · rw [w_ne (by omega), ad3_o (by omega)]
      · rw [w_ne (by omega), ad3_o (by omega)]
        exact A3.c6
      · exact A3.N.mv (fun j => by rw [w_ne (by omega), ad3_o (by omega)])
    refine ⟨fun c2 => ?_, fun c2 => ?_⟩
    · rw [if_neg c2] at k
      refine cS_addBars F.s3 (t := sN (rS R)) (N := sN (rS R)) (c := v) e1 (by omega) (Nat.le_refl _) (by omega) ?_
      simp only [wq_g3, wq_gc, wq_g, wq_g1, wq_g2, eR_readBars, iR_readBars_0, iR_readBars_15, iR_readBars_41, iR_readBars_66, iR_readBars_75, vR_readBars, wps, x_cnd, reduceIte, Nat.reduceAdd, Nat.reduceSub, Nat.reduceEqDiff, Nat.reduceLeDiff, Nat.lt_irrefl, Nat.reduceLT, Int.cast_ofNat_Int, wq_c0, wq_c1, true_and, and_true, and_self, true_implies, forall_const, ne_eq, Decidable.not_not, not_true_eq_false, not_false_eq_true, List.map_nil, List.map_cons, List.sum_nil, List.sum_cons, List.length_cons, List.length_nil, Nat.le_refl, Nat.zero_le, reduceCtorEq, true_or, or_true, false_or, or_false, false_and, and_false, false_implies, Nat.zero_add, Nat.add_zero, Int.reduceEq, Int.reduceNe, Int.reduceLT, Int.reduceLE, Int.reduceNeg, Int.reduceToNat, Nat.not_lt_zero, Int.reduceAdd, fxs F]
      exact fin 4 _ _ (by decide) (by decide) A2 k
    · rw [if_pos c2] at k
      refine cR_isNumberUpTo F A2 (fun c3 M' fl => ?_) (fun c3 i1 i2 i3 i4 i5 => ?_)
      · rw [if_pos c3] at k
        simp only [wq_g3, wq_gc, wq_g, wq_g1, wq_g2, eR_readBars, iR_readBars_0, iR_readBars_15, iR_readBars_41, iR_readBars_66, iR_readBars_75, vR_readBars, wps, x_cnd, reduceIte, Nat.reduceAdd, Nat.reduceSub, Nat.reduceEqDiff, Nat.reduceLeDiff, Nat.lt_irrefl, Nat.reduceLT, Int.cast_ofNat_Int, wq_c0, wq_c1, true_and, and_true, and_self, true_implies, forall_const, ne_eq, Decidable.not_not, not_true_eq_false, not_false_eq_true, List.map_nil, List.map_cons, List.sum_nil, List.sum_cons, List.length_cons, List.length_nil, Nat.le_refl, Nat.zero_le, reduceCtorEq, true_or, or_true, false_or, or_false, false_and, and_false, false_implies, Nat.zero_add, Nat.add_zero, Int.reduceEq, Int.reduceNe, Int.reduceLT, Int.reduceLE, Int.reduceNeg, Int.reduceToNat, Nat.not_lt_zero, Int.reduceAdd, fxs F]
        exact k M' fl
      · rw [if_neg (fun q => q c3)] at k
        simp only [wq_g3, wq_gc, wq_g, wq_g1, wq_g2, eR_readBars, iR_readBars_0, iR_readBars_15, iR_readBars_41, iR_readBars_66, iR_readBars_75, vR_readBars, wps, x_cnd, reduceIte, Nat.reduceAdd, Nat.reduceSub, Nat.reduceEqDiff, Nat.reduceLeDiff, Nat.lt_irrefl, Nat.reduceLT, Int.cast_ofNat_Int, wq_c0, wq_c1, true_and, and_true, and_self, true_implies, forall_const, ne_eq, Decidable.not_not, not_true_eq_false, not_false_eq_true, List.map_nil, List.map_cons, List.sum_nil, List.sum_cons, List.length_cons, List.length_nil, Nat.le_refl, Nat.zero_le, reduceCtorEq, true_or, or_true, false_or, or_false, false_and, and_false, false_implies, Nat.zero_add, Nat.add_zero, Int.reduceEq, Int.reduceNe, Int.reduceLT, Int.reduceLE, Int.reduceNeg, Int.reduceToNat, Nat.not_lt_zero, Int.reduceAdd, fxs F, i5]
        refine cR_nxt F A2 (l' := true) (by rw [i1]; decide) (fun M3 A3 => ?_)
        have e2 : M3 3 0 = sN (rS R) := A3.D.n
        simp only [wq_g3, wq_gc, wq_g, wq_g1, wq_g2, eR_readBars, iR_readBars_0, iR_readBars_15, iR_readBars_41, iR_readBars_66, iR_readBars_75, vR_readBars, wps, x_cnd, reduceIte, Nat.reduceAdd, Nat.reduceSub, Nat.reduceEqDiff, Nat.reduceLeDiff, Nat.lt_irrefl, Nat.reduceLT, Int.cast_ofNat_Int, wq_c0, wq_c1, true_and, and_true, and_self, true_implies, forall_const, ne_eq, Decidable.not_not, not_true_eq_false, not_false_eq_true, List.map_nil, List.map_cons, List.sum_nil, List.sum_cons, List.length_cons, List.length_nil, Nat.le_refl, Nat.zero_le, reduceCtorEq, true_or, or_true, false_or, or_false, false_and, and_false, false_implies, Nat.zero_add, Nat.add_zero, Int.reduceEq, Int.reduceNe, Int.reduceLT, Int.reduceLE, Int.reduceNeg, Int.reduceToNat, Nat.not_lt_zero, Int.reduceAdd, fxs F, e2]
        refine cS_addBars F.s3 (t := sN (rS R)) (N := sN (rS R)) (c := v) e2 (by omega) (Nat.le_refl _) (by omega) ?_
        simp only [wq_g3, wq_gc, wq_g, wq_g1, wq_g2, eR_readBars, iR_readBars_0, iR_readBars_15, iR_readBars_41, iR_readBars_66, iR_readBars_75, vR_readBars, wps, x_cnd, reduceIte, Nat.reduceAdd, Nat.reduceSub, Nat.reduceEqDiff, Nat.reduceLeDiff, Nat.lt_irrefl, Nat.reduceLT, Int.cast_ofNat_Int, wq_c0, wq_c1, true_and, and_true, and_self, true_implies, forall_const, ne_eq, Decidable.not_not, not_true_eq_false, not_false_eq_true, List.map_nil, List.map_cons, List.sum_nil, List.sum_cons, List.length_cons, List.length_nil, Nat.le_refl, Nat.zero_le, reduceCtorEq, true_or, or_true, false_or, or_false, false_and, and_false, false_implies, Nat.zero_add, Nat.add_zero, Int.reduceEq, Int.reduceNe, Int.reduceLT, Int.reduceLE, Int.reduceNeg, Int.reduceToNat, Nat.not_lt_zero, Int.reduceAdd, fxs F]
        exact fin _ _ _ i2 i3 A3 k
  · rw [if_pos (by omega)] at k
    refine cR_fail F A1 (fun M' fl => ?_)
    simp only [wq_g3, wq_gc, wq_g, wq_g1, wq_g2, eR_readBars, iR_readBars_0, iR_readBars_15, iR_readBars_41, iR_readBars_66, iR_readBars_75, vR_readBars, wps, x_cnd, reduceIte, Nat.reduceAdd, Nat.reduceSub, Nat.reduceEqDiff, Nat.reduceLeDiff, Nat.lt_irrefl, Nat.reduceLT, Int.cast_ofNat_Int, wq_c0, wq_c1, true_and, and_true, and_self, true_implies, forall_const, ne_eq, Decidable.not_not, not_true_eq_false, not_false_eq_true, List.map_nil, List.map_cons, List.sum_nil, List.sum_cons, List.length_cons, List.length_nil, Nat.le_refl, Nat.zero_le, reduceCtorEq, true_or, or_true, false_or, or_false, false_and, and_false, false_implies, Nat.zero_add, Nat.add_zero, Int.reduceEq, Int.reduceNe, Int.reduceLT, Int.reduceLE, Int.reduceNeg, Int.reduceToNat, Nat.not_lt_zero, Int.reduceAdd, fxs F]
    exact k M' fl
theorem cR_readFlag (F : Fx h) (A : RA B n M0 h x l R M) (hk : kin B n x l = 1) {w : Int} {a : Nat} (hw : (w = 4 ∧ a = 7) ∨ (w = 5 ∧ a = 8)) (k : rOut B n M0 h Φ (pFlag B n (ten B n x) w R)) : x_Cal zR_readFlag [xA 2, xA a] M h Φ := by
  have hN := A.W.1.N
  unfold pFlag at k
  refine x_met0 kR_readFlag (Nat.le_of_ble_eq_true rfl) ?_
  simp only [wq_g3, wq_gc, wq_g, wq_g1, wq_g2, eR_readFlag, iR_readFlag_0, iR_readFlag_20, vR_readFlag, wps, x_cnd, reduceIte, Nat.reduceAdd, Nat.reduceSub, Nat.reduceEqDiff, Nat.reduceLeDiff, Nat.lt_irrefl, Nat.reduceLT, Int.cast_ofNat_Int, wq_c0, wq_c1, true_and, and_true, and_self, true_implies, forall_const, ne_eq, Decidable.not_not, not_true_eq_false, not_false_eq_true, List.map_nil, List.map_cons, List.sum_nil, List.sum_cons, List.length_cons, List.length_nil, Nat.le_refl, Nat.zero_le, reduceCtorEq, true_or, or_true, false_or, or_false, false_and, and_false, false_implies, Nat.zero_add, Nat.add_zero, Int.reduceEq, Int.reduceNe, Int.reduceLT, Int.reduceLE, Int.reduceNeg, Int.reduceToNat, Nat.not_lt_zero, Int.reduceAdd, fxs F]
  refine cR_nxt F A (l' := true) (by rw [hk]; decide) (fun M1 A1 => ?_)
  have e0 : M1 3 0 = sN (rS R) := A1.D.n
  simp only [wq_g3, wq_gc, wq_g, wq_g1, wq_g2, eR_readFlag, iR_readFlag_0, iR_readFlag_20, vR_readFlag, wps, x_cnd, reduceIte, Nat.reduceAdd, Nat.reduceSub, Nat.reduceEqDiff, Nat.reduceLeDiff, Nat.lt_irrefl, Nat.reduceLT, Int.cast_ofNat_Int, wq_c0, wq_c1, true_and, and_true, and_self, true_implies, forall_const, ne_eq, Decidable.not_not, not_true_eq_false, not_false_eq_true, List.map_nil, List.map_cons, List.sum_nil, List.sum_cons, List.length_cons, List.length_nil, Nat.le_refl, Nat.zero_le, reduceCtorEq, true_or, or_true, false_or, or_false, false_and, and_false, false_implies, Nat.zero_add, Nat.add_zero, Int.reduceEq, Int.reduceNe, Int.reduceLT, Int.reduceLE, Int.reduceNeg, Int.reduceToNat, Nat.not_lt_zero, Int.reduceAdd, fxs F, e0]
  refine cR_isNumberUpTo F A1 (fun c0 M' fl => ?_) (fun c0 g1 g2 g3 g4 g5 => ?_)
  · rw [if_pos c0] at k
    simp only [wq_g3, wq_gc, wq_g, wq_g1, wq_g2, eR_readFlag, iR_readFlag_0, iR_readFlag_20, vR_readFlag, wps, x_cnd, reduceIte, Nat.reduceAdd, Nat.reduceSub, Nat.reduceEqDiff, Nat.reduceLeDiff, Nat.lt_irrefl, Nat.reduceLT, Int.cast_ofNat_Int, wq_c0, wq_c1, true_and, and_true, and_self, true_implies, forall_const, ne_eq, Decidable.not_not, not_true_eq_false, not_false_eq_true, List.map_nil, List.map_cons, List.sum_nil, List.sum_cons, List.length_cons, List.length_nil, Nat.le_refl, Nat.zero_le, reduceCtorEq, true_or, or_true, false_or, or_false, false_and, and_false, false_implies, Nat.zero_add, Nat.add_zero, Int.reduceEq, Int.reduceNe, Int.reduceLT, Int.reduceLE, Int.reduceNeg, Int.reduceToNat, Nat.not_lt_zero, Int.reduceAdd, fxs F]
    exact k M' fl
  obtain ⟨v, hv⟩ : ∃ v : Nat, tnv B n (ten B n x) = ((v + 1 : Nat) : Int) := ⟨(tnv B n (ten B n x)).toNat - 1, by omega⟩
  rw [hv] at k g2 g3 g4 g5
  rw [if_neg (fun q => q c0), show ((v + 1 : Nat) : Int) - 1 = v by omega] at k
  have hka : hK h a = 20 ∧ hL h a = 150 := by
    rcases hw with ⟨-, rfl⟩ | ⟨-, rfl⟩ <;> simp only [fxs F, and_self]
  simp only [wq_g3, wq_gc, wq_g, wq_g1, wq_g2, eR_readFlag, iR_readFlag_0, iR_readFlag_20, vR_readFlag, wps, x_cnd, reduceIte, Nat.reduceAdd, Nat.reduceSub, Nat.reduceEqDiff, Nat.reduceLeDiff, Nat.lt_irrefl, Nat.reduceLT, Int.cast_ofNat_Int, wq_c0, wq_c1, true_and, and_true, and_self, true_implies, forall_const, ne_eq, Decidable.not_not, not_true_eq_false, not_false_eq_true, List.map_nil, List.map_cons, List.sum_nil, List.sum_cons, List.length_cons, List.length_nil, Nat.le_refl, Nat.zero_le, reduceCtorEq, true_or, or_true, false_or, or_false, false_and, and_false, false_implies, Nat.zero_add, Nat.add_zero, Int.reduceEq, Int.reduceNe, Int.reduceLT, Int.reduceLE, Int.reduceNeg, Int.reduceToNat, Nat.not_lt_zero, Int.reduceAdd, fxs F, g5, hka]
  rw [w32_of (by omega), show ((v + 1 : Nat) : Int) - 1 = v by omega]
  have D1 := A1.upd (R' := (ten B n (ten B n x), true, barS (rS R) w v 1, rM R, rC R, rN R)) (M' := x_w M1 a v 1) (fun b j hb _ => w_ne (by omega)) (rC_barS3 A1.D (by omega)) (by rw [w_ne (by omega)]; exact A1.c6) (A1.N.mv (fun j => w_ne (by omega))) (wfR_bar A1.W (by unfold okSet; omega))
  refine ⟨by omega, cR_nxt F D1 (l' := true) (by rw [g1]; decide) (fun M2 A2 => ?_)⟩
  simp only [wq_g3, wq_gc, wq_g, wq_g1, wq_g2, eR_readFlag, iR_readFlag_0, iR_readFlag_20, vR_readFlag, wps, x_cnd, reduceIte, Nat.reduceAdd, Nat.reduceSub, Nat.reduceEqDiff, Nat.reduceLeDiff, Nat.lt_irrefl, Nat.reduceLT, Int.cast_ofNat_Int, wq_c0, wq_c1, true_and, and_true, and_self, true_implies, forall_const, ne_eq, Decidable.not_not, not_true_eq_false, not_false_eq_true, List.map_nil, List.map_cons, List.sum_nil, List.sum_cons, List.length_cons, List.length_nil, Nat.le_refl, Nat.zero_le, reduceCtorEq, true_or, or_true, false_or, or_false, false_and, and_false, false_implies, Nat.zero_add, Nat.add_zero, Int.reduceEq, Int.reduceNe, Int.reduceLT, Int.reduceLE, Int.reduceNeg, Int.reduceToNat, Nat.not_lt_zero, Int.reduceAdd, fxs F]
  exact k M2 A2
theorem cR_readCut (F : Fx h) (A : RA B n M0 h x l R M) (hx : rX R = x) (hk : kin B n x l = 1) (k : rOut B n M0 h Φ (pCut B n (ten B n x) R)) : x_Cal zR_readCut [xA 2] M h Φ := by
  have hN := A.W.1.N
  have e6 := A.c6
  unfold pCut at k
  refine x_met0 kR_readCut (Nat.le_of_ble_eq_true rfl) ?_
  simp only [wq_g3, wq_gc, wq_g, wq_g1, wq_g2, eR_readCut, iR_readCut_0, iR_readCut_15, iR_readCut_35, iR_readCut_62, iR_readCut_80, vR_readCut, wps, x_cnd, reduceIte, Nat.reduceAdd, Nat.reduceSub, Nat.reduceEqDiff, Nat.reduceLeDiff, Nat.lt_irrefl, Nat.reduceLT, Int.cast_ofNat_Int, wq_c0, wq_c1, true_and, and_true, and_self, true_implies, forall_const, ne_eq, Decidable.not_not, not_true_eq_false, not_false_eq_true, List.map_nil, List.map_cons, List.sum_nil, List.sum_cons, List.length_cons, List.length_nil, Nat.le_refl, Nat.zero_le, reduceCtorEq, true_or, or_true, false_or, or_false, false_and, and_false, false_implies, Nat.zero_add, Nat.add_zero, Int.reduceEq, Int.reduceNe, Int.reduceLT, Int.reduceLE, Int.reduceNeg, Int.reduceToNat, Nat.not_lt_zero, Int.reduceAdd, fxs F, e6]
  refine ⟨fun c0 => ?_, fun c0 => ?_⟩
  · rw [if_neg (by omega)] at k
    refine cR_nxt F A (l' := true) (by rw [hk]; decide) (fun M1 A1 => ?_)
    have e0 : M1 3 0 = sN (rS R) := A1.D.n
    simp only [wq_g3, wq_gc, wq_g, wq_g1, wq_g2, eR_readCut, iR_readCut_0, iR_readCut_15, iR_readCut_35, iR_readCut_62, iR_readCut_80, vR_readCut, wps, x_cnd, reduceIte, Nat.reduceAdd, Nat.reduceSub, Nat.reduceEqDiff, Nat.reduceLeDiff, Nat.lt_irrefl, Nat.reduceLT, Int.cast_ofNat_Int, wq_c0, wq_c1, true_and, and_true, and_self, true_implies, forall_const, ne_eq, Decidable.not_not, not_true_eq_false, not_false_eq_true, List.map_nil, List.map_cons, List.sum_nil, List.sum_cons, List.length_cons, List.length_nil, Nat.le_refl, Nat.zero_le, reduceCtorEq, true_or, or_true, false_or, or_false, false_and, and_false, false_implies, Nat.zero_add, Nat.add_zero, Int.reduceEq, Int.reduceNe, Int.reduceLT, Int.reduceLE, Int.reduceNeg, Int.reduceToNat, Nat.not_lt_zero, Int.reduceAdd, fxs F, e0]
    refine cR_isNumberUpTo F A1 (fun c1 M' fl => ?_) (fun c1 g1 g2 g3 g4 g5 => ?_)
    · rw [if_pos c1] at k
      simp only [wq_g3, wq_gc, wq_g, wq_g1, wq_g2, eR_readCut, iR_readCut_0, iR_readCut_15, iR_readCut_35, iR_readCut_62, iR_readCut_80, vR_readCut, wps, x_cnd, reduceIte, Nat.reduceAdd, Nat.reduceSub, Nat.reduceEqDiff, Nat.reduceLeDiff, Nat.lt_irrefl, Nat.reduceLT, Int.cast_ofNat_Int, wq_c0, wq_c1, true_and, and_true, and_self, true_implies, forall_const, ne_eq, Decidable.not_not, not_true_eq_false, not_false_eq_true, List.map_nil, List.map_cons, List.sum_nil, List.sum_cons, List.length_cons, List.length_nil, Nat.le_refl, Nat.zero_le, reduceCtorEq, true_or, or_true, false_or, or_false, false_and, and_false, false_implies, Nat.zero_add, Nat.add_zero, Int.reduceEq, Int.reduceNe, Int.reduceLT, Int.reduceLE, Int.reduceNeg, Int.reduceToNat, Nat.not_lt_zero, Int.reduceAdd, fxs F]
      exact k M' fl
    obtain ⟨v, hv⟩ : ∃ v : Nat, tnv B n (ten B n x) = ((v + 1 : Nat) : Int) := ⟨(tnv B n (ten B n x)).toNat - 1, by omega⟩
    rw [hv] at k g2 g3 g4 g5
    rw [if_neg (fun q => q c1), show ((v + 1 : Nat) : Int) - 1 = v by omega] at k
    simp only [wq_g3, wq_gc, wq_g, wq_g1, wq_g2, eR_readCut, iR_readCut_0, iR_readCut_15, iR_readCut_35, iR_readCut_62, iR_readCut_80, vR_readCut, wps, x_cnd, reduceIte, Nat.reduceAdd, Nat.reduceSub, Nat.reduceEqDiff, Nat.reduceLeDiff, Nat.lt_irrefl, Nat.reduceLT, Int.cast_ofNat_Int, wq_c0, wq_c1, true_and, and_true, and_self, true_implies, forall_const, ne_eq, Decidable.not_not, not_true_eq_false, not_false_eq_true, List.map_nil, List.map_cons, List.sum_nil, List.sum_cons, List.length_cons, List.length_nil, Nat.le_refl, Nat.zero_le, reduceCtorEq, true_or, or_true, false_or, or_false, false_and, and_false, false_implies, Nat.zero_add, Nat.add_zero, Int.reduceEq, Int.reduceNe, Int.reduceLT, Int.reduceLE, Int.reduceNeg, Int.reduceToNat, Nat.not_lt_zero, Int.reduceAdd, fxs F, g5]
    refine cR_nxt F A1 (l' := true) (by rw [g1]; decide) (fun M2 A2 => ?_)
    have e1 : M2 3 0 = sN (rS R) := A2.D.n
    simp only [wq_g3, wq_gc, wq_g, wq_g1, wq_g2, eR_readCut, iR_readCut_0, iR_readCut_15, iR_readCut_35, iR_readCut_62, iR_readCut_80, vR_readCut, wps, x_cnd, reduceIte, Nat.reduceAdd, Nat.reduceSub, Nat.reduceEqDiff, Nat.reduceLeDiff, Nat.lt_irrefl, Nat.reduceLT, Int.cast_ofNat_Int, wq_c0, wq_c1, true_and, and_true, and_self, true_implies, forall_const, ne_eq, Decidable.not_not, not_true_eq_false, not_false_eq_true, List.map_nil, List.map_cons, List.sum_nil, List.sum_cons, List.length_cons, List.length_nil, Nat.le_refl, Nat.zero_le, reduceCtorEq, true_or, or_true, false_or, or_false, false_and, and_false, false_implies, Nat.zero_add, Nat.add_zero, Int.reduceEq, Int.reduceNe, Int.reduceLT, Int.reduceLE, Int.reduceNeg, Int.reduceToNat, Nat.not_lt_zero, Int.reduceAdd, fxs F, e1]
    refine cR_isNumberUpTo F A2 (fun c2 M' fl => ?_) (fun c2 i1 i2 i3 i4 i5 => ?_)
    · rw [if_pos c2] at k
      simp only [wq_g3, wq_gc, wq_g, wq_g1, wq_g2, eR_readCut, iR_readCut_0, iR_readCut_15, iR_readCut_35, iR_readCut_62, iR_readCut_80, vR_readCut, wps, x_cnd, reduceIte, Nat.reduceAdd, Nat.reduceSub, Nat.reduceEqDiff, Nat.reduceLeDiff, Nat.lt_irrefl, Nat.reduceLT, Int.cast_ofNat_Int, wq_c0, wq_c1, true_and, and_true, and_self, true_implies, forall_const, ne_eq, Decidable.not_not, not_true_eq_false, not_false_eq_true, List.map_nil, List.map_cons, List.sum_nil, List.sum_cons, List.length_cons, List.length_nil, Nat.le_refl, Nat.zero_le, reduceCtorEq, true_or, or_true, false_or, or_false, false_and, and_false, false_implies, Nat.zero_add, Nat.add_zero, Int.reduceEq, Int.reduceNe, Int.reduceLT, Int.reduceLE, Int.reduceNeg, Int.reduceToNat, Nat.not_lt_zero, Int.reduceAdd, fxs F]
      exact k M' fl
    obtain ⟨u, hu⟩ : ∃ u : Nat, tnv B n (ten B n (ten B n x)) = ((u + 1 : Nat) : Int) := ⟨(tnv B n (ten B n (ten B n x))).toNat - 1, by omega⟩
    rw [hu] at k i2 i3 i4 i5
    rw [if_neg (fun q => q c2), show ((u + 1 : Nat) : Int) - 1 = u by omega] at k
    have e66 := A2.c6
    have hu1 : w32 (((u + 1 : Nat) : Int) - 1) = u := by rw [w32_of (by omega)]; omega
    have hv1 : w32 (((v + 1 : Nat) : Int) - 1) = v := by rw [w32_of (by omega)]; omega
    simp only [wq_g3, wq_gc, wq_g, wq_g1, wq_g2, eR_readCut, iR_readCut_0, iR_readCut_15, iR_readCut_35, iR_readCut_62, iR_readCut_80, vR_readCut, wps, x_cnd, reduceIte, Nat.reduceAdd, Nat.reduceSub, Nat.reduceEqDiff, Nat.reduceLeDiff, Nat.lt_irrefl, Nat.reduceLT, Int.cast_ofNat_Int, wq_c0, wq_c1, true_and, and_true, and_self, true_implies, forall_const, ne_eq, Decidable.not_not, not_true_eq_false, not_false_eq_true, List.map_nil, List.map_cons, List.sum_nil, List.sum_cons, List.length_cons, List.length_nil, Nat.le_refl, Nat.zero_le, reduceCtorEq, true_or, or_true, false_or, or_false, false_and, and_false, false_implies, Nat.zero_add, Nat.add_zero, Int.reduceEq, Int.reduceNe, Int.reduceLT, Int.reduceLE, Int.reduceNeg, Int.reduceToNat, Nat.not_lt_zero, Int.reduceAdd, fxs F, i5, e66, hu1, hv1]
    refine ⟨fun c3 => ?_, fun c3 => ?_⟩
    · rw [if_neg (by omega)] at k
      refine cS_setCut F.s3 (c := rC R) (by omega) ?_
      have e67 : x_w (x_w M2 11 (rC R) v) 12 (rC R) u 2 6 = rC R := by rw [w_ne (by decide), w_ne (by decide)]; exact e66
      simp only [wq_g3, wq_gc, wq_g, wq_g1, wq_g2, eR_readCut, iR_readCut_0, iR_readCut_15, iR_readCut_35, iR_readCut_62, iR_readCut_80, vR_readCut, wps, x_cnd, reduceIte, Nat.reduceAdd, Nat.reduceSub, Nat.reduceEqDiff, Nat.reduceLeDiff, Nat.lt_irrefl, Nat.reduceLT, Int.cast_ofNat_Int, wq_c0, wq_c1, true_and, and_true, and_self, true_implies, forall_const, ne_eq, Decidable.not_not, not_true_eq_false, not_false_eq_true, List.map_nil, List.map_cons, List.sum_nil, List.sum_cons, List.length_cons, List.length_nil, Nat.le_refl, Nat.zero_le, reduceCtorEq, true_or, or_true, false_or, or_false, false_and, and_false, false_implies, Nat.zero_add, Nat.add_zero, Int.reduceEq, Int.reduceNe, Int.reduceLT, Int.reduceLE, Int.reduceNeg, Int.reduceToNat, Nat.not_lt_zero, Int.reduceAdd, fxs F, e67]
      rw [w32_of (by omega)]
      have D1 := A2.upd (R' := (ten B n (ten B n (ten B n x)), true, cutS (rS R) (rC R) v u, rM R, rC R + 1, rN R)) (M' := x_w (x_w (x_w M2 11 (rC R) v) 12 (rC R) u) 2 6 ((rC R : Int) + 1)) (fun b j hb hj => by rw [x_w, if_neg (by omega), w_ne (by omega), w_ne (by omega)]) ((rC_cutS3 A2.D).frame (fun b j hb => w_ne (by omega))) w_eq (A2.N.mv (fun j => by rw [w_ne (by omega), w_ne (by omega), w_ne (by omega)])) (wfR_cut A2.W (by omega) (by omega))
      refine cR_nxt F D1 (l' := true) (by rw [i1]; decide) (fun M3 A3 => ?_)
      simp only [wq_g3, wq_gc, wq_g, wq_g1, wq_g2, eR_readCut, iR_readCut_0, iR_readCut_15, iR_readCut_35, iR_readCut_62, iR_readCut_80, vR_readCut, wps, x_cnd, reduceIte, Nat.reduceAdd, Nat.reduceSub, Nat.reduceEqDiff, Nat.reduceLeDiff, Nat.lt_irrefl, Nat.reduceLT, Int.cast_ofNat_Int, wq_c0, wq_c1, true_and, and_true, and_self, true_implies, forall_const, ne_eq, Decidable.not_not, not_true_eq_false, not_false_eq_true, List.map_nil, List.map_cons, List.sum_nil, List.sum_cons, List.length_cons, List.length_nil, Nat.le_refl, Nat.zero_le, reduceCtorEq, true_or, or_true, false_or, or_false, false_and, and_false, false_implies, Nat.zero_add, Nat.add_zero, Int.reduceEq, Int.reduceNe, Int.reduceLT, Int.reduceLE, Int.reduceNeg, Int.reduceToNat, Nat.not_lt_zero, Int.reduceAdd, fxs F]
      exact k M3 A3
    · rw [if_pos (by omega)] at k
      refine cR_fail F A2 (fun M' fl => ?_)
      simp only [wq_g3, wq_gc, wq_g, wq_g1, wq_g2, eR_readCut, iR_readCut_0, iR_readCut_15, iR_readCut_35, iR_readCut_62, iR_readCut_80, vR_readCut, wps, x_cnd, reduceIte, Nat.reduceAdd, Nat.reduceSub, Nat.reduceEqDiff, Nat.reduceLeDiff, Nat.lt_irrefl, Nat.reduceLT, Int.cast_ofNat_Int, wq_c0, wq_c1, true_and, and_true, and_self, true_implies, forall_const, ne_eq, Decidable.not_not, not_true_eq_false, not_false_eq_true, List.map_nil, List.map_cons, List.sum_nil, List.sum_cons, List.length_cons, List.length_nil, Nat.le_refl, Nat.zero_le, reduceCtorEq, true_or, or_true, false_or, or_false, false_and, and_false, false_implies, Nat.zero_add, Nat.add_zero, Int.reduceEq, Int.reduceNe, Int.reduceLT, Int.reduceLE, Int.reduceNeg, Int.reduceToNat, Nat.not_lt_zero, Int.reduceAdd, fxs F]
      exact k M' fl
  · rw [if_pos (by omega), hx] at k
    refine cR_fail F A (fun M' fl => ?_)
    simp only [wq_g3, wq_gc, wq_g, wq_g1, wq_g2, eR_readCut, iR_readCut_0, iR_readCut_15, iR_readCut_35, iR_readCut_62, iR_readCut_80, vR_readCut, wps, x_cnd, reduceIte, Nat.reduceAdd, Nat.reduceSub, Nat.reduceEqDiff, Nat.reduceLeDiff, Nat.lt_irrefl, Nat.reduceLT, Int.cast_ofNat_Int, wq_c0, wq_c1, true_and, and_true, and_self, true_implies, forall_const, ne_eq, Decidable.not_not, not_true_eq_false, not_false_eq_true, List.map_nil, List.map_cons, List.sum_nil, List.sum_cons, List.length_cons, List.length_nil, Nat.le_refl, Nat.zero_le, reduceCtorEq, true_or, or_true, false_or, or_false, false_and, and_false, false_implies, Nat.zero_add, Nat.add_zero, Int.reduceEq, Int.reduceNe, Int.reduceLT, Int.reduceLE, Int.reduceNeg, Int.reduceToNat, Nat.not_lt_zero, Int.reduceAdd, fxs F]
    exact k M' fl
theorem cR_readMark (F : Fx h) (A : RA B n M0 h x l R M) (hx : rX R = x) (hk : kin B n x l = 1) (k : rOut B n M0 h Φ (pMark B n (ten B n x) R)) : x_Cal zR_readMark [xA 2] M h Φ := by
  have hN := A.W.1.N
  obtain ⟨m1, m2, m3⟩ := A.W.2.2.1
  have e2 : M 3 2 = rM R := A.D.m.trans m1
  unfold pMark at k
  refine x_metI kR_readMark (Nat.le_of_ble_eq_true rfl) (fun t m ls st M1 h' c n2 => t = 47 ∧ st = [] ∧ h' = h ∧ c = 0 ∧ n2 = 0 ∧ ls 0 = some (xA 2) ∧ RA B n M0 h (ten B n x) true R M1 ∧ rM R < 20 ∧ nuc B n (ten B n x) true (sN (rS R)) = 0 ∧ kin B n (ten B n x) true = 2 ∧ ∃ p v : Nat, tnv B n (ten B n x) = ((v + 1 : Nat) : Int) ∧ v < sN (rS R) ∧ p ≤ rM R ∧ m = rM R - p ∧ ls 1 = some (xI v) ∧ ls 2 = some (xI ((p + 1 : Nat) : Int)) ∧ ∀ q : Nat, q < p → sM (rS R) ((q : Int) + 1) ≠ v) 20 ?_ ?_
  · simp only [wq_g3, wq_gc, wq_g, wq_g1, wq_g2, eR_readMark, iR_readMark_0, iR_readMark_18, iR_readMark_38, iR_readMark_47, iR_readMark_77, iR_readMark_83, vR_readMark, wps, x_cnd, reduceIte, Nat.reduceAdd, Nat.reduceSub, Nat.reduceEqDiff, Nat.reduceLeDiff, Nat.lt_irrefl, Nat.reduceLT, Int.cast_ofNat_Int, wq_c0, wq_c1, true_and, and_true, and_self, true_implies, forall_const, ne_eq, Decidable.not_not, not_true_eq_false, not_false_eq_true, List.map_nil, List.map_cons, List.sum_nil, List.sum_cons, List.length_cons, List.length_nil, Nat.le_refl, Nat.zero_le, reduceCtorEq, true_or, or_true, false_or, or_false, false_and, and_false, false_implies, Nat.zero_add, Nat.add_zero, Int.reduceEq, Int.reduceNe, Int.reduceLT, Int.reduceLE, Int.reduceNeg, Int.reduceToNat, Nat.not_lt_zero, Int.reduceAdd, fxs F, e2]
    refine ⟨fun c0 => ?_, fun c0 => ?_⟩
    · rw [if_neg (by omega)] at k
      refine cR_nxt F A (l' := true) (by rw [hk]; decide) (fun M1 A1 => ?_)
      have e0 : M1 3 0 = sN (rS R) := A1.D.n
      simp only [wq_g3, wq_gc, wq_g, wq_g1, wq_g2, eR_readMark, iR_readMark_0, iR_readMark_18, iR_readMark_38, iR_readMark_47, iR_readMark_77, iR_readMark_83, vR_readMark, wps, x_cnd, reduceIte, Nat.reduceAdd, Nat.reduceSub, Nat.reduceEqDiff, Nat.reduceLeDiff, Nat.lt_irrefl, Nat.reduceLT, Int.cast_ofNat_Int, wq_c0, wq_c1, true_and, and_true, and_self, true_implies, forall_const, ne_eq, Decidable.not_not, not_true_eq_false, not_false_eq_true, List.map_nil, List.map_cons, List.sum_nil, List.sum_cons, List.length_cons, List.length_nil, Nat.le_refl, Nat.zero_le, reduceCtorEq, true_or, or_true, false_or, or_false, false_and, and_false, false_implies, Nat.zero_add, Nat.add_zero, Int.reduceEq, Int.reduceNe, Int.reduceLT, Int.reduceLE, Int.reduceNeg, Int.reduceToNat, Nat.not_lt_zero, Int.reduceAdd, fxs F, e0]
      refine cR_isNumberUpTo F A1 (fun c1 M' fl => ?_) (fun c1 g1 g2 g3 g4 g5 => ?_)
      · rw [if_pos c1] at k
        simp only [wq_g3, wq_gc, wq_g, wq_g1, wq_g2, eR_readMark, iR_readMark_0, iR_readMark_18, iR_readMark_38, iR_readMark_47, iR_readMark_77, iR_readMark_83, vR_readMark, wps, x_cnd, reduceIte, Nat.reduceAdd, Nat.reduceSub, Nat.reduceEqDiff, Nat.reduceLeDiff, Nat.lt_irrefl, Nat.reduceLT, Int.cast_ofNat_Int, wq_c0, wq_c1, true_and, and_true, and_self, true_implies, forall_const, ne_eq, Decidable.not_not, not_true_eq_false, not_false_eq_true, List.map_nil, List.map_cons, List.sum_nil, List.sum_cons, List.length_cons, List.length_nil, Nat.le_refl, Nat.zero_le, reduceCtorEq, true_or, or_true, false_or, or_false, false_and, and_false, false_implies, Nat.zero_add, Nat.add_zero, Int.reduceEq, Int.reduceNe, Int.reduceLT, Int.reduceLE, Int.reduceNeg, Int.reduceToNat, Nat.not_lt_zero, Int.reduceAdd, fxs F]
        exact k M' fl
      · simp only [wq_g3, wq_gc, wq_g, wq_g1, wq_g2, eR_readMark, iR_readMark_0, iR_readMark_18, iR_readMark_38, iR_readMark_47, iR_readMark_77, iR_readMark_83, vR_readMark, wps, x_cnd, reduceIte, Nat.reduceAdd, Nat.reduceSub, Nat.reduceEqDiff, Nat.reduceLeDiff, Nat.lt_irrefl, Nat.reduceLT, Int.cast_ofNat_Int, wq_c0, wq_c1, true_and, and_true, and_self, true_implies, forall_const, ne_eq, Decidable.not_not, not_true_eq_false, not_false_eq_true, List.map_nil, List.map_cons, List.sum_nil, List.sum_cons, List.length_cons, List.length_nil, Nat.le_refl, Nat.zero_le, reduceCtorEq, true_or, or_true, false_or, or_false, false_and, and_false, false_implies, Nat.zero_add, Nat.add_zero, Int.reduceEq, Int.reduceNe, Int.reduceLT, Int.reduceLE, Int.reduceNeg, Int.reduceToNat, Nat.not_lt_zero, Int.reduceAdd, fxs F, g5]
        simp (disch := omega) only [w32_of]
        exact ⟨rM R, A1, by omega, c1, g1, 0, (tnv B n (ten B n x)).toNat - 1, by omega, by omega, by omega, rfl, by rw [show ((tnv B n (ten B n x)).toNat - 1 : Nat) = tnv B n (ten B n x) - 1 by omega], rfl, fun q hq => by omega⟩
    · rw [if_pos (by omega), hx] at k
      refine cR_fail F A (fun M' fl => ?_)
      simp only [wq_g3, wq_gc, wq_g, wq_g1, wq_g2, eR_readMark, iR_readMark_0, iR_readMark_18, iR_readMark_38, iR_readMark_47, iR_readMark_77, iR_readMark_83, vR_readMark, wps, x_cnd, reduceIte, Nat.reduceAdd, Nat.reduceSub, Nat.reduceEqDiff, Nat.reduceLeDiff, Nat.lt_irrefl, Nat.reduceLT, Int.cast_ofNat_Int, wq_c0, wq_c1, true_and, and_true, and_self, true_implies, forall_const, ne_eq, Decidable.not_not, not_true_eq_false, not_false_eq_true, List.map_nil, List.map_cons, List.sum_nil, List.sum_cons, List.length_cons, List.length_nil, Nat.le_refl, Nat.zero_le, reduceCtorEq, true_or, or_true, false_or, or_false, false_and, and_false, false_implies, Nat.zero_add, Nat.add_zero, Int.reduceEq, Int.reduceNe, Int.reduceLT, Int.reduceLE, Int.reduceNeg, Int.reduceToNat, Nat.not_lt_zero, Int.reduceAdd, fxs F]
      exact k M' fl
  · rintro t m ls st M1 h' c n2 ⟨rfl, rfl, rfl, rfl, rfl, l0, A1, c0, c1, g1, p, v, hv, q1, q2, q3, l1, l2, q4⟩
    have e3 : M1 3 2 = rM R := A1.D.m.trans m1
    rw [if_neg (by omega), if_neg (fun q => q c1), hv, show ((v + 1 : Nat) : Int) - 1 = v by omega] at k
    simp only [wq_g3, wq_gc, wq_g, wq_g1, wq_g2, eR_readMark, iR_readMark_0, iR_readMark_18, iR_readMark_38, iR_readMark_47, iR_readMark_77, iR_readMark_83, vR_readMark, wps, x_cnd, reduceIte, Nat.reduceAdd, Nat.reduceSub, Nat.reduceEqDiff, Nat.reduceLeDiff, Nat.lt_irrefl, Nat.reduceLT, Int.cast_ofNat_Int, wq_c0, wq_c1, true_and, and_true, and_self, true_implies, forall_const, ne_eq, Decidable.not_not, not_true_eq_false, not_false_eq_true, List.map_nil, List.map_cons, List.sum_nil, List.sum_cons, List.length_cons, List.length_nil, Nat.le_refl, Nat.zero_le, reduceCtorEq, true_or, or_true, false_or, or_false, false_and, and_false, false_implies, Nat.zero_add, Nat.add_zero, Int.reduceEq, Int.reduceNe, Int.reduceLT, Int.reduceLE, Int.reduceNeg, Int.reduceToNat, Nat.not_lt_zero, Int.reduceAdd, fxs F, l0, l1, l2, e3]
    refine ⟨fun c2 => ?_, fun c2 => ⟨by omega, ?_⟩⟩
    · have hcn : cn (fun l => sM (rS R) (l + 1) == (v : Int)) (rM R) = 0 := by
        have : ∀ q : Nat, q < rM R → (fun l : Int => sM (rS R) (l + 1) == (v : Int)) q = (fun _ => false) (q : Int) := fun q hq => by
          have h4 := q4 q (by omega)
          simp only [beq_eq_false_iff_ne]
          exact h4
        rw [cn_congr (Q := fun _ => false) this]
        exact cn_nof
      rw [if_neg (fun q => q hcn)] at k
      rw [w32_of (by omega)]
      refine cS_setMark F.s3 (l := rM R + 1) (by omega) (by omega) (by rw [e3]; omega) ?_
      simp only [wq_g3, wq_gc, wq_g, wq_g1, wq_g2, eR_readMark, iR_readMark_0, iR_readMark_18, iR_readMark_38, iR_readMark_47, iR_readMark_77, iR_readMark_83, vR_readMark, wps, x_cnd, reduceIte, Nat.reduceAdd, Nat.reduceSub, Nat.reduceEqDiff, Nat.reduceLeDiff, Nat.lt_irrefl, Nat.reduceLT, Int.cast_ofNat_Int, wq_c0, wq_c1, true_and, and_true, and_self, true_implies, forall_const, ne_eq, Decidable.not_not, not_true_eq_false, not_false_eq_true, List.map_nil, List.map_cons, List.sum_nil, List.sum_cons, List.length_cons, List.length_nil, Nat.le_refl, Nat.zero_le, reduceCtorEq, true_or, or_true, false_or, or_false, false_and, and_false, false_implies, Nat.zero_add, Nat.add_zero, Int.reduceEq, Int.reduceNe, Int.reduceLT, Int.reduceLE, Int.reduceNeg, Int.reduceToNat, Nat.not_lt_zero, Int.reduceAdd, fxs F, l0, l1, l2, e3]
      have e10 : M1 (3 + 7) ((rM R + 1 : Nat) : Int) = sM (rS R) ((rM R + 1 : Nat) : Int) := A1.D.mk (by omega) (by omega)
      have D0 := rC_markS3 (l := rM R + 1) (x := v) A1.D (by omega) (by omega)
      have D1 := A1.upd (R' := (ten B n (ten B n x), true, markS (rS R) ((rM R + 1 : Nat) : Int) v, rM R + 1, rC R, rN R)) (M' := x_w (x_w M1 10 ((rM R + 1 : Nat) : Int) v) 3 2 (mkN (rS R) + (b01 ((v : Int) ≠ -1) - b01 (sM (rS R) ((rM R + 1 : Nat) : Int) ≠ -1)))) (fun b j hb _ => by rw [w_ne (by omega), w_ne (by omega)]) D0 (by rw [w_ne (by omega), w_ne (by omega)]; exact A1.c6) (A1.N.mv (fun j => by rw [w_ne (by omega), w_ne (by omega)])) (wfR_mark A1.W c0 (by omega) hcn)
      rw [m1, ← e10] at D1
      refine cR_nxt F D1 (l' := true) (by rw [g1]; decide) (fun M2 A2 => ?_)
      simp only [wq_g3, wq_gc, wq_g, wq_g1, wq_g2, eR_readMark, iR_readMark_0, iR_readMark_18, iR_readMark_38, iR_readMark_47, iR_readMark_77, iR_readMark_83, vR_readMark, wps, x_cnd, reduceIte, Nat.reduceAdd, Nat.reduceSub, Nat.reduceEqDiff, Nat.reduceLeDiff, Nat.lt_irrefl, Nat.reduceLT, Int.cast_ofNat_Int, wq_c0, wq_c1, true_and, and_true, and_self, true_implies, forall_const, ne_eq, Decidable.not_not, not_true_eq_false, not_false_eq_true, List.map_nil, List.map_cons, List.sum_nil, List.sum_cons, List.length_cons, List.length_nil, Nat.le_refl, Nat.zero_le, reduceCtorEq, true_or, or_true, false_or, or_false, false_and, and_false, false_implies, Nat.zero_add, Nat.add_zero, Int.reduceEq, Int.reduceNe, Int.reduceLT, Int.reduceLE, Int.reduceNeg, Int.reduceToNat, Nat.not_lt_zero, Int.reduceAdd, fxs F]
      exact k M2 A2
    · have e10 : M1 10 ((p + 1 : Nat) : Int) = sM (rS R) ((p + 1 : Nat) : Int) := A1.D.mk (by omega) (by omega)
      rw [e10]
      refine ⟨fun c3 => ⟨rM R - (p + 1), by omega, A1, c0, c1, g1, p + 1, v, hv, q1, by omega, rfl, rfl, by rw [w32_of (by omega)]; rfl, fun q hq => ?_⟩, fun c3 => ?_⟩
      · by_cases hq2 : q = p
        · subst hq2
          exact c3
        · exact q4 q (by omega)
      · have hcn : cn (fun l => sM (rS R) (l + 1) == (v : Int)) (rM R) ≠ 0 := fun q => by
          have h5 := cn_0 q (q := p) (by omega)
          simp only [beq_eq_false_iff_ne] at h5
          exact h5 c3
        rw [if_pos hcn] at k
        refine cR_fail F A1 (fun M' fl => ?_)
        simp only [wq_g3, wq_gc, wq_g, wq_g1, wq_g2, eR_readMark, iR_readMark_0, iR_readMark_18, iR_readMark_38, iR_readMark_47, iR_readMark_77, iR_readMark_83, vR_readMark, wps, x_cnd, reduceIte, Nat.reduceAdd, Nat.reduceSub, Nat.reduceEqDiff, Nat.reduceLeDiff, Nat.lt_irrefl, Nat.reduceLT, Int.cast_ofNat_Int, wq_c0, wq_c1, true_and, and_true, and_self, true_implies, forall_const, ne_eq, Decidable.not_not, not_true_eq_false, not_false_eq_true, List.map_nil, List.map_cons, List.sum_nil, List.sum_cons, List.length_cons, List.length_nil, Nat.le_refl, Nat.zero_le, reduceCtorEq, true_or, or_true, false_or, or_false, false_and, and_false, false_implies, Nat.zero_add, Nat.add_zero, Int.reduceEq, Int.reduceNe, Int.reduceLT, Int.reduceLE, Int.reduceNeg, Int.reduceToNat, Nat.not_lt_zero, Int.reduceAdd, fxs F, l0]
        exact k M' fl
theorem cOf_ok {w : Int} (h : cOf w ≠ -1) : 0 ≤ cOf w ∧ cOf w ≤ 2 := by
  have : cOf w = -1 ∨ 0 ≤ cOf w ∧ cOf w ≤ 2 := by
    unfold cOf
    by_cases h1 : w = 595572
    · rw [if_pos h1]; omega
    · rw [if_neg h1]
      by_cases h2 : w = 536633
      · rw [if_pos h2]; omega
      · rw [if_neg h2]
        by_cases h3 : w = 3749
        · rw [if_pos h3]; omega
        · rw [if_neg h3]; omega
  exact this.resolve_left h
theorem NM_con {S : xSr} {m c : Nat} {nm : Int → Int} {part a k v : Int} {y : Nat} {b : Bool} (N : NM B (y, b, S, m, c, nm) M) : NM B (y, b, conR S part a k v, m, c, nm) M := N
theorem NM_con' {S : xSr} {m c : Nat} {nm : Int → Int} {part a k v : Int} {y : Nat} {b : Bool} (N : NM B (y, b, conR S part a k v, m, c, nm) M) : NM B (y, b, S, m, c, nm) M := N
theorem cR_readGroup (F : Fx h) (A : RA B n M0 h x l R M) (hk : kin B n x l = 1) (hP : sP (rS R) < 6) {told : Int} (ht : 0 ≤ told ∧ told ≤ sN (rS R)) (k0 : ∀ c p M', (cOf (twv B n x) = -1 ∧ c = 1 ∧ p = ts B n x ∨ cOf (twv B n x) ≠ -1 ∧ nuc B n (ten B n x) true (min 99 (sN (rS R) - told)) = c ∧ c ≠ 0 ∧ p = ts B n (ten B n x)) → Fl M0 c p M' → Φ (.inl (some (xI 0))) M' h) (k1 : ∀ M', cOf (twv B n x) ≠ -1 → nuc B n (ten B n x) true (min 99 (sN (rS R) - told)) = 0 → 1 ≤ tnv B n (ten B n x) → tnv B n (ten B n x) ≤ sN (rS R) - told → M' 2 11 = tnv B n (ten B n x) → kin B n (ten B n x) true = 2 → RA B n M0 h (ten B n x) true (x, true, conR (rS R) (sP (rS R)) told (tnv B n (ten B n x)) (cOf (twv B n x)), rM R, rC R, rN R) M' → Φ (.inl (some (xI 1))) M' h) : x_Cal zR_readGroup [xA 2, xI told] M h Φ := by
  have hN := A.W.1.N
  obtain ⟨d, rfl⟩ : ∃ d : Nat, told = d := ⟨told.toNat, by omega⟩
  refine x_metI kR_readGroup (Nat.le_of_ble_eq_true rfl) (fun t m ls st M1 h' c n2 => t = 45 ∧ st = [] ∧ h' = h ∧ c = 0 ∧ n2 = 0 ∧ ls 0 = some (xA 2) ∧ ls 1 = some (xI d) ∧ ls 2 = some (xI (cOf (twv B n x))) ∧ cOf (twv B n x) ≠ -1 ∧ nuc B n (ten B n x) true (min 99 (sN (rS R) - (d : Int))) = 0 ∧ tnv B n (ten B n x) ≤ sN (rS R) - (d : Int) ∧ kin B n (ten B n x) true = 2 ∧ ∃ p v : Nat, tnv B n (ten B n x) = v ∧ 1 ≤ v ∧ p ≤ v ∧ m = v - p ∧ ls 3 = some (xI p) ∧ M1 2 11 = v ∧ RA B n M0 h (ten B n x) true (x, true, conR (rS R) (sP (rS R)) (d : Int) p (cOf (twv B n x)), rM R, rC R, rN R) M1) 20 ?_ ?_
  · simp only [wq_g3, wq_gc, wq_g, wq_g1, wq_g2, eR_readGroup, iR_readGroup_0, iR_readGroup_16, iR_readGroup_43, iR_readGroup_45, iR_readGroup_77, vR_readGroup, wps, x_cnd, reduceIte, Nat.reduceAdd, Nat.reduceSub, Nat.reduceEqDiff, Nat.reduceLeDiff, Nat.lt_irrefl, Nat.reduceLT, Int.cast_ofNat_Int, wq_c0, wq_c1, true_and, and_true, and_self, true_implies, forall_const, ne_eq, Decidable.not_not, not_true_eq_false, not_false_eq_true, List.map_nil, List.map_cons, List.sum_nil, List.sum_cons, List.length_cons, List.length_nil, Nat.le_refl, Nat.zero_le, reduceCtorEq, true_or, or_true, false_or, or_false, false_and, and_false, false_implies, Nat.zero_add, Nat.add_zero, Int.reduceEq, Int.reduceNe, Int.reduceLT, Int.reduceLE, Int.reduceNeg, Int.reduceToNat, Nat.not_lt_zero, Int.reduceAdd, fxs F]
    refine cR_contentInToken F A ?_
    rw [if_pos hk]
    simp only [wq_g3, wq_gc, wq_g, wq_g1, wq_g2, eR_readGroup, iR_readGroup_0, iR_readGroup_16, iR_readGroup_43, iR_readGroup_45, iR_readGroup_77, vR_readGroup, wps, x_cnd, reduceIte, Nat.reduceAdd, Nat.reduceSub, Nat.reduceEqDiff, Nat.reduceLeDiff, Nat.lt_irrefl, Nat.reduceLT, Int.cast_ofNat_Int, wq_c0, wq_c1, true_and, and_true, and_self, true_implies, forall_const, ne_eq, Decidable.not_not, not_true_eq_false, not_false_eq_true, List.map_nil, List.map_cons, List.sum_nil, List.sum_cons, List.length_cons, List.length_nil, Nat.le_refl, Nat.zero_le, reduceCtorEq, true_or, or_true, false_or, or_false, false_and, and_false, false_implies, Nat.zero_add, Nat.add_zero, Int.reduceEq, Int.reduceNe, Int.reduceLT, Int.reduceLE, Int.reduceNeg, Int.reduceToNat, Nat.not_lt_zero, Int.reduceAdd, fxs F]
    refine ⟨fun c0 => ?_, fun c0 => ?_⟩
    · refine cR_nxt F A (l' := true) (by rw [hk]; decide) (fun M1 A1 => ?_)
      have e0 : M1 3 0 = sN (rS R) := A1.D.n
      simp only [wq_g3, wq_gc, wq_g, wq_g1, wq_g2, eR_readGroup, iR_readGroup_0, iR_readGroup_16, iR_readGroup_43, iR_readGroup_45, iR_readGroup_77, vR_readGroup, wps, x_cnd, reduceIte, Nat.reduceAdd, Nat.reduceSub, Nat.reduceEqDiff, Nat.reduceLeDiff, Nat.lt_irrefl, Nat.reduceLT, Int.cast_ofNat_Int, wq_c0, wq_c1, true_and, and_true, and_self, true_implies, forall_const, ne_eq, Decidable.not_not, not_true_eq_false, not_false_eq_true, List.map_nil, List.map_cons, List.sum_nil, List.sum_cons, List.length_cons, List.length_nil, Nat.le_refl, Nat.zero_le, reduceCtorEq, true_or, or_true, false_or, or_false, false_and, and_false, false_implies, Nat.zero_add, Nat.add_zero, Int.reduceEq, Int.reduceNe, Int.reduceLT, Int.reduceLE, Int.reduceNeg, Int.reduceToNat, Nat.not_lt_zero, Int.reduceAdd, fxs F, e0]
      rw [w32_of (x := (sN (rS R) : Int) - d) (by omega)]
      refine cR_isNumberUpTo F A1 (fun c1 M' fl => ?_) (fun c1 g1 g2 g3 g4 g5 => ?_)
      · simp only [wq_g3, wq_gc, wq_g, wq_g1, wq_g2, eR_readGroup, iR_readGroup_0, iR_readGroup_16, iR_readGroup_43, iR_readGroup_45, iR_readGroup_77, vR_readGroup, wps, x_cnd, reduceIte, Nat.reduceAdd, Nat.reduceSub, Nat.reduceEqDiff, Nat.reduceLeDiff, Nat.lt_irrefl, Nat.reduceLT, Int.cast_ofNat_Int, wq_c0, wq_c1, true_and, and_true, and_self, true_implies, forall_const, ne_eq, Decidable.not_not, not_true_eq_false, not_false_eq_true, List.map_nil, List.map_cons, List.sum_nil, List.sum_cons, List.length_cons, List.length_nil, Nat.le_refl, Nat.zero_le, reduceCtorEq, true_or, or_true, false_or, or_false, false_and, and_false, false_implies, Nat.zero_add, Nat.add_zero, Int.reduceEq, Int.reduceNe, Int.reduceLT, Int.reduceLE, Int.reduceNeg, Int.reduceToNat, Nat.not_lt_zero, Int.reduceAdd, fxs F]
        exact k0 _ _ M' (Or.inr ⟨c0, rfl, c1, rfl⟩) fl
      · simp only [wq_g3, wq_gc, wq_g, wq_g1, wq_g2, eR_readGroup, iR_readGroup_0, iR_readGroup_16, iR_readGroup_43, iR_readGroup_45, iR_readGroup_77, vR_readGroup, wps, x_cnd, reduceIte, Nat.reduceAdd, Nat.reduceSub, Nat.reduceEqDiff, Nat.reduceLeDiff, Nat.lt_irrefl, Nat.reduceLT, Int.cast_ofNat_Int, wq_c0, wq_c1, true_and, and_true, and_self, true_implies, forall_const, ne_eq, Decidable.not_not, not_true_eq_false, not_false_eq_true, List.map_nil, List.map_cons, List.sum_nil, List.sum_cons, List.length_cons, List.length_nil, Nat.le_refl, Nat.zero_le, reduceCtorEq, true_or, or_true, false_or, or_false, false_and, and_false, false_implies, Nat.zero_add, Nat.add_zero, Int.reduceEq, Int.reduceNe, Int.reduceLT, Int.reduceLE, Int.reduceNeg, Int.reduceToNat, Nat.not_lt_zero, Int.reduceAdd, fxs F]
        refine ⟨(tnv B n (ten B n x)).toNat, c0, c1, by omega, g1, 0, (tnv B n (ten B n x)).toNat, by omega, by omega, by omega, by omega, rfl, by omega, ?_⟩
        exact A1.upd (R' := (x, true, conR (rS R) (sP (rS R)) d ((0 : Nat) : Int) (cOf (twv B n x)), rM R, rC R, rN R)) (fun _ _ _ _ => rfl) (by rw [show rS (x, true, conR (rS R) (sP (rS R)) d ((0 : Nat) : Int) (cOf (twv B n x)), rM R, rC R, rN R) = rS R from conR_0]; exact A1.D) A1.c6 A1.N (wfR_con A1.W (cOf_ok c0))
    · refine cR_fail F A (fun M' fl => ?_)
      simp only [wq_g3, wq_gc, wq_g, wq_g1, wq_g2, eR_readGroup, iR_readGroup_0, iR_readGroup_16, iR_readGroup_43, iR_readGroup_45, iR_readGroup_77, vR_readGroup, wps, x_cnd, reduceIte, Nat.reduceAdd, Nat.reduceSub, Nat.reduceEqDiff, Nat.reduceLeDiff, Nat.lt_irrefl, Nat.reduceLT, Int.cast_ofNat_Int, wq_c0, wq_c1, true_and, and_true, and_self, true_implies, forall_const, ne_eq, Decidable.not_not, not_true_eq_false, not_false_eq_true, List.map_nil, List.map_cons, List.sum_nil, List.sum_cons, List.length_cons, List.length_nil, Nat.le_refl, Nat.zero_le, reduceCtorEq, true_or, or_true, false_or, or_false, false_and, and_false, false_implies, Nat.zero_add, Nat.add_zero, Int.reduceEq, Int.reduceNe, Int.reduceLT, Int.reduceLE, Int.reduceNeg, Int.reduceToNat, Nat.not_lt_zero, Int.reduceAdd, fxs F]
      exact k0 _ _ M' (Or.inl ⟨c0, rfl, rfl⟩) fl
  · rintro t m ls st M1 h' c n2 ⟨rfl, rfl, rfl, rfl, rfl, l0, l1, l2, c0, c1, c2, c3, p, v, hv, q1, q2, q3, l3, e11, A1⟩
    have e0 : M1 3 1 = sP (rS R) := A1.D.p
    simp only [wq_g3, wq_gc, wq_g, wq_g1, wq_g2, eR_readGroup, iR_readGroup_0, iR_readGroup_16, iR_readGroup_43, iR_readGroup_45, iR_readGroup_77, vR_readGroup, wps, x_cnd, reduceIte, Nat.reduceAdd, Nat.reduceSub, Nat.reduceEqDiff, Nat.reduceLeDiff, Nat.lt_irrefl, Nat.reduceLT, Int.cast_ofNat_Int, wq_c0, wq_c1, true_and, and_true, and_self, true_implies, forall_const, ne_eq, Decidable.not_not, not_true_eq_false, not_false_eq_true, List.map_nil, List.map_cons, List.sum_nil, List.sum_cons, List.length_cons, List.length_nil, Nat.le_refl, Nat.zero_le, reduceCtorEq, true_or, or_true, false_or, or_false, false_and, and_false, false_implies, Nat.zero_add, Nat.add_zero, Int.reduceEq, Int.reduceNe, Int.reduceLT, Int.reduceLE, Int.reduceNeg, Int.reduceToNat, Nat.not_lt_zero, Int.reduceAdd, fxs F, l0, l1, l2, l3, e11, e0]
    refine ⟨fun c4 => ?_, fun c4 => ?_⟩
    · rw [show p = v by omega, ← hv] at A1
      exact k1 M1 c0 c1 (by omega) c2 (by omega) c3 A1
    · rw [w32_of (by omega), show (d : Int) + p = ((d + p : Nat) : Int) by omega]
      refine cS_putContent F.s3 (part := sP (rS R)) (p := d + p) hP (by omega) ?_
      simp only [wq_g3, wq_gc, wq_g, wq_g1, wq_g2, eR_readGroup, iR_readGroup_0, iR_readGroup_16, iR_readGroup_43, iR_readGroup_45, iR_readGroup_77, vR_readGroup, wps, x_cnd, reduceIte, Nat.reduceAdd, Nat.reduceSub, Nat.reduceEqDiff, Nat.reduceLeDiff, Nat.lt_irrefl, Nat.reduceLT, Int.cast_ofNat_Int, wq_c0, wq_c1, true_and, and_true, and_self, true_implies, forall_const, ne_eq, Decidable.not_not, not_true_eq_false, not_false_eq_true, List.map_nil, List.map_cons, List.sum_nil, List.sum_cons, List.length_cons, List.length_nil, Nat.le_refl, Nat.zero_le, reduceCtorEq, true_or, or_true, false_or, or_false, false_and, and_false, false_implies, Nat.zero_add, Nat.add_zero, Int.reduceEq, Int.reduceNe, Int.reduceLT, Int.reduceLE, Int.reduceNeg, Int.reduceToNat, Nat.not_lt_zero, Int.reduceAdd, fxs F, l0, l1, l2, l3, e11, e0]
      have D0 := rC_contS3 (part := sP (rS R)) (p := d + p) (v := cOf (twv B n x)) A1.D hP hN (by omega)
      have hq : contS (rS (x, true, conR (rS R) (sP (rS R)) d p (cOf (twv B n x)), rM R, rC R, rN R)) (sP (rS R)) ((d + p : Nat) : Int) (cOf (twv B n x)) = conR (rS R) (sP (rS R)) d ((p + 1 : Nat) : Int) (cOf (twv B n x)) := by
        rw [show ((d + p : Nat) : Int) = (d : Int) + p by omega]
        exact conR_s p
      rw [hq] at D0
      have hok := cOf_ok c0
      have W1 : wfR (x, true, conR (rS R) (sP (rS R)) d ((p + 1 : Nat) : Int) (cOf (twv B n x)), rM R, rC R, rN R) := wfR_con A.W hok
      have hN0 : NM B (x, true, rS R, rM R, rC R, rN R) M1 := NM_con' A1.N
      have hN2 : NM B (x, true, rS R, rM R, rC R, rN R) (x_w M1 9 ((sP (rS R) : Int) * 150 + ((d + p : Nat) : Int)) (cOf (twv B n x))) := hN0.mv (fun j => w_ne (by decide))
      have hN1 := NM_con (part := sP (rS R)) (a := d) (k := ((p + 1 : Nat) : Int)) (v := cOf (twv B n x)) hN2
      have hc6 : M1 2 6 = rC R := A1.c6
      have Z1 := A1.upd (R' := (x, true, conR (rS R) (sP (rS R)) d ((p + 1 : Nat) : Int) (cOf (twv B n x)), rM R, rC R, rN R)) (M' := x_w M1 9 ((sP (rS R) : Int) * 150 + ((d + p : Nat) : Int)) (cOf (twv B n x))) (f := fun b j hb _ => w_ne (by omega)) (D := D0) (h6 := by rw [w_ne (by decide)]; exact hc6) (N := hN1) (W := W1)
      refine ⟨v - (p + 1), by omega, c0, c1, c2, c3, p + 1, v, hv, q1, by omega, rfl, by rw [w32_of (by omega)]; rfl, by rw [w_ne (by decide)]; exact e11, Z1⟩
theorem rC_parS3 (D : repC (rS R) M h 3) : repC (parS (rS R)) (x_w M 3 1 ((sP (rS R) : Int) + 1)) h 3 := by
  obtain ⟨a1, b1, c1, d1, e1, f1⟩ := D
  refine ⟨a1, ⟨?_, ?_, ?_⟩, fun p hp => ?_, fun k h3 h4 => ?_, fun k h1 => ?_, fun part h6 => ?_⟩
  · rw [w_nj (by omega)]
    exact b1.1
  · exact w_eq
  · rw [w_nj (by omega)]
    exact b1.2.2
  · rw [w_ne (by omega), w_ne (by omega), w_ne (by omega), w_ne (by omega), w_ne (by omega)]
    obtain ⟨g1, g2, g3, g4, g5, g6⟩ := c1 p hp
    exact ⟨g1, g2, g3, g4, g5, fun part h6 => by rw [w_ne (by omega)]; exact g6 part h6⟩
  · rw [w_ne (by omega)]
    exact d1 k h3 h4
  · rw [w_ne (by omega), w_ne (by omega)]
    exact e1 k h1
  · rcases f1 part h6 with z | ⟨z1, z2⟩
    · exact Or.inl z
    · exact Or.inr ⟨z1, z2.frame (fun a j ha => by rw [w_ne (by omega)])⟩
theorem NM_up {p s k : Nat} (N : NM B R M) (hp : p < 6) (h6 : k ≤ 6) (h0 : 0 < k) (L : Lts B s k) {y : Nat} {b : Bool} : NM B (y, b, rS R, rM R, rC R, up p (wdk 32 B s k) (rN R)) (x_w M 15 p (wdk 27 B s k)) := by
  have hpos := (wdk_0 (b := 32) (Or.inr rfl) L).2 h0
  refine ⟨fun q hq => ?_, fun q hq => ?_⟩
  · show up p (wdk 32 B s k) (rN R) q ≠ 0 → _
    intro hne
    by_cases hqp : q = p
    · subst hqp
      exact ⟨s, k, h6, L, w_eq, up_1⟩
    · rw [up_2 (by omega)] at hne
      obtain ⟨s', k', g1, g2, g3, g4⟩ := N.1 q hq hne
      exact ⟨s', k', g1, g2, by rw [w_nj (by omega)]; exact g3, (up_2 (by omega)).trans g4⟩
  · show up p (wdk 32 B s k) (rN R) q ≠ 0
    by_cases hqp : q = p
    · subst hqp
      rw [up_1]
      omega
    · rw [up_2 (by omega)]
      exact N.2 q hq
theorem NM.par (N : NM B R M) (h1 : rN R (sP (rS R)) ≠ 0) {y : Nat} {b : Bool} {M' : xM} (h : ∀ j, M' 15 j = M 15 j) : NM B (y, b, parS (rS R), rM R, rC R, rN R) M' :=
  ⟨(N.mv h).1, fun q hq => by
    by_cases hqp : q = sP (rS R)
    · rw [hqp]
      exact h1
    · exact N.2 q (by have hq : q < sP (rS R) + 1 := hq; omega)⟩
theorem pGr_0 {k y : Nat} {t : Int} (h : k = 0 ∨ kin B n y true ≠ 1) : pGr B n k y t R = .inr (y, true, parS (rS R), rM R, rC R, rN R) := by
  cases k with
  | zero => rfl
  | succ k => exact if_pos (h.resolve_left (by omega))
theorem pGr_s {k y : Nat} {t : Int} (h : kin B n y true = 1) : pGr B n (k + 1) y t R = if cOf (twv B n y) = -1 then .inl (1, ts B n y)
    else if nuc B n (ten B n y) true (min 99 (sN (rS R) - t)) ≠ 0 then .inl (nuc B n (ten B n y) true (min 99 (sN (rS R) - t)), ts B n (ten B n y))
    else pGr B n k (ten B n (ten B n y)) (t + tnv B n (ten B n y)) (y, true, conR (rS R) (sP (rS R)) t (tnv B n (ten B n y)) (cOf (twv B n y)), rM R, rC R, rN R) := if_neg (fun q => q h)
theorem cR_readPart (F : Fx h) (A : RA B n M0 h x l R M) (hx : rX R = x) (hk : kin B n x l = 1) (k : rOut B n M0 h Φ (pPart B n (ten B n x) R)) : x_Cal zR_readPart [xA 2] M h Φ := by
  have hN := A.W.1.N
  have e1 : M 3 1 = sP (rS R) := A.D.p
  unfold pPart at k
  refine x_metI kR_readPart (Nat.le_of_ble_eq_true rfl) (fun t m ls st M1 h' c n2 => st = [] ∧ h' = h ∧ c = 0 ∧ n2 = 0 ∧ ls 0 = some (xA 2) ∧ sP (rS R) < 6 ∧ ((t = 57 ∧ RA B n M0 h (ten B n x) true R M1 ∧ kin B n (ten B n x) true = 1 ∧ ten B n (ten B n x) - ts B n (ten B n x) ≤ 6 ∧ ∃ p : Nat, p ≤ sP (rS R) ∧ m = n + 1 + (sP (rS R) - p) ∧ ls 1 = some (xI (wdk 27 B (ts B n (ten B n x)) (ten B n (ten B n x) - ts B n (ten B n x)))) ∧ ls 2 = some (xI p) ∧ ∀ q : Nat, q < p → rN R q ≠ twv B n (ten B n x)) ∨ (t = 111 ∧ ∃ (g y : Nat) (d : Int) (R' : xRd), RA B n M0 h y true R' M1 ∧ sP (rS R') = sP (rS R) ∧ sN (rS R') = sN (rS R) ∧ rN R' (sP (rS R)) ≠ 0 ∧ 0 ≤ d ∧ d ≤ sN (rS R) ∧ g ≤ n ∧ m = n - g ∧ ls 2 = some (xI d) ∧ ls 3 = some (xI g) ∧ rOut B n M0 h Φ (pGr B n (n - g) y d R')))) 20 ?_ ?_
  · simp only [wq_g3, wq_gc, wq_g, wq_g1, wq_g2, eR_readPart, iR_readPart_0, iR_readPart_18, iR_readPart_44, iR_readPart_50, iR_readPart_57, iR_readPart_84, iR_readPart_90, iR_readPart_111, iR_readPart_137, iR_readPart_154, vR_readPart, wps, x_cnd, reduceIte, Nat.reduceAdd, Nat.reduceSub, Nat.reduceEqDiff, Nat.reduceLeDiff, Nat.lt_irrefl, Nat.reduceLT, Int.cast_ofNat_Int, wq_c0, wq_c1, true_and, and_true, and_self, true_implies, forall_const, ne_eq, Decidable.not_not, not_true_eq_false, not_false_eq_true, List.map_nil, List.map_cons, List.sum_nil, List.sum_cons, List.length_cons, List.length_nil, Nat.le_refl, Nat.zero_le, reduceCtorEq, true_or, or_true, false_or, or_false, false_and, and_false, false_implies, Nat.zero_add, Nat.add_zero, Int.reduceEq, Int.reduceNe, Int.reduceLT, Int.reduceLE, Int.reduceNeg, Int.reduceToNat, Nat.not_lt_zero, Int.reduceAdd, fxs F, e1]
    refine ⟨fun c0 => ?_, fun c0 => ?_⟩
    · refine cR_nxt F A (l' := true) (by rw [hk]; decide) (fun M1 A1 => ?_)
      have e8 := A1.2.1.1.1
      have e9 := A1.2.1.1.2.1
      have e10 := A1.2.1.1.2.2.1
      have hr := A1.ts
      have hr2 := (ten_rng (B := B) A1.2.1.2).1
      simp only [wq_g3, wq_gc, wq_g, wq_g1, wq_g2, eR_readPart, iR_readPart_0, iR_readPart_18, iR_readPart_44, iR_readPart_50, iR_readPart_57, iR_readPart_84, iR_readPart_90, iR_readPart_111, iR_readPart_137, iR_readPart_154, vR_readPart, wps, x_cnd, reduceIte, Nat.reduceAdd, Nat.reduceSub, Nat.reduceEqDiff, Nat.reduceLeDiff, Nat.lt_irrefl, Nat.reduceLT, Int.cast_ofNat_Int, wq_c0, wq_c1, true_and, and_true, and_self, true_implies, forall_const, ne_eq, Decidable.not_not, not_true_eq_false, not_false_eq_true, List.map_nil, List.map_cons, List.sum_nil, List.sum_cons, List.length_cons, List.length_nil, Nat.le_refl, Nat.zero_le, reduceCtorEq, true_or, or_true, false_or, or_false, false_and, and_false, false_implies, Nat.zero_add, Nat.add_zero, Int.reduceEq, Int.reduceNe, Int.reduceLT, Int.reduceLE, Int.reduceNeg, Int.reduceToNat, Nat.not_lt_zero, Int.reduceAdd, fxs F, e8, e9, e10]
      rw [if_neg (by omega)] at k
      rw [w32_of (by omega)]
      refine ⟨fun c1 => ?_, fun c1 => ⟨fun c2 => ?_, fun c2 => ?_⟩⟩
      · rw [if_pos (Or.inl c1)] at k
        refine cR_fail F A1 (fun M' fl => ?_)
        simp only [wq_g3, wq_gc, wq_g, wq_g1, wq_g2, eR_readPart, iR_readPart_0, iR_readPart_18, iR_readPart_44, iR_readPart_50, iR_readPart_57, iR_readPart_84, iR_readPart_90, iR_readPart_111, iR_readPart_137, iR_readPart_154, vR_readPart, wps, x_cnd, reduceIte, Nat.reduceAdd, Nat.reduceSub, Nat.reduceEqDiff, Nat.reduceLeDiff, Nat.lt_irrefl, Nat.reduceLT, Int.cast_ofNat_Int, wq_c0, wq_c1, true_and, and_true, and_self, true_implies, forall_const, ne_eq, Decidable.not_not, not_true_eq_false, not_false_eq_true, List.map_nil, List.map_cons, List.sum_nil, List.sum_cons, List.length_cons, List.length_nil, Nat.le_refl, Nat.zero_le, reduceCtorEq, true_or, or_true, false_or, or_false, false_and, and_false, false_implies, Nat.zero_add, Nat.add_zero, Int.reduceEq, Int.reduceNe, Int.reduceLT, Int.reduceLE, Int.reduceNeg, Int.reduceToNat, Nat.not_lt_zero, Int.reduceAdd, fxs F]
        exact k M' fl
      · refine cR_nameInToken F A1 c1 (by omega) ?_
        simp only [wq_g3, wq_gc, wq_g, wq_g1, wq_g2, eR_readPart, iR_readPart_0, iR_readPart_18, iR_readPart_44, iR_readPart_50, iR_readPart_57, iR_readPart_84, iR_readPart_90, iR_readPart_111, iR_readPart_137, iR_readPart_154, vR_readPart, wps, x_cnd, reduceIte, Nat.reduceAdd, Nat.reduceSub, Nat.reduceEqDiff, Nat.reduceLeDiff, Nat.lt_irrefl, Nat.reduceLT, Int.cast_ofNat_Int, wq_c0, wq_c1, true_and, and_true, and_self, true_implies, forall_const, ne_eq, Decidable.not_not, not_true_eq_false, not_false_eq_true, List.map_nil, List.map_cons, List.sum_nil, List.sum_cons, List.length_cons, List.length_nil, Nat.le_refl, Nat.zero_le, reduceCtorEq, true_or, or_true, false_or, or_false, false_and, and_false, false_implies, Nat.zero_add, Nat.add_zero, Int.reduceEq, Int.reduceNe, Int.reduceLT, Int.reduceLE, Int.reduceNeg, Int.reduceToNat, Nat.not_lt_zero, Int.reduceAdd, fxs F]
        exact ⟨n + 1 + (sP (rS R) - 0), by omega, A1, c1, by omega, 0, by omega, rfl, rfl, fun q hq => by omega⟩
      · rw [if_pos (Or.inr (by omega))] at k
        refine cR_fail F A1 (fun M' fl => ?_)
        simp only [wq_g3, wq_gc, wq_g, wq_g1, wq_g2, eR_readPart, iR_readPart_0, iR_readPart_18, iR_readPart_44, iR_readPart_50, iR_readPart_57, iR_readPart_84, iR_readPart_90, iR_readPart_111, iR_readPart_137, iR_readPart_154, vR_readPart, wps, x_cnd, reduceIte, Nat.reduceAdd, Nat.reduceSub, Nat.reduceEqDiff, Nat.reduceLeDiff, Nat.lt_irrefl, Nat.reduceLT, Int.cast_ofNat_Int, wq_c0, wq_c1, true_and, and_true, and_self, true_implies, forall_const, ne_eq, Decidable.not_not, not_true_eq_false, not_false_eq_true, List.map_nil, List.map_cons, List.sum_nil, List.sum_cons, List.length_cons, List.length_nil, Nat.le_refl, Nat.zero_le, reduceCtorEq, true_or, or_true, false_or, or_false, false_and, and_false, false_implies, Nat.zero_add, Nat.add_zero, Int.reduceEq, Int.reduceNe, Int.reduceLT, Int.reduceLE, Int.reduceNeg, Int.reduceToNat, Nat.not_lt_zero, Int.reduceAdd, fxs F]
        exact k M' fl
    · rw [if_pos (by omega), hx] at k
      refine cR_fail F A (fun M' fl => ?_)
      simp only [wq_g3, wq_gc, wq_g, wq_g1, wq_g2, eR_readPart, iR_readPart_0, iR_readPart_18, iR_readPart_44, iR_readPart_50, iR_readPart_57, iR_readPart_84, iR_readPart_90, iR_readPart_111, iR_readPart_137, iR_readPart_154, vR_readPart, wps, x_cnd, reduceIte, Nat.reduceAdd, Nat.reduceSub, Nat.reduceEqDiff, Nat.reduceLeDiff, Nat.lt_irrefl, Nat.reduceLT, Int.cast_ofNat_Int, wq_c0, wq_c1, true_and, and_true, and_self, true_implies, forall_const, ne_eq, Decidable.not_not, not_true_eq_false, not_false_eq_true, List.map_nil, List.map_cons, List.sum_nil, List.sum_cons, List.length_cons, List.length_nil, Nat.le_refl, Nat.zero_le, reduceCtorEq, true_or, or_true, false_or, or_false, false_and, and_false, false_implies, Nat.zero_add, Nat.add_zero, Int.reduceEq, Int.reduceNe, Int.reduceLT, Int.reduceLE, Int.reduceNeg, Int.reduceToNat, Nat.not_lt_zero, Int.reduceAdd, fxs F]
      exact k M' fl
  · rintro t m ls st M1 h' c n2 ⟨rfl, rfl, rfl, rfl, l0, hP, ⟨rfl, A1, g1, g2, p, q1, q2, l1, l2, q3⟩ | ⟨rfl, g, y, d, R', A1, hP1, hN1, hnz, d0, d1, g0, q2, l2, l3, k2⟩⟩
    · have e2 : M1 3 1 = sP (rS R) := A1.D.p
      obtain ⟨z1, z2, z3⟩ := kin_Lts A1.2.1.2 g1
      have hw : twv B n (ten B n x) = wdk 32 B (ts B n (ten B n x)) (ten B n (ten B n x) - ts B n (ten B n x)) := by
        unfold twv
        rw [← ten_w g1, if_pos g2]
      rw [if_neg (by omega), if_neg (by omega)] at k
      simp only [wq_g3, wq_gc, wq_g, wq_g1, wq_g2, eR_readPart, iR_readPart_0, iR_readPart_18, iR_readPart_44, iR_readPart_50, iR_readPart_57, iR_readPart_84, iR_readPart_90, iR_readPart_111, iR_readPart_137, iR_readPart_154, vR_readPart, wps, x_cnd, reduceIte, Nat.reduceAdd, Nat.reduceSub, Nat.reduceEqDiff, Nat.reduceLeDiff, Nat.lt_irrefl, Nat.reduceLT, Int.cast_ofNat_Int, wq_c0, wq_c1, true_and, and_true, and_self, true_implies, forall_const, ne_eq, Decidable.not_not, not_true_eq_false, not_false_eq_true, List.map_nil, List.map_cons, List.sum_nil, List.sum_cons, List.length_cons, List.length_nil, Nat.le_refl, Nat.zero_le, reduceCtorEq, true_or, or_true, false_or, or_false, false_and, and_false, false_implies, Nat.zero_add, Nat.add_zero, Int.reduceEq, Int.reduceNe, Int.reduceLT, Int.reduceLE, Int.reduceNeg, Int.reduceToNat, Nat.not_lt_zero, Int.reduceAdd, fxs F, l0, l1, l2, e2]
      refine ⟨fun c0 => ⟨by omega, ?_⟩, fun c0 => ⟨by omega, ?_⟩⟩
      · have hcn : cn (fun p => rN R p == twv B n (ten B n x)) (sP (rS R)) = 0 := by
          have : ∀ q : Nat, q < sP (rS R) → (fun p : Int => rN R p == twv B n (ten B n x)) q = (fun _ => false) (q : Int) := fun q hq => by
            have h4 := q3 q (by omega)
            simp only [beq_eq_false_iff_ne]
            exact h4
          rw [cn_congr (Q := fun _ => false) this]
          exact cn_nof
        rw [if_neg (fun q => q hcn), hw] at k
        have hN1 := NM_up A1.N hP g2 (by omega) z3 (y := ten B n x) (b := true)
        have hc6 := A1.c6
        have D1 := A1.upd (R' := (ten B n x, true, rS R, rM R, rC R, up (sP (rS R)) (wdk 32 B (ts B n (ten B n x)) (ten B n (ten B n x) - ts B n (ten B n x))) (rN R))) (M' := x_w M1 15 (sP (rS R)) (wdk 27 B (ts B n (ten B n x)) (ten B n (ten B n x) - ts B n (ten B n x)))) (fun b j hb _ => w_ne (by omega)) (A1.D.frame (fun b j hb => w_ne (by omega))) (by rw [w_ne (by decide)]; exact hc6) hN1 A1.W
        refine cR_nxt F D1 (l' := true) (by rw [g1]; decide) (fun M2 A2 => ?_)
        have hpos := (wdk_0 (b := 32) (Or.inr rfl) z3).2 (by omega)
        have hnz : up (sP (rS R)) (wdk 32 B (ts B n (ten B n x)) (ten B n (ten B n x) - ts B n (ten B n x))) (rN R) (sP (rS R)) ≠ 0 := by
          rw [up_1]
          omega
        simp only [wq_g3, wq_gc, wq_g, wq_g1, wq_g2, eR_readPart, iR_readPart_0, iR_readPart_18, iR_readPart_44, iR_readPart_50, iR_readPart_57, iR_readPart_84, iR_readPart_90, iR_readPart_111, iR_readPart_137, iR_readPart_154, vR_readPart, wps, x_cnd, reduceIte, Nat.reduceAdd, Nat.reduceSub, Nat.reduceEqDiff, Nat.reduceLeDiff, Nat.lt_irrefl, Nat.reduceLT, Int.cast_ofNat_Int, wq_c0, wq_c1, true_and, and_true, and_self, true_implies, forall_const, ne_eq, Decidable.not_not, not_true_eq_false, not_false_eq_true, List.map_nil, List.map_cons, List.sum_nil, List.sum_cons, List.length_cons, List.length_nil, Nat.le_refl, Nat.zero_le, reduceCtorEq, true_or, or_true, false_or, or_false, false_and, and_false, false_implies, Nat.zero_add, Nat.add_zero, Int.reduceEq, Int.reduceNe, Int.reduceLT, Int.reduceLE, Int.reduceNeg, Int.reduceToNat, Nat.not_lt_zero, Int.reduceAdd, fxs F, l0, l1, l2, hP]
        exact ⟨n, by omega, 0, _, 0, _, A2, rfl, rfl, hnz, Int.le_refl _, by omega, by omega, rfl, rfl, rfl, k⟩
      · obtain ⟨s', k', n1, n2, n3, n4⟩ := A1.N.1 p (by omega) (A1.N.2 p (by omega))
        rw [n3, wdk_27 n2 z3, ← hw, ← n4]
        refine ⟨fun c1 => ⟨n + 1 + (sP (rS R) - (p + 1)), by omega, hP, A1, g1, g2, p + 1, by omega, rfl, by rw [w32_of (by omega)]; rfl, fun q hq => ?_⟩, fun c1 => ?_⟩
        · by_cases hqp : q = p
          · subst hqp
            exact c1
          · exact q3 q (by omega)
        · have hcn : cn (fun p => rN R p == twv B n (ten B n x)) (sP (rS R)) ≠ 0 := fun q => by
            have h5 := cn_0 q (q := p) (by omega)
            simp only [beq_eq_false_iff_ne] at h5
            exact h5 c1
          rw [if_pos hcn] at k
          refine cR_fail F A1 (fun M' fl => ?_)
          simp only [wq_g3, wq_gc, wq_g, wq_g1, wq_g2, eR_readPart, iR_readPart_0, iR_readPart_18, iR_readPart_44, iR_readPart_50, iR_readPart_57, iR_readPart_84, iR_readPart_90, iR_readPart_111, iR_readPart_137, iR_readPart_154, vR_readPart, wps, x_cnd, reduceIte, Nat.reduceAdd, Nat.reduceSub, Nat.reduceEqDiff, Nat.reduceLeDiff, Nat.lt_irrefl, Nat.reduceLT, Int.cast_ofNat_Int, wq_c0, wq_c1, true_and, and_true, and_self, true_implies, forall_const, ne_eq, Decidable.not_not, not_true_eq_false, not_false_eq_true, List.map_nil, List.map_cons, List.sum_nil, List.sum_cons, List.length_cons, List.length_nil, Nat.le_refl, Nat.zero_le, reduceCtorEq, true_or, or_true, false_or, or_false, false_and, and_false, false_implies, Nat.zero_add, Nat.add_zero, Int.reduceEq, Int.reduceNe, Int.reduceLT, Int.reduceLE, Int.reduceNeg, Int.reduceToNat, Nat.not_lt_zero, Int.reduceAdd, fxs F, l0]
          exact k M' fl
    · have e2 : M1 2 5 = n := A1.1.1.1
      have e8 := A1.2.1.1.1
      have e1 : M1 3 1 = sP (rS R') := A1.D.p
      simp only [wq_g3, wq_gc, wq_g, wq_g1, wq_g2, eR_readPart, iR_readPart_0, iR_readPart_18, iR_readPart_44, iR_readPart_50, iR_readPart_57, iR_readPart_84, iR_readPart_90, iR_readPart_111, iR_readPart_137, iR_readPart_154, vR_readPart, wps, x_cnd, reduceIte, Nat.reduceAdd, Nat.reduceSub, Nat.reduceEqDiff, Nat.reduceLeDiff, Nat.lt_irrefl, Nat.reduceLT, Int.cast_ofNat_Int, wq_c0, wq_c1, true_and, and_true, and_self, true_implies, forall_const, ne_eq, Decidable.not_not, not_true_eq_false, not_false_eq_true, List.map_nil, List.map_cons, List.sum_nil, List.sum_cons, List.length_cons, List.length_nil, Nat.le_refl, Nat.zero_le, reduceCtorEq, true_or, or_true, false_or, or_false, false_and, and_false, false_implies, Nat.zero_add, Nat.add_zero, Int.reduceEq, Int.reduceNe, Int.reduceLT, Int.reduceLE, Int.reduceNeg, Int.reduceToNat, Nat.not_lt_zero, Int.reduceAdd, fxs F, l0, l2, l3, e2, e8]
      have ex : (n - g = 0 ∨ kin B n y true ≠ 1) → Φ (.inl (some (xI 1))) (x_w M1 3 1 (w32 (M1 3 1 + 1))) h' := fun c0 => by
        rw [pGr_0 c0] at k2
        rw [e1, w32_of (by omega)]
        have hc6 := A1.c6
        have hz : rN R' (sP (rS R')) ≠ 0 := by rw [hP1]; exact hnz
        exact k2 _ (A1.upd (R' := (y, true, parS (rS R'), rM R', rC R', rN R')) (M' := x_w M1 3 1 ((sP (rS R') : Int) + 1)) (fun b j hb _ => w_ne (by omega)) (rC_parS3 A1.D) (by rw [w_ne (by decide)]; exact hc6) (A1.N.par hz (fun j => w_ne (by decide))) (wfR_par A1.W (by omega)))
      refine ⟨fun c0 => ex (Or.inl (by omega)), fun c0 => ⟨fun c1 => ex (Or.inr c1), fun c1 => ?_⟩⟩
      obtain ⟨f, hf⟩ : ∃ f : Nat, n - g = f + 1 := ⟨n - g - 1, by omega⟩
      rw [hf, pGr_s c1] at k2
      refine cR_readGroup F A1 c1 (by omega) (by omega) (fun c p M' hcp fl => ?_) (fun M2 w1 w2 w3 w4 w5 w6 A2 => ?_)
      · simp only [wq_g3, wq_gc, wq_g, wq_g1, wq_g2, eR_readPart, iR_readPart_0, iR_readPart_18, iR_readPart_44, iR_readPart_50, iR_readPart_57, iR_readPart_84, iR_readPart_90, iR_readPart_111, iR_readPart_137, iR_readPart_154, vR_readPart, wps, x_cnd, reduceIte, Nat.reduceAdd, Nat.reduceSub, Nat.reduceEqDiff, Nat.reduceLeDiff, Nat.lt_irrefl, Nat.reduceLT, Int.cast_ofNat_Int, wq_c0, wq_c1, true_and, and_true, and_self, true_implies, forall_const, ne_eq, Decidable.not_not, not_true_eq_false, not_false_eq_true, List.map_nil, List.map_cons, List.sum_nil, List.sum_cons, List.length_cons, List.length_nil, Nat.le_refl, Nat.zero_le, reduceCtorEq, true_or, or_true, false_or, or_false, false_and, and_false, false_implies, Nat.zero_add, Nat.add_zero, Int.reduceEq, Int.reduceNe, Int.reduceLT, Int.reduceLE, Int.reduceNeg, Int.reduceToNat, Nat.not_lt_zero, Int.reduceAdd, fxs F, l0, l2, l3]
        rcases hcp with ⟨u1, u2, u3⟩ | ⟨u1, u2, u3, u4⟩
        · rw [if_pos u1] at k2
          subst u2 u3
          exact k2 M' fl
        · rw [if_neg u1, if_pos (by rw [u2]; exact u3), u2] at k2
          subst u4
          exact k2 M' fl
      · rw [if_neg w1, if_neg (fun q => q w2)] at k2
        simp only [wq_g3, wq_gc, wq_g, wq_g1, wq_g2, eR_readPart, iR_readPart_0, iR_readPart_18, iR_readPart_44, iR_readPart_50, iR_readPart_57, iR_readPart_84, iR_readPart_90, iR_readPart_111, iR_readPart_137, iR_readPart_154, vR_readPart, wps, x_cnd, reduceIte, Nat.reduceAdd, Nat.reduceSub, Nat.reduceEqDiff, Nat.reduceLeDiff, Nat.lt_irrefl, Nat.reduceLT, Int.cast_ofNat_Int, wq_c0, wq_c1, true_and, and_true, and_self, true_implies, forall_const, ne_eq, Decidable.not_not, not_true_eq_false, not_false_eq_true, List.map_nil, List.map_cons, List.sum_nil, List.sum_cons, List.length_cons, List.length_nil, Nat.le_refl, Nat.zero_le, reduceCtorEq, true_or, or_true, false_or, or_false, false_and, and_false, false_implies, Nat.zero_add, Nat.add_zero, Int.reduceEq, Int.reduceNe, Int.reduceLT, Int.reduceLE, Int.reduceNeg, Int.reduceToNat, Nat.not_lt_zero, Int.reduceAdd, fxs F, l0, l2, l3, w5]
        refine cR_nxt F A2 (l' := true) (by rw [w6]; decide) (fun M3 A3 => ?_)
        simp only [wq_g3, wq_gc, wq_g, wq_g1, wq_g2, eR_readPart, iR_readPart_0, iR_readPart_18, iR_readPart_44, iR_readPart_50, iR_readPart_57, iR_readPart_84, iR_readPart_90, iR_readPart_111, iR_readPart_137, iR_readPart_154, vR_readPart, wps, x_cnd, reduceIte, Nat.reduceAdd, Nat.reduceSub, Nat.reduceEqDiff, Nat.reduceLeDiff, Nat.lt_irrefl, Nat.reduceLT, Int.cast_ofNat_Int, wq_c0, wq_c1, true_and, and_true, and_self, true_implies, forall_const, ne_eq, Decidable.not_not, not_true_eq_false, not_false_eq_true, List.map_nil, List.map_cons, List.sum_nil, List.sum_cons, List.length_cons, List.length_nil, Nat.le_refl, Nat.zero_le, reduceCtorEq, true_or, or_true, false_or, or_false, false_and, and_false, false_implies, Nat.zero_add, Nat.add_zero, Int.reduceEq, Int.reduceNe, Int.reduceLT, Int.reduceLE, Int.reduceNeg, Int.reduceToNat, Nat.not_lt_zero, Int.reduceAdd, fxs F, l0, l2, l3]
        have h800 := A1.ts
        simp (disch := omega) only [w32_of]
        have e3 : n - (g + 1) = f := by omega
        rw [← e3] at k2
        refine ⟨n - (g + 1), by omega, hP, g + 1, ten B n (ten B n y), d + tnv B n (ten B n y), (y, true, conR (rS R') (sP (rS R')) d (tnv B n (ten B n y)) (cOf (twv B n y)), rM R', rC R', rN R'), A3, ?_, ?_, hnz, by omega, by omega, by omega, rfl, rfl, congrArg (fun z => some (xI z)) (by omega), k2⟩
        · exact hP1
        · exact hN1
theorem rOut_m {Ψ : xO → xM → xH → Prop} {r : xRr} (k : rOut B n M0 h Φ r) (m : ∀ v M', v = 0 ∨ v = 1 → Φ (.inl (some (xI v))) M' h → Ψ (.inl (some (xI v))) M' h) : rOut B n M0 h Ψ r := by
  cases r with
  | inl e => exact fun M' fl => m 0 M' (Or.inl rfl) (k M' fl)
  | inr R' => exact fun M' fl => m 1 M' (Or.inr rfl) (k M' fl)
theorem cR_readStatement (F : Fx h) (A : RA B n M0 h (rX R) (rL R) R M) (k : rOut B n M0 h Φ (pStm B n R)) : x_Cal zR_readStatement [xA 2] M h Φ := by
  obtain ⟨v0, v1, v2, v3, v4, v5, -, -, -⟩ := wc_v
  unfold pStm at k
  refine x_met0 kR_readStatement (Nat.le_of_ble_eq_true rfl) ?_
  simp only [wq_g3, wq_gc, wq_g, wq_g1, wq_g2, eR_readStatement, iR_readStatement_0, iR_readStatement_14, iR_readStatement_28, iR_readStatement_49, iR_readStatement_70, iR_readStatement_84, iR_readStatement_98, vR_readStatement, wps, x_cnd, reduceIte, Nat.reduceAdd, Nat.reduceSub, Nat.reduceEqDiff, Nat.reduceLeDiff, Nat.lt_irrefl, Nat.reduceLT, Int.cast_ofNat_Int, wq_c0, wq_c1, true_and, and_true, and_self, true_implies, forall_const, ne_eq, Decidable.not_not, not_true_eq_false, not_false_eq_true, List.map_nil, List.map_cons, List.sum_nil, List.sum_cons, List.length_cons, List.length_nil, Nat.le_refl, Nat.zero_le, reduceCtorEq, true_or, or_true, false_or, or_false, false_and, and_false, false_implies, Nat.zero_add, Nat.add_zero, Int.reduceEq, Int.reduceNe, Int.reduceLT, Int.reduceLE, Int.reduceNeg, Int.reduceToNat, Nat.not_lt_zero, Int.reduceAdd, fxs F]
  refine cR_isWord F A (i := 0) (by decide) ?_
  rw [v0]
  simp only [wq_g3, wq_gc, wq_g, wq_g1, wq_g2, eR_readStatement, iR_readStatement_0, iR_readStatement_14, iR_readStatement_28, iR_readStatement_49, iR_readStatement_70, iR_readStatement_84, iR_readStatement_98, vR_readStatement, wps, x_cnd, reduceIte, Nat.reduceAdd, Nat.reduceSub, Nat.reduceEqDiff, Nat.reduceLeDiff, Nat.lt_irrefl, Nat.reduceLT, Int.cast_ofNat_Int, wq_c0, wq_c1, true_and, and_true, and_self, true_implies, forall_const, ne_eq, Decidable.not_not, not_true_eq_false, not_false_eq_true, List.map_nil, List.map_cons, List.sum_nil, List.sum_cons, List.length_cons, List.length_nil, Nat.le_refl, Nat.zero_le, reduceCtorEq, true_or, or_true, false_or, or_false, false_and, and_false, false_implies, Nat.zero_add, Nat.add_zero, Int.reduceEq, Int.reduceNe, Int.reduceLT, Int.reduceLE, Int.reduceNeg, Int.reduceToNat, Nat.not_lt_zero, Int.reduceAdd, fxs F, b01_0]
  refine ⟨fun c0 => cR_isWord F A (i := 1) (by decide) ?_, fun c => ?_⟩
  · rw [v1]
    simp only [wq_g3, wq_gc, wq_g, wq_g1, wq_g2, eR_readStatement, iR_readStatement_0, iR_readStatement_14, iR_readStatement_28, iR_readStatement_49, iR_readStatement_70, iR_readStatement_84, iR_readStatement_98, vR_readStatement, wps, x_cnd, reduceIte, Nat.reduceAdd, Nat.reduceSub, Nat.reduceEqDiff, Nat.reduceLeDiff, Nat.lt_irrefl, Nat.reduceLT, Int.cast_ofNat_Int, wq_c0, wq_c1, true_and, and_true, and_self, true_implies, forall_const, ne_eq, Decidable.not_not, not_true_eq_false, not_false_eq_true, List.map_nil, List.map_cons, List.sum_nil, List.sum_cons, List.length_cons, List.length_nil, Nat.le_refl, Nat.zero_le, reduceCtorEq, true_or, or_true, false_or, or_false, false_and, and_false, false_implies, Nat.zero_add, Nat.add_zero, Int.reduceEq, Int.reduceNe, Int.reduceLT, Int.reduceLE, Int.reduceNeg, Int.reduceToNat, Nat.not_lt_zero, Int.reduceAdd, fxs F, b01_0]
    refine ⟨fun c1 => cR_isWord F A (i := 2) (by decide) ?_, fun c => ?_⟩
    · rw [v2]
      simp only [wq_g3, wq_gc, wq_g, wq_g1, wq_g2, eR_readStatement, iR_readStatement_0, iR_readStatement_14, iR_readStatement_28, iR_readStatement_49, iR_readStatement_70, iR_readStatement_84, iR_readStatement_98, vR_readStatement, wps, x_cnd, reduceIte, Nat.reduceAdd, Nat.reduceSub, Nat.reduceEqDiff, Nat.reduceLeDiff, Nat.lt_irrefl, Nat.reduceLT, Int.cast_ofNat_Int, wq_c0, wq_c1, true_and, and_true, and_self, true_implies, forall_const, ne_eq, Decidable.not_not, not_true_eq_false, not_false_eq_true, List.map_nil, List.map_cons, List.sum_nil, List.sum_cons, List.length_cons, List.length_nil, Nat.le_refl, Nat.zero_le, reduceCtorEq, true_or, or_true, false_or, or_false, false_and, and_false, false_implies, Nat.zero_add, Nat.add_zero, Int.reduceEq, Int.reduceNe, Int.reduceLT, Int.reduceLE, Int.reduceNeg, Int.reduceToNat, Nat.not_lt_zero, Int.reduceAdd, fxs F, b01_0]
      refine ⟨fun c2 => cR_isWord F A (i := 3) (by decide) ?_, fun c => ?_⟩
      · rw [v3]
        simp only [wq_g3, wq_gc, wq_g, wq_g1, wq_g2, eR_readStatement, iR_readStatement_0, iR_readStatement_14, iR_readStatement_28, iR_readStatement_49, iR_readStatement_70, iR_readStatement_84, iR_readStatement_98, vR_readStatement, wps, x_cnd, reduceIte, Nat.reduceAdd, Nat.reduceSub, Nat.reduceEqDiff, Nat.reduceLeDiff, Nat.lt_irrefl, Nat.reduceLT, Int.cast_ofNat_Int, wq_c0, wq_c1, true_and, and_true, and_self, true_implies, forall_const, ne_eq, Decidable.not_not, not_true_eq_false, not_false_eq_true, List.map_nil, List.map_cons, List.sum_nil, List.sum_cons, List.length_cons, List.length_nil, Nat.le_refl, Nat.zero_le, reduceCtorEq, true_or, or_true, false_or, or_false, false_and, and_false, false_implies, Nat.zero_add, Nat.add_zero, Int.reduceEq, Int.reduceNe, Int.reduceLT, Int.reduceLE, Int.reduceNeg, Int.reduceToNat, Nat.not_lt_zero, Int.reduceAdd, fxs F, b01_0]
        refine ⟨fun c3 => cR_isWord F A (i := 4) (by decide) ?_, fun c => ?_⟩
        · rw [v4]
          simp only [wq_g3, wq_gc, wq_g, wq_g1, wq_g2, eR_readStatement, iR_readStatement_0, iR_readStatement_14, iR_readStatement_28, iR_readStatement_49, iR_readStatement_70, iR_readStatement_84, iR_readStatement_98, vR_readStatement, wps, x_cnd, reduceIte, Nat.reduceAdd, Nat.reduceSub, Nat.reduceEqDiff, Nat.reduceLeDiff, Nat.lt_irrefl, Nat.reduceLT, Int.cast_ofNat_Int, wq_c0, wq_c1, true_and, and_true, and_self, true_implies, forall_const, ne_eq, Decidable.not_not, not_true_eq_false, not_false_eq_true, List.map_nil, List.map_cons, List.sum_nil, List.sum_cons, List.length_cons, List.length_nil, Nat.le_refl, Nat.zero_le, reduceCtorEq, true_or, or_true, false_or, or_false, false_and, and_false, false_implies, Nat.zero_add, Nat.add_zero, Int.reduceEq, Int.reduceNe, Int.reduceLT, Int.reduceLE, Int.reduceNeg, Int.reduceToNat, Nat.not_lt_zero, Int.reduceAdd, fxs F, b01_0]
          refine ⟨fun c4 => cR_isWord F A (i := 5) (by decide) ?_, fun c => ?_⟩
          · rw [v5]
            simp only [wq_g3, wq_gc, wq_g, wq_g1, wq_g2, eR_readStatement, iR_readStatement_0, iR_readStatement_14, iR_readStatement_28, iR_readStatement_49, iR_readStatement_70, iR_readStatement_84, iR_readStatement_98, vR_readStatement, wps, x_cnd, reduceIte, Nat.reduceAdd, Nat.reduceSub, Nat.reduceEqDiff, Nat.reduceLeDiff, Nat.lt_irrefl, Nat.reduceLT, Int.cast_ofNat_Int, wq_c0, wq_c1, true_and, and_true, and_self, true_implies, forall_const, ne_eq, Decidable.not_not, not_true_eq_false, not_false_eq_true, List.map_nil, List.map_cons, List.sum_nil, List.sum_cons, List.length_cons, List.length_nil, Nat.le_refl, Nat.zero_le, reduceCtorEq, true_or, or_true, false_or, or_false, false_and, and_false, false_implies, Nat.zero_add, Nat.add_zero, Int.reduceEq, Int.reduceNe, Int.reduceLT, Int.reduceLE, Int.reduceNeg, Int.reduceToNat, Nat.not_lt_zero, Int.reduceAdd, fxs F, b01_0]
            refine ⟨fun c5 => ?_, fun c => ?_⟩
            · refine cR_fail F A (fun M' fl => ?_)
              simp only [wq_g3, wq_gc, wq_g, wq_g1, wq_g2, eR_readStatement, iR_readStatement_0, iR_readStatement_14, iR_readStatement_28, iR_readStatement_49, iR_readStatement_70, iR_readStatement_84, iR_readStatement_98, vR_readStatement, wps, x_cnd, reduceIte, Nat.reduceAdd, Nat.reduceSub, Nat.reduceEqDiff, Nat.reduceLeDiff, Nat.lt_irrefl, Nat.reduceLT, Int.cast_ofNat_Int, wq_c0, wq_c1, true_and, and_true, and_self, true_implies, forall_const, ne_eq, Decidable.not_not, not_true_eq_false, not_false_eq_true, List.map_nil, List.map_cons, List.sum_nil, List.sum_cons, List.length_cons, List.length_nil, Nat.le_refl, Nat.zero_le, reduceCtorEq, true_or, or_true, false_or, or_false, false_and, and_false, false_implies, Nat.zero_add, Nat.add_zero, Int.reduceEq, Int.reduceNe, Int.reduceLT, Int.reduceLE, Int.reduceNeg, Int.reduceToNat, Nat.not_lt_zero, Int.reduceAdd, fxs F]
              by_cases hk : kin B n (rX R) (rL R) = 1
              · rw [if_neg (fun q => q hk), if_neg (fun q => c0 ⟨hk, q⟩), if_neg (fun q => c1 ⟨hk, q⟩), if_neg (fun q => c2 ⟨hk, q⟩), if_neg (fun q => c3 ⟨hk, q⟩), if_neg (fun q => c4 ⟨hk, q⟩), if_neg (fun q => c5 ⟨hk, q⟩)] at k
                exact k M' fl
              · rw [if_pos hk] at k
                exact k M' fl
            · rw [if_neg (fun q => q c.1), if_neg (fun q => c0 ⟨c.1, q⟩), if_neg (fun q => c1 ⟨c.1, q⟩), if_neg (fun q => c2 ⟨c.1, q⟩), if_neg (fun q => c3 ⟨c.1, q⟩), if_neg (fun q => c4 ⟨c.1, q⟩), if_pos c.2] at k
              refine cR_readPart F A rfl c.1 (rOut_m k (fun v M' hv q => ?_))
              simp only [wq_g3, wq_gc, wq_g, wq_g1, wq_g2, eR_readStatement, iR_readStatement_0, iR_readStatement_14, iR_readStatement_28, iR_readStatement_49, iR_readStatement_70, iR_readStatement_84, iR_readStatement_98, vR_readStatement, wps, x_cnd, reduceIte, Nat.reduceAdd, Nat.reduceSub, Nat.reduceEqDiff, Nat.reduceLeDiff, Nat.lt_irrefl, Nat.reduceLT, Int.cast_ofNat_Int, wq_c0, wq_c1, true_and, and_true, and_self, true_implies, forall_const, ne_eq, Decidable.not_not, not_true_eq_false, not_false_eq_true, List.map_nil, List.map_cons, List.sum_nil, List.sum_cons, List.length_cons, List.length_nil, Nat.le_refl, Nat.zero_le, reduceCtorEq, true_or, or_true, false_or, or_false, false_and, and_false, false_implies, Nat.zero_add, Nat.add_zero, Int.reduceEq, Int.reduceNe, Int.reduceLT, Int.reduceLE, Int.reduceNeg, Int.reduceToNat, Nat.not_lt_zero, Int.reduceAdd, fxs F]
              exact ⟨hv, q⟩
          · rw [if_neg (fun q => q c.1), if_neg (fun q => c0 ⟨c.1, q⟩), if_neg (fun q => c1 ⟨c.1, q⟩), if_neg (fun q => c2 ⟨c.1, q⟩), if_neg (fun q => c3 ⟨c.1, q⟩), if_pos c.2] at k
            refine cR_readCut F A rfl c.1 (rOut_m k (fun v M' hv q => ?_))
            simp only [wq_g3, wq_gc, wq_g, wq_g1, wq_g2, eR_readStatement, iR_readStatement_0, iR_readStatement_14, iR_readStatement_28, iR_readStatement_49, iR_readStatement_70, iR_readStatement_84, iR_readStatement_98, vR_readStatement, wps, x_cnd, reduceIte, Nat.reduceAdd, Nat.reduceSub, Nat.reduceEqDiff, Nat.reduceLeDiff, Nat.lt_irrefl, Nat.reduceLT, Int.cast_ofNat_Int, wq_c0, wq_c1, true_and, and_true, and_self, true_implies, forall_const, ne_eq, Decidable.not_not, not_true_eq_false, not_false_eq_true, List.map_nil, List.map_cons, List.sum_nil, List.sum_cons, List.length_cons, List.length_nil, Nat.le_refl, Nat.zero_le, reduceCtorEq, true_or, or_true, false_or, or_false, false_and, and_false, false_implies, Nat.zero_add, Nat.add_zero, Int.reduceEq, Int.reduceNe, Int.reduceLT, Int.reduceLE, Int.reduceNeg, Int.reduceToNat, Nat.not_lt_zero, Int.reduceAdd, fxs F]
            exact ⟨hv, q⟩
        · rw [if_neg (fun q => q c.1), if_neg (fun q => c0 ⟨c.1, q⟩), if_neg (fun q => c1 ⟨c.1, q⟩), if_neg (fun q => c2 ⟨c.1, q⟩), if_pos c.2] at k
          refine cR_readFlag F A c.1 (Or.inr ⟨rfl, rfl⟩) (rOut_m k (fun v M' hv q => ?_))
          simp only [wq_g3, wq_gc, wq_g, wq_g1, wq_g2, eR_readStatement, iR_readStatement_0, iR_readStatement_14, iR_readStatement_28, iR_readStatement_49, iR_readStatement_70, iR_readStatement_84, iR_readStatement_98, vR_readStatement, wps, x_cnd, reduceIte, Nat.reduceAdd, Nat.reduceSub, Nat.reduceEqDiff, Nat.reduceLeDiff, Nat.lt_irrefl, Nat.reduceLT, Int.cast_ofNat_Int, wq_c0, wq_c1, true_and, and_true, and_self, true_implies, forall_const, ne_eq, Decidable.not_not, not_true_eq_false, not_false_eq_true, List.map_nil, List.map_cons, List.sum_nil, List.sum_cons, List.length_cons, List.length_nil, Nat.le_refl, Nat.zero_le, reduceCtorEq, true_or, or_true, false_or, or_false, false_and, and_false, false_implies, Nat.zero_add, Nat.add_zero, Int.reduceEq, Int.reduceNe, Int.reduceLT, Int.reduceLE, Int.reduceNeg, Int.reduceToNat, Nat.not_lt_zero, Int.reduceAdd, fxs F]
          exact ⟨hv, q⟩
      · rw [if_neg (fun q => q c.1), if_neg (fun q => c0 ⟨c.1, q⟩), if_neg (fun q => c1 ⟨c.1, q⟩), if_pos c.2] at k
        refine cR_readFlag F A c.1 (Or.inl ⟨rfl, rfl⟩) (rOut_m k (fun v M' hv q => ?_))
        simp only [wq_g3, wq_gc, wq_g, wq_g1, wq_g2, eR_readStatement, iR_readStatement_0, iR_readStatement_14, iR_readStatement_28, iR_readStatement_49, iR_readStatement_70, iR_readStatement_84, iR_readStatement_98, vR_readStatement, wps, x_cnd, reduceIte, Nat.reduceAdd, Nat.reduceSub, Nat.reduceEqDiff, Nat.reduceLeDiff, Nat.lt_irrefl, Nat.reduceLT, Int.cast_ofNat_Int, wq_c0, wq_c1, true_and, and_true, and_self, true_implies, forall_const, ne_eq, Decidable.not_not, not_true_eq_false, not_false_eq_true, List.map_nil, List.map_cons, List.sum_nil, List.sum_cons, List.length_cons, List.length_nil, Nat.le_refl, Nat.zero_le, reduceCtorEq, true_or, or_true, false_or, or_false, false_and, and_false, false_implies, Nat.zero_add, Nat.add_zero, Int.reduceEq, Int.reduceNe, Int.reduceLT, Int.reduceLE, Int.reduceNeg, Int.reduceToNat, Nat.not_lt_zero, Int.reduceAdd, fxs F]
        exact ⟨hv, q⟩
    · rw [if_neg (fun q => q c.1), if_neg (fun q => c0 ⟨c.1, q⟩), if_pos c.2] at k
      refine cR_readMark F A rfl c.1 (rOut_m k (fun v M' hv q => ?_))
      simp only [wq_g3, wq_gc, wq_g, wq_g1, wq_g2, eR_readStatement, iR_readStatement_0, iR_readStatement_14, iR_readStatement_28, iR_readStatement_49, iR_readStatement_70, iR_readStatement_84, iR_readStatement_98, vR_readStatement, wps, x_cnd, reduceIte, Nat.reduceAdd, Nat.reduceSub, Nat.reduceEqDiff, Nat.reduceLeDiff, Nat.lt_irrefl, Nat.reduceLT, Int.cast_ofNat_Int, wq_c0, wq_c1, true_and, and_true, and_self, true_implies, forall_const, ne_eq, Decidable.not_not, not_true_eq_false, not_false_eq_true, List.map_nil, List.map_cons, List.sum_nil, List.sum_cons, List.length_cons, List.length_nil, Nat.le_refl, Nat.zero_le, reduceCtorEq, true_or, or_true, false_or, or_false, false_and, and_false, false_implies, Nat.zero_add, Nat.add_zero, Int.reduceEq, Int.reduceNe, Int.reduceLT, Int.reduceLE, Int.reduceNeg, Int.reduceToNat, Nat.not_lt_zero, Int.reduceAdd, fxs F]
      exact ⟨hv, q⟩
  · rw [if_neg (fun q => q c.1), if_pos c.2] at k
    refine cR_readBars F A c.1 (rOut_m k (fun v M' hv q => ?_))
    simp only [wq_g3, wq_gc, wq_g, wq_g1, wq_g2, eR_readStatement, iR_readStatement_0, iR_readStatement_14, iR_readStatement_28, iR_readStatement_49, iR_readStatement_70, iR_readStatement_84, iR_readStatement_98, vR_readStatement, wps, x_cnd, reduceIte, Nat.reduceAdd, Nat.reduceSub, Nat.reduceEqDiff, Nat.reduceLeDiff, Nat.lt_irrefl, Nat.reduceLT, Int.cast_ofNat_Int, wq_c0, wq_c1, true_and, and_true, and_self, true_implies, forall_const, ne_eq, Decidable.not_not, not_true_eq_false, not_false_eq_true, List.map_nil, List.map_cons, List.sum_nil, List.sum_cons, List.length_cons, List.length_nil, Nat.le_refl, Nat.zero_le, reduceCtorEq, true_or, or_true, false_or, or_false, false_and, and_false, false_implies, Nat.zero_add, Nat.add_zero, Int.reduceEq, Int.reduceNe, Int.reduceLT, Int.reduceLE, Int.reduceNeg, Int.reduceToNat, Nat.not_lt_zero, Int.reduceAdd, fxs F]
    exact ⟨hv, q⟩
end RST
