/-! the model's changes: marks, cuts -/
section MCUT
variable {A : xAb} {M M' : xM} {h : xH} {Φ : xO → xM → xH → Prop} {S : xSr} {nid : Int}
set_option maxHeartbeats 1000000
theorem MP.w2 {j v : Int} (P : MP A M h) : MP A (x_w M 42 j v) h := P.w42
theorem SG.mark {f f' : Int → Int} (G : SG S f) {l : Nat} {x : Int} (h1 : 1 ≤ l) (h2 : l ≤ 40) (hN : sN S ≤ 150) (hl : f' (324 + l) = x) (hf : ∀ k : Int, k ≠ 324 + l → f' k = f k) : SG (markS S l x) f' := by
  obtain ⟨⟨a1, a2, a3, a4⟩, b, c, d, n⟩ := G
  refine ⟨⟨(hf 0 (by omega)).trans a1, (hf 1 (by omega)).trans a2, (hf 2 (by omega)).trans a3, (hf 3 (by omega)).trans a4⟩, fun p hp => ?_, fun c' hc hne => ⟨(hf _ (by omega)).trans (c c' hc hne).1, (hf _ (by omega)).trans (c c' hc hne).2⟩, fun k k1 k2 => ?_, fun part h6 hq => ?_⟩
  · have hp : p < sN S := hp
    exact ⟨(hf _ (by omega)).trans (b p hp).1, (hf _ (by omega)).trans (b p hp).2⟩
  · show f' (324 + k) = up l x (sM S) k
    by_cases hk : k = l
    · rw [hk, up_1]
      exact hl
    · rw [up_2 (by omega), hf _ (by omega)]
      exact d k k1 k2
  · obtain ⟨K, k1, k2, k3, k4⟩ := n part h6 hq
    refine ⟨K, k1, (hf _ (by omega)).trans k2, fun k hk => ?_, fun id hid => ?_⟩
    · rw [hf _ (by omega), hf _ (by omega)]
      exact k3 k hk
    · obtain ⟨k, hk, hk2⟩ := k4 id hid
      exact ⟨k, hk, (hf _ (by omega)).trans hk2⟩
theorem SG.cut {f f' : Int → Int} (G : SG S f) {c : Nat} {x y : Int} (h1 : c < 10) (hN : sN S ≤ 150) (hb : f' 1 = bs (hasC (cutS S c x y)) 10) (hx : x ≠ -1 → f' (304 + c) = x ∧ f' (314 + c) = y) (hf : ∀ k : Int, k ≠ 1 → k ≠ 304 + c → k ≠ 314 + c → f' k = f k) : SG (cutS S c x y) f' := by
  obtain ⟨⟨a1, a2, a3, a4⟩, b, c2, d, n⟩ := G
  refine ⟨⟨(hf 0 (by omega) (by omega) (by omega)).trans a1, hb, (hf 2 (by omega) (by omega) (by omega)).trans a3, (hf 3 (by omega) (by omega) (by omega)).trans a4⟩, fun p hp => ?_, fun k hk hne => ?_, fun k k1 k2 => (hf _ (by omega) (by omega) (by omega)).trans (d k k1 k2), fun part h6 hq => ?_⟩
  · have hp : p < sN S := hp
    exact ⟨(hf _ (by omega) (by omega) (by omega)).trans (b p hp).1, (hf _ (by omega) (by omega) (by omega)).trans (b p hp).2⟩
  · have hne : up c x (sF S) k ≠ -1 := hne
    show f' (304 + k) = up c x (sF S) k ∧ f' (314 + k) = up c y (sL S) k
    by_cases hkc : k = c
    · subst hkc
      rw [up_1] at hne ⊢
      rw [up_1]
      exact hx hne
    · rw [up_2 (by omega)] at hne ⊢
      rw [up_2 (by omega), hf _ (by omega) (by omega) (by omega), hf _ (by omega) (by omega) (by omega)]
      exact c2 k hk hne
  · obtain ⟨K, k1, k2, k3, k4⟩ := n part h6 hq
    refine ⟨K, k1, (hf _ (by omega) (by omega) (by omega)).trans k2, fun k hk => ?_, fun id hid => ?_⟩
    · rw [hf _ (by omega) (by omega) (by omega), hf _ (by omega) (by omega) (by omega)]
      exact k3 k hk
    · obtain ⟨k, hk, hk2⟩ := k4 id hid
      exact ⟨k, hk, (hf _ (by omega) (by omega) (by omega)).trans hk2⟩
theorem cM_marksNow' (F : Fx h) (G : SG S (M 42)) (k : Φ (.inl (some (xI (mkN S)))) M h) : x_Cal zM_marksNow [xA 41] M h Φ := by
  refine x_metI kM_marksNow (Nat.le_of_ble_eq_true rfl) (fun t m ls st M' h' c n2 => t = 4 ∧ st = [] ∧ h' = h ∧ M' = M ∧ c = 0 ∧ n2 = 0 ∧ ls 0 = some (xA 41) ∧ ∃ p : Nat, p ≤ 40 ∧ m = 40 - p ∧ ls 1 = some (xI (cn (mkb S) p)) ∧ ls 2 = some (xI ((p + 1 : Nat) : Int))) 20 ?_ ?_
  · simp only [wq_g3, wq_gc, wq_g, wq_g1, wq_g2, eM_marksNow, iM_marksNow_0, iM_marksNow_4, iM_marksNow_28, iM_marksNow_34, vM_marksNow, wps, x_cnd, reduceIte, Nat.reduceAdd, Nat.reduceSub, Nat.reduceEqDiff, Nat.reduceLeDiff, Nat.lt_irrefl, Nat.reduceLT, Int.cast_ofNat_Int, wq_c0, wq_c1, true_and, and_true, and_self, true_implies, forall_const, ne_eq, Decidable.not_not, not_true_eq_false, not_false_eq_true, List.map_nil, List.map_cons, List.sum_nil, List.sum_cons, List.length_cons, List.length_nil, Nat.le_refl, Nat.zero_le, reduceCtorEq, true_or, or_true, false_or, or_false, false_and, and_false, false_implies, Nat.zero_add, Nat.add_zero, Int.reduceEq, Int.reduceNe, Int.reduceLT, Int.reduceLE, Int.reduceNeg, Int.reduceToNat, Nat.not_lt_zero, Int.reduceAdd, fxs F]
    exact ⟨40 - 0, 0, by omega, rfl, rfl, rfl⟩
  · rintro t m ls st M1 h' c n2 ⟨rfl, rfl, rfl, rfl, rfl, rfl, l0, p, q1, q2, l1, l2⟩
    simp only [wq_g3, wq_gc, wq_g, wq_g1, wq_g2, eM_marksNow, iM_marksNow_0, iM_marksNow_4, iM_marksNow_28, iM_marksNow_34, vM_marksNow, wps, x_cnd, reduceIte, Nat.reduceAdd, Nat.reduceSub, Nat.reduceEqDiff, Nat.reduceLeDiff, Nat.lt_irrefl, Nat.reduceLT, Int.cast_ofNat_Int, wq_c0, wq_c1, true_and, and_true, and_self, true_implies, forall_const, ne_eq, Decidable.not_not, not_true_eq_false, not_false_eq_true, List.map_nil, List.map_cons, List.sum_nil, List.sum_cons, List.length_cons, List.length_nil, Nat.le_refl, Nat.zero_le, reduceCtorEq, true_or, or_true, false_or, or_false, false_and, and_false, false_implies, Nat.zero_add, Nat.add_zero, Int.reduceEq, Int.reduceNe, Int.reduceLT, Int.reduceLE, Int.reduceNeg, Int.reduceToNat, Nat.not_lt_zero, Int.reduceAdd, fxs F, l0, l1, l2]
    simp (disch := omega) only [w32_of]
    refine ⟨fun c0 => kr k (by unfold mkN; rw [show (40 : Nat) = p by omega]), fun c0 => ⟨by omega, ?_⟩⟩
    rw [G.mk (by omega) (by omega)]
    have hr := cn_rng (P := mkb S) (n := p)
    have hb : mkb S p = true ↔ sM S ((p + 1 : Nat) : Int) ≠ -1 := by unfold mkb; rw [show ((p + 1 : Nat) : Int) = (p : Int) + 1 by omega]; exact bne_iff_ne
    simp (disch := omega) only [w32_of]
    refine ⟨fun c1 => ⟨40 - (p + 1), by omega, p + 1, by omega, rfl, by rw [cn_s0 (bf_of hb (fun q => q c1))], congrArg (fun z => some (xI z)) (by omega)⟩, fun c1 => ⟨40 - (p + 1), by omega, p + 1, by omega, rfl, by rw [cn_s1 (hb.mpr c1)], congrArg (fun z => some (xI z)) (by omega)⟩⟩
theorem cM_removeMark (W : MW A M h) {l : Int} (k : ∀ u M', MW (dRem A l).2 M' h → FM M M' → MA (xk [2]) (dRem A l).1 u M' → Φ (.inl (some (xI u))) M' h) : x_Cal zM_removeMark [xA 41, xI l] M h Φ := by
  have F := W.F
  have hN := W.w.N
  unfold dRem at k
  refine x_met0 kM_removeMark (Nat.le_of_ble_eq_true rfl) ?_
  simp only [wq_g3, wq_gc, wq_g, wq_g1, wq_g2, eM_removeMark, iM_removeMark_0, iM_removeMark_13, iM_removeMark_14, iM_removeMark_22, vM_removeMark, wps, x_cnd, reduceIte, Nat.reduceAdd, Nat.reduceSub, Nat.reduceEqDiff, Nat.reduceLeDiff, Nat.lt_irrefl, Nat.reduceLT, Int.cast_ofNat_Int, wq_c0, wq_c1, true_and, and_true, and_self, true_implies, forall_const, ne_eq, Decidable.not_not, not_true_eq_false, not_false_eq_true, List.map_nil, List.map_cons, List.sum_nil, List.sum_cons, List.length_cons, List.length_nil, Nat.le_refl, Nat.zero_le, reduceCtorEq, true_or, or_true, false_or, or_false, false_and, and_false, false_implies, Nat.zero_add, Nat.add_zero, Int.reduceEq, Int.reduceNe, Int.reduceLT, Int.reduceLE, Int.reduceNeg, Int.reduceToNat, Nat.not_lt_zero, Int.reduceAdd, fxs F]
  refine cM_isMark F W.G ?_
  simp only [wq_g3, wq_gc, wq_g, wq_g1, wq_g2, eM_removeMark, iM_removeMark_0, iM_removeMark_13, iM_removeMark_14, iM_removeMark_22, vM_removeMark, wps, x_cnd, reduceIte, Nat.reduceAdd, Nat.reduceSub, Nat.reduceEqDiff, Nat.reduceLeDiff, Nat.lt_irrefl, Nat.reduceLT, Int.cast_ofNat_Int, wq_c0, wq_c1, true_and, and_true, and_self, true_implies, forall_const, ne_eq, Decidable.not_not, not_true_eq_false, not_false_eq_true, List.map_nil, List.map_cons, List.sum_nil, List.sum_cons, List.length_cons, List.length_nil, Nat.le_refl, Nat.zero_le, reduceCtorEq, true_or, or_true, false_or, or_false, false_and, and_false, false_implies, Nat.zero_add, Nat.add_zero, Int.reduceEq, Int.reduceNe, Int.reduceLT, Int.reduceLE, Int.reduceNeg, Int.reduceToNat, Nat.not_lt_zero, Int.reduceAdd, fxs F, b01_0]
  refine ⟨fun c0 => cM_ref1 F (by decide) ?_, fun c0 => cM_ref0 F ?_⟩
  · simp only [wq_g3, wq_gc, wq_g, wq_g1, wq_g2, eM_removeMark, iM_removeMark_0, iM_removeMark_13, iM_removeMark_14, iM_removeMark_22, vM_removeMark, wps, x_cnd, reduceIte, Nat.reduceAdd, Nat.reduceSub, Nat.reduceEqDiff, Nat.reduceLeDiff, Nat.lt_irrefl, Nat.reduceLT, Int.cast_ofNat_Int, wq_c0, wq_c1, true_and, and_true, and_self, true_implies, forall_const, ne_eq, Decidable.not_not, not_true_eq_false, not_false_eq_true, List.map_nil, List.map_cons, List.sum_nil, List.sum_cons, List.length_cons, List.length_nil, Nat.le_refl, Nat.zero_le, reduceCtorEq, true_or, or_true, false_or, or_false, false_and, and_false, false_implies, Nat.zero_add, Nat.add_zero, Int.reduceEq, Int.reduceNe, Int.reduceLT, Int.reduceLE, Int.reduceNeg, Int.reduceToNat, Nat.not_lt_zero, Int.reduceAdd, fxs F]
    rw [if_neg c0] at k
    exact k _ _ W.thr (FM.r.w (by decide)) (ma_e w_eq rfl rfl)
  · simp only [wq_g3, wq_gc, wq_g, wq_g1, wq_g2, eM_removeMark, iM_removeMark_0, iM_removeMark_13, iM_removeMark_14, iM_removeMark_22, vM_removeMark, wps, x_cnd, reduceIte, Nat.reduceAdd, Nat.reduceSub, Nat.reduceEqDiff, Nat.reduceLeDiff, Nat.lt_irrefl, Nat.reduceLT, Int.cast_ofNat_Int, wq_c0, wq_c1, true_and, and_true, and_self, true_implies, forall_const, ne_eq, Decidable.not_not, not_true_eq_false, not_false_eq_true, List.map_nil, List.map_cons, List.sum_nil, List.sum_cons, List.length_cons, List.length_nil, Nat.le_refl, Nat.zero_le, reduceCtorEq, true_or, or_true, false_or, or_false, false_and, and_false, false_implies, Nat.zero_add, Nat.add_zero, Int.reduceEq, Int.reduceNe, Int.reduceLT, Int.reduceLE, Int.reduceNeg, Int.reduceToNat, Nat.not_lt_zero, Int.reduceAdd, fxs F]
    rw [if_pos c0] at k
    obtain ⟨j, rfl⟩ : ∃ j : Nat, l = j := ⟨l.toNat, by omega⟩
    refine cM_remembers W.thr (fun M2 P2 f2 => ?_)
    have e42 : M2 42 = M 42 := funext (fun j => (f2 42 j (by decide) (by omega)).trans (w_ne (by decide)))
    have G2 : SG (aS A) (M2 42) := by rw [e42]; exact W.G
    simp only [wq_g3, wq_gc, wq_g, wq_g1, wq_g2, eM_removeMark, iM_removeMark_0, iM_removeMark_13, iM_removeMark_14, iM_removeMark_22, vM_removeMark, wps, x_cnd, reduceIte, Nat.reduceAdd, Nat.reduceSub, Nat.reduceEqDiff, Nat.reduceLeDiff, Nat.lt_irrefl, Nat.reduceLT, Int.cast_ofNat_Int, wq_c0, wq_c1, true_and, and_true, and_self, true_implies, forall_const, ne_eq, Decidable.not_not, not_true_eq_false, not_false_eq_true, List.map_nil, List.map_cons, List.sum_nil, List.sum_cons, List.length_cons, List.length_nil, Nat.le_refl, Nat.zero_le, reduceCtorEq, true_or, or_true, false_or, or_false, false_and, and_false, false_implies, Nat.zero_add, Nat.add_zero, Int.reduceEq, Int.reduceNe, Int.reduceLT, Int.reduceLE, Int.reduceNeg, Int.reduceToNat, Nat.not_lt_zero, Int.reduceAdd, fxs F]
    rw [w32_of (by omega)]
    have G3 : SG (markS (aS A) j (-1)) (x_w M2 42 (324 + j) (-1) 42) := G2.mark (by omega) (by omega) hN w_eq (fun k hk => w_nj hk)
    refine ⟨by omega, cM_marksNow' F G3 ?_⟩
    simp only [wq_g3, wq_gc, wq_g, wq_g1, wq_g2, eM_removeMark, iM_removeMark_0, iM_removeMark_13, iM_removeMark_14, iM_removeMark_22, vM_removeMark, wps, x_cnd, reduceIte, Nat.reduceAdd, Nat.reduceSub, Nat.reduceEqDiff, Nat.reduceLeDiff, Nat.lt_irrefl, Nat.reduceLT, Int.cast_ofNat_Int, wq_c0, wq_c1, true_and, and_true, and_self, true_implies, forall_const, ne_eq, Decidable.not_not, not_true_eq_false, not_false_eq_true, List.map_nil, List.map_cons, List.sum_nil, List.sum_cons, List.length_cons, List.length_nil, Nat.le_refl, Nat.zero_le, reduceCtorEq, true_or, or_true, false_or, or_false, false_and, and_false, false_implies, Nat.zero_add, Nat.add_zero, Int.reduceEq, Int.reduceNe, Int.reduceLT, Int.reduceLE, Int.reduceNeg, Int.reduceToNat, Nat.not_lt_zero, Int.reduceAdd, fxs F]
    refine k _ _ (P2.w42.chg G3 (W.w.markS (by omega) (by omega) (fun q => absurd rfl q) (Or.inl rfl) (fun k _ _ _ q => absurd rfl q))) (fun a j ha => ?_) (ma_v ?_ rfl)
    · rw [w_ne (by omega), f2 a j (by omega) (by omega), w_ne (by omega)]
    · rw [w_ne (by decide), f2 41 0 (by decide) (by decide), w_eq]
theorem cM_wrongMark (W : MW A M h) {l b : Int} (k : Φ (.inl (some (xI (if pl (aS A) b = -1 then 1 else if ¬ (1 ≤ l ∧ l ≤ 40) then 2 else if (sit (aS A) (pl (aS A) b) ≠ 0 ∧ sit (aS A) (pl (aS A) b) ≠ l) ∨ (20 ≤ mkN (aS A) ∧ sM (aS A) l = -1) then 3 else 0)))) M h) : x_Cal zM_wrongMark [xA 41, xI l, xI b] M h Φ := by
  have F := W.F
  have h20 := W.w.m20
  refine x_met0 kM_wrongMark (Nat.le_of_ble_eq_true rfl) ?_
  simp only [wq_g3, wq_gc, wq_g, wq_g1, wq_g2, eM_wrongMark, iM_wrongMark_0, iM_wrongMark_10, iM_wrongMark_22, iM_wrongMark_41, iM_wrongMark_42, iM_wrongMark_66, iM_wrongMark_70, iM_wrongMark_71, vM_wrongMark, wps, x_cnd, reduceIte, Nat.reduceAdd, Nat.reduceSub, Nat.reduceEqDiff, Nat.reduceLeDiff, Nat.lt_irrefl, Nat.reduceLT, Int.cast_ofNat_Int, wq_c0, wq_c1, true_and, and_true, and_self, true_implies, forall_const, ne_eq, Decidable.not_not, not_true_eq_false, not_false_eq_true, List.map_nil, List.map_cons, List.sum_nil, List.sum_cons, List.length_cons, List.length_nil, Nat.le_refl, Nat.zero_le, reduceCtorEq, true_or, or_true, false_or, or_false, false_and, and_false, false_implies, Nat.zero_add, Nat.add_zero, Int.reduceEq, Int.reduceNe, Int.reduceLT, Int.reduceLE, Int.reduceNeg, Int.reduceToNat, Nat.not_lt_zero, Int.reduceAdd, fxs F]
  refine cM_isBar F W.G W.w ?_
  simp only [wq_g3, wq_gc, wq_g, wq_g1, wq_g2, eM_wrongMark, iM_wrongMark_0, iM_wrongMark_10, iM_wrongMark_22, iM_wrongMark_41, iM_wrongMark_42, iM_wrongMark_66, iM_wrongMark_70, iM_wrongMark_71, vM_wrongMark, wps, x_cnd, reduceIte, Nat.reduceAdd, Nat.reduceSub, Nat.reduceEqDiff, Nat.reduceLeDiff, Nat.lt_irrefl, Nat.reduceLT, Int.cast_ofNat_Int, wq_c0, wq_c1, true_and, and_true, and_self, true_implies, forall_const, ne_eq, Decidable.not_not, not_true_eq_false, not_false_eq_true, List.map_nil, List.map_cons, List.sum_nil, List.sum_cons, List.length_cons, List.length_nil, Nat.le_refl, Nat.zero_le, reduceCtorEq, true_or, or_true, false_or, or_false, false_and, and_false, false_implies, Nat.zero_add, Nat.add_zero, Int.reduceEq, Int.reduceNe, Int.reduceLT, Int.reduceLE, Int.reduceNeg, Int.reduceToNat, Nat.not_lt_zero, Int.reduceAdd, fxs F, b01_0]
  refine ⟨fun c0 => cM_in ?_, fun c0 => by rw [if_pos c0] at k; exact k⟩
  rw [if_neg c0] at k
  simp only [wq_g3, wq_gc, wq_g, wq_g1, wq_g2, eM_wrongMark, iM_wrongMark_0, iM_wrongMark_10, iM_wrongMark_22, iM_wrongMark_41, iM_wrongMark_42, iM_wrongMark_66, iM_wrongMark_70, iM_wrongMark_71, vM_wrongMark, wps, x_cnd, reduceIte, Nat.reduceAdd, Nat.reduceSub, Nat.reduceEqDiff, Nat.reduceLeDiff, Nat.lt_irrefl, Nat.reduceLT, Int.cast_ofNat_Int, wq_c0, wq_c1, true_and, and_true, and_self, true_implies, forall_const, ne_eq, Decidable.not_not, not_true_eq_false, not_false_eq_true, List.map_nil, List.map_cons, List.sum_nil, List.sum_cons, List.length_cons, List.length_nil, Nat.le_refl, Nat.zero_le, reduceCtorEq, true_or, or_true, false_or, or_false, false_and, and_false, false_implies, Nat.zero_add, Nat.add_zero, Int.reduceEq, Int.reduceNe, Int.reduceLT, Int.reduceLE, Int.reduceNeg, Int.reduceToNat, Nat.not_lt_zero, Int.reduceAdd, fxs F, b01_0]
  refine ⟨fun c1 => cM_letterOn F W.G ?_, fun c1 => by rw [if_pos c1] at k; exact k⟩
  rw [if_neg (fun q => q c1)] at k
  obtain ⟨p, p1, p2, p3⟩ := pl_some c0
  have hs := sit_rng (S := aS A) (p := p)
  rw [← p3, lOn_sit W.w p1]
  rw [p2] at k
  simp only [wq_g3, wq_gc, wq_g, wq_g1, wq_g2, eM_wrongMark, iM_wrongMark_0, iM_wrongMark_10, iM_wrongMark_22, iM_wrongMark_41, iM_wrongMark_42, iM_wrongMark_66, iM_wrongMark_70, iM_wrongMark_71, vM_wrongMark, wps, x_cnd, reduceIte, Nat.reduceAdd, Nat.reduceSub, Nat.reduceEqDiff, Nat.reduceLeDiff, Nat.lt_irrefl, Nat.reduceLT, Int.cast_ofNat_Int, wq_c0, wq_c1, true_and, and_true, and_self, true_implies, forall_const, ne_eq, Decidable.not_not, not_true_eq_false, not_false_eq_true, List.map_nil, List.map_cons, List.sum_nil, List.sum_cons, List.length_cons, List.length_nil, Nat.le_refl, Nat.zero_le, reduceCtorEq, true_or, or_true, false_or, or_false, false_and, and_false, false_implies, Nat.zero_add, Nat.add_zero, Int.reduceEq, Int.reduceNe, Int.reduceLT, Int.reduceLE, Int.reduceNeg, Int.reduceToNat, Nat.not_lt_zero, Int.reduceAdd, fxs F, b01_0]
  have tail : ¬ (sit (aS A) p ≠ 0 ∧ sit (aS A) p ≠ l) → ∀ (ls : xL), ls 0 = some (xA 41) → ls 1 = some (xI l) → x_Cal zM_isMark [xA 41, xI l] M h (x_k x_Cal (0, 0, 1, x_sc0) (wpG x_Cal (0, 0, 1, x_sc0) bM_wrongMark (fun _ _ _ _ _ _ _ => False) Φ 15) Φ [(Instr.ifCond ClassFile.Cond.ne 16, [70], []), (Instr.aload_n 0, [], []), (Instr.invokevirtual 273, [0, 0, 0, 8, 1583, 1585, 77, 115, 1586], [zM_marksNow]), (Instr.bipush 20, [], []), (Instr.if_icmp ClassFile.Cond.ne 7, [70], []), (Instr.nop, [66], [])] ls [] 0 0) := fun hno ls y0 y1 => by
    refine cM_isMark F W.G ?_
    simp only [wq_g3, wq_gc, wq_g, wq_g1, wq_g2, eM_wrongMark, iM_wrongMark_0, iM_wrongMark_10, iM_wrongMark_22, iM_wrongMark_41, iM_wrongMark_42, iM_wrongMark_66, iM_wrongMark_70, iM_wrongMark_71, vM_wrongMark, wps, x_cnd, reduceIte, Nat.reduceAdd, Nat.reduceSub, Nat.reduceEqDiff, Nat.reduceLeDiff, Nat.lt_irrefl, Nat.reduceLT, Int.cast_ofNat_Int, wq_c0, wq_c1, true_and, and_true, and_self, true_implies, forall_const, ne_eq, Decidable.not_not, not_true_eq_false, not_false_eq_true, List.map_nil, List.map_cons, List.sum_nil, List.sum_cons, List.length_cons, List.length_nil, Nat.le_refl, Nat.zero_le, reduceCtorEq, true_or, or_true, false_or, or_false, false_and, and_false, false_implies, Nat.zero_add, Nat.add_zero, Int.reduceEq, Int.reduceNe, Int.reduceLT, Int.reduceLE, Int.reduceNeg, Int.reduceToNat, Nat.not_lt_zero, Int.reduceAdd, fxs F, y0, y1, b01_0]
    refine ⟨fun c3 => kr k (if_neg (fun q => q.elim hno (fun z => c3.2.2 z.2))), fun c3 => cM_marksNow' F W.G ?_⟩
    have hm : sM (aS A) l = -1 := by
      by_cases hm : sM (aS A) l = -1
      · exact hm
      · exact absurd ⟨c1.1, c1.2, hm⟩ c3
    simp only [wq_g3, wq_gc, wq_g, wq_g1, wq_g2, eM_wrongMark, iM_wrongMark_0, iM_wrongMark_10, iM_wrongMark_22, iM_wrongMark_41, iM_wrongMark_42, iM_wrongMark_66, iM_wrongMark_70, iM_wrongMark_71, vM_wrongMark, wps, x_cnd, reduceIte, Nat.reduceAdd, Nat.reduceSub, Nat.reduceEqDiff, Nat.reduceLeDiff, Nat.lt_irrefl, Nat.reduceLT, Int.cast_ofNat_Int, wq_c0, wq_c1, true_and, and_true, and_self, true_implies, forall_const, ne_eq, Decidable.not_not, not_true_eq_false, not_false_eq_true, List.map_nil, List.map_cons, List.sum_nil, List.sum_cons, List.length_cons, List.length_nil, Nat.le_refl, Nat.zero_le, reduceCtorEq, true_or, or_true, false_or, or_false, false_and, and_false, false_implies, Nat.zero_add, Nat.add_zero, Int.reduceEq, Int.reduceNe, Int.reduceLT, Int.reduceLE, Int.reduceNeg, Int.reduceToNat, Nat.not_lt_zero, Int.reduceAdd, fxs F, y0, y1]
    exact ⟨fun c4 => kr k (if_neg (fun q => q.elim hno (fun z => c4 (by omega)))), fun c4 => kr k (if_pos (Or.inr ⟨by omega, hm⟩))⟩
  refine ⟨fun c2 => tail (fun q => q.1 (by omega)) _ rfl rfl, fun c2 => ⟨fun c3 => tail (fun q => q.2 c3) _ rfl rfl, fun c3 => kr k (if_pos (Or.inl ⟨by omega, c3⟩))⟩⟩
theorem cM_putMark (W : MW A M h) {l b : Int} (k : ∀ u M', MW (dPut A l b).2 M' h → FM M M' → MA (xk [2, 1, 0]) (dPut A l b).1 u M' → Φ (.inl (some (xI u))) M' h) : x_Cal zM_putMark [xA 41, xI l, xI b] M h Φ := by
  have F := W.F
  have hN := W.w.N
  unfold dPut at k
  have bad : ∀ e t, (if pl (aS A) b = -1 then (.inr 2, A) else if ¬ (1 ≤ l ∧ l ≤ 40) then (.inr 1, A) else if (sit (aS A) (pl (aS A) b) ≠ 0 ∧ sit (aS A) (pl (aS A) b) ≠ l) ∨ (20 ≤ mkN (aS A) ∧ sM (aS A) l = -1) then (.inr 0, A) else (.inl (sM (aS A) l), aKeep A (markS (aS A) l b) (aI A)) : xAn × xAb) = (.inr e, A) → xk [2, 1, 0] e = t → Φ (.inl (some (xI 0))) (x_w M 41 0 t) h := fun e t he ht => k _ _ (by rw [he]; exact W.thr) (FM.r.w (by decide)) (ma_e w_eq (by rw [he]) ht)
  refine x_met0 kM_putMark (Nat.le_of_ble_eq_true rfl) ?_
  simp only [wq_g3, wq_gc, wq_g, wq_g1, wq_g2, eM_putMark, iM_putMark_0, iM_putMark_15, vM_putMark, wps, x_cnd, reduceIte, Nat.reduceAdd, Nat.reduceSub, Nat.reduceEqDiff, Nat.reduceLeDiff, Nat.lt_irrefl, Nat.reduceLT, Int.cast_ofNat_Int, wq_c0, wq_c1, true_and, and_true, and_self, true_implies, forall_const, ne_eq, Decidable.not_not, not_true_eq_false, not_false_eq_true, List.map_nil, List.map_cons, List.sum_nil, List.sum_cons, List.length_cons, List.length_nil, Nat.le_refl, Nat.zero_le, reduceCtorEq, true_or, or_true, false_or, or_false, false_and, and_false, false_implies, Nat.zero_add, Nat.add_zero, Int.reduceEq, Int.reduceNe, Int.reduceLT, Int.reduceLE, Int.reduceNeg, Int.reduceToNat, Nat.not_lt_zero, Int.reduceAdd, fxs F]
  refine cM_wrongMark W ?_
  simp only [wq_g3, wq_gc, wq_g, wq_g1, wq_g2, eM_putMark, iM_putMark_0, iM_putMark_15, vM_putMark, wps, x_cnd, reduceIte, Nat.reduceAdd, Nat.reduceSub, Nat.reduceEqDiff, Nat.reduceLeDiff, Nat.lt_irrefl, Nat.reduceLT, Int.cast_ofNat_Int, wq_c0, wq_c1, true_and, and_true, and_self, true_implies, forall_const, ne_eq, Decidable.not_not, not_true_eq_false, not_false_eq_true, List.map_nil, List.map_cons, List.sum_nil, List.sum_cons, List.length_cons, List.length_nil, Nat.le_refl, Nat.zero_le, reduceCtorEq, true_or, or_true, false_or, or_false, false_and, and_false, false_implies, Nat.zero_add, Nat.add_zero, Int.reduceEq, Int.reduceNe, Int.reduceLT, Int.reduceLE, Int.reduceNeg, Int.reduceToNat, Nat.not_lt_zero, Int.reduceAdd, fxs F]
  by_cases c0 : pl (aS A) b = -1
  · rw [if_pos c0]
    refine cM_ref1 F (by decide) ?_
    simp only [wq_g3, wq_gc, wq_g, wq_g1, wq_g2, eM_putMark, iM_putMark_0, iM_putMark_15, vM_putMark, wps, x_cnd, reduceIte, Nat.reduceAdd, Nat.reduceSub, Nat.reduceEqDiff, Nat.reduceLeDiff, Nat.lt_irrefl, Nat.reduceLT, Int.cast_ofNat_Int, wq_c0, wq_c1, true_and, and_true, and_self, true_implies, forall_const, ne_eq, Decidable.not_not, not_true_eq_false, not_false_eq_true, List.map_nil, List.map_cons, List.sum_nil, List.sum_cons, List.length_cons, List.length_nil, Nat.le_refl, Nat.zero_le, reduceCtorEq, true_or, or_true, false_or, or_false, false_and, and_false, false_implies, Nat.zero_add, Nat.add_zero, Int.reduceEq, Int.reduceNe, Int.reduceLT, Int.reduceLE, Int.reduceNeg, Int.reduceToNat, Nat.not_lt_zero, Int.reduceAdd, fxs F]
    exact bad 2 1 (if_pos c0) rfl
  · rw [if_neg c0] at k bad ⊢
    by_cases c1 : 1 ≤ l ∧ l ≤ 40
    · rw [if_neg (fun q => q c1)] at k bad ⊢
      by_cases c2 : (sit (aS A) (pl (aS A) b) ≠ 0 ∧ sit (aS A) (pl (aS A) b) ≠ l) ∨ (20 ≤ mkN (aS A) ∧ sM (aS A) l = -1)
      · rw [if_pos c2]
        refine cM_ref1 F (by decide) ?_
        simp only [wq_g3, wq_gc, wq_g, wq_g1, wq_g2, eM_putMark, iM_putMark_0, iM_putMark_15, vM_putMark, wps, x_cnd, reduceIte, Nat.reduceAdd, Nat.reduceSub, Nat.reduceEqDiff, Nat.reduceLeDiff, Nat.lt_irrefl, Nat.reduceLT, Int.cast_ofNat_Int, wq_c0, wq_c1, true_and, and_true, and_self, true_implies, forall_const, ne_eq, Decidable.not_not, not_true_eq_false, not_false_eq_true, List.map_nil, List.map_cons, List.sum_nil, List.sum_cons, List.length_cons, List.length_nil, Nat.le_refl, Nat.zero_le, reduceCtorEq, true_or, or_true, false_or, or_false, false_and, and_false, false_implies, Nat.zero_add, Nat.add_zero, Int.reduceEq, Int.reduceNe, Int.reduceLT, Int.reduceLE, Int.reduceNeg, Int.reduceToNat, Nat.not_lt_zero, Int.reduceAdd, fxs F]
        exact bad 0 3 (if_pos c2) rfl
      · rw [if_neg c2] at k ⊢
        refine cM_ref0 F ?_
        simp only [wq_g3, wq_gc, wq_g, wq_g1, wq_g2, eM_putMark, iM_putMark_0, iM_putMark_15, vM_putMark, wps, x_cnd, reduceIte, Nat.reduceAdd, Nat.reduceSub, Nat.reduceEqDiff, Nat.reduceLeDiff, Nat.lt_irrefl, Nat.reduceLT, Int.cast_ofNat_Int, wq_c0, wq_c1, true_and, and_true, and_self, true_implies, forall_const, ne_eq, Decidable.not_not, not_true_eq_false, not_false_eq_true, List.map_nil, List.map_cons, List.sum_nil, List.sum_cons, List.length_cons, List.length_nil, Nat.le_refl, Nat.zero_le, reduceCtorEq, true_or, or_true, false_or, or_false, false_and, and_false, false_implies, Nat.zero_add, Nat.add_zero, Int.reduceEq, Int.reduceNe, Int.reduceLT, Int.reduceLE, Int.reduceNeg, Int.reduceToNat, Nat.not_lt_zero, Int.reduceAdd, fxs F]
        obtain ⟨p, p1, p2, p3⟩ := pl_some c0
        obtain ⟨j, rfl⟩ : ∃ j : Nat, l = j := ⟨l.toNat, by omega⟩
        refine cM_remembers W.thr (fun M2 P2 f2 => ?_)
        have e42 : M2 42 = M 42 := funext (fun j => (f2 42 j (by decide) (by omega)).trans (w_ne (by decide)))
        have G2 : SG (aS A) (M2 42) := by rw [e42]; exact W.G
        simp only [wq_g3, wq_gc, wq_g, wq_g1, wq_g2, eM_putMark, iM_putMark_0, iM_putMark_15, vM_putMark, wps, x_cnd, reduceIte, Nat.reduceAdd, Nat.reduceSub, Nat.reduceEqDiff, Nat.reduceLeDiff, Nat.lt_irrefl, Nat.reduceLT, Int.cast_ofNat_Int, wq_c0, wq_c1, true_and, and_true, and_self, true_implies, forall_const, ne_eq, Decidable.not_not, not_true_eq_false, not_false_eq_true, List.map_nil, List.map_cons, List.sum_nil, List.sum_cons, List.length_cons, List.length_nil, Nat.le_refl, Nat.zero_le, reduceCtorEq, true_or, or_true, false_or, or_false, false_and, and_false, false_implies, Nat.zero_add, Nat.add_zero, Int.reduceEq, Int.reduceNe, Int.reduceLT, Int.reduceLE, Int.reduceNeg, Int.reduceToNat, Nat.not_lt_zero, Int.reduceAdd, fxs F]
        rw [w32_of (by omega), G2.mk (by omega) (by omega)]
        have G3 : SG (markS (aS A) j b) (x_w M2 42 (324 + j) b 42) := G2.mark (by omega) (by omega) hN w_eq (fun k hk => w_nj hk)
        rw [p2] at c2
        have hid := W.w.id p1
        have W3 : wfS (markS (aS A) j b) (aI A) := by
          refine W.w.markS (by omega) (by omega) (fun _ => ?_) (Or.inr ⟨p, p1, p3⟩) (fun k k1 k2 k3 _ e => ?_)
          · by_cases hm : sM (aS A) j = -1
            · left
              have := W.w.m20
              by_cases hm2 : 20 ≤ mkN (aS A)
              · exact absurd (Or.inr ⟨hm2, hm⟩) c2
              · omega
            · exact Or.inr hm
          · have := (sit_iff W.w p1 k1 k2).mpr (e.trans p3.symm)
            exact c2 (Or.inl ⟨by omega, by omega⟩)
        refine ⟨by omega, by omega, k _ _ (P2.w42.chg G3 W3) (fun a j ha => ?_) (ma_v ?_ rfl)⟩
        · rw [w_ne (by omega), f2 a j (by omega) (by omega), w_ne (by omega)]
        · rw [w_ne (by decide), f2 41 0 (by decide) (by decide), w_eq]
    · rw [if_pos c1]
      refine cM_ref1 F (by decide) ?_
      simp only [wq_g3, wq_gc, wq_g, wq_g1, wq_g2, eM_putMark, iM_putMark_0, iM_putMark_15, vM_putMark, wps, x_cnd, reduceIte, Nat.reduceAdd, Nat.reduceSub, Nat.reduceEqDiff, Nat.reduceLeDiff, Nat.lt_irrefl, Nat.reduceLT, Int.cast_ofNat_Int, wq_c0, wq_c1, true_and, and_true, and_self, true_implies, forall_const, ne_eq, Decidable.not_not, not_true_eq_false, not_false_eq_true, List.map_nil, List.map_cons, List.sum_nil, List.sum_cons, List.length_cons, List.length_nil, Nat.le_refl, Nat.zero_le, reduceCtorEq, true_or, or_true, false_or, or_false, false_and, and_false, false_implies, Nat.zero_add, Nat.add_zero, Int.reduceEq, Int.reduceNe, Int.reduceLT, Int.reduceLE, Int.reduceNeg, Int.reduceToNat, Nat.not_lt_zero, Int.reduceAdd, fxs F]
      exact bad 1 2 (by rw [if_pos c1]) rfl
theorem cM_freeCut (F : Fx h) (G : SG S (M 42)) (k : ∀ c : Nat, c ≤ 10 → (fi (sF S) (-1) 10 = if c = 10 then -1 else (c : Int)) → (c < 10 → sF S c = -1) → Φ (.inl (some (xI c))) M h) : x_Cal zM_freeCut [xA 41] M h Φ := by
  have e1 := G.cb
  refine x_metI kM_freeCut (Nat.le_of_ble_eq_true rfl) (fun t m ls st M' h' c n2 => t = 2 ∧ st = [] ∧ h' = h ∧ M' = M ∧ c = 0 ∧ n2 = 0 ∧ ls 0 = some (xA 41) ∧ ∃ p : Nat, p ≤ 10 ∧ m = 10 - p ∧ ls 1 = some (xI p) ∧ fi (sF S) (-1) p = -1) 20 ?_ ?_
  · simp only [wq_g3, wq_gc, wq_g, wq_g1, wq_g2, eM_freeCut, iM_freeCut_0, iM_freeCut_2, iM_freeCut_28, vM_freeCut, wps, x_cnd, reduceIte, Nat.reduceAdd, Nat.reduceSub, Nat.reduceEqDiff, Nat.reduceLeDiff, Nat.lt_irrefl, Nat.reduceLT, Int.cast_ofNat_Int, wq_c0, wq_c1, true_and, and_true, and_self, true_implies, forall_const, ne_eq, Decidable.not_not, not_true_eq_false, not_false_eq_true, List.map_nil, List.map_cons, List.sum_nil, List.sum_cons, List.length_cons, List.length_nil, Nat.le_refl, Nat.zero_le, reduceCtorEq, true_or, or_true, false_or, or_false, false_and, and_false, false_implies, Nat.zero_add, Nat.add_zero, Int.reduceEq, Int.reduceNe, Int.reduceLT, Int.reduceLE, Int.reduceNeg, Int.reduceToNat, Nat.not_lt_zero, Int.reduceAdd, fxs F]
    exact ⟨10 - 0, 0, by omega, rfl, by rw [Int.natCast_zero], rfl⟩
  · rintro t m ls st M1 h' c n2 ⟨rfl, rfl, rfl, rfl, rfl, rfl, l0, p, q1, q2, l1, q3⟩
    simp only [wq_g3, wq_gc, wq_g, wq_g1, wq_g2, eM_freeCut, iM_freeCut_0, iM_freeCut_2, iM_freeCut_28, vM_freeCut, wps, x_cnd, reduceIte, Nat.reduceAdd, Nat.reduceSub, Nat.reduceEqDiff, Nat.reduceLeDiff, Nat.lt_irrefl, Nat.reduceLT, Int.cast_ofNat_Int, wq_c0, wq_c1, true_and, and_true, and_self, true_implies, forall_const, ne_eq, Decidable.not_not, not_true_eq_false, not_false_eq_true, List.map_nil, List.map_cons, List.sum_nil, List.sum_cons, List.length_cons, List.length_nil, Nat.le_refl, Nat.zero_le, reduceCtorEq, true_or, or_true, false_or, or_false, false_and, and_false, false_implies, Nat.zero_add, Nat.add_zero, Int.reduceEq, Int.reduceNe, Int.reduceLT, Int.reduceLE, Int.reduceNeg, Int.reduceToNat, Nat.not_lt_zero, Int.reduceAdd, fxs F, l0, l1, e1]
    refine ⟨fun c0 => ?_, fun c0 => cM_hasB (by decide) (by omega) ?_⟩
    · have hp : p = 10 := by omega
      subst hp
      exact k 10 (by omega) (by rw [if_pos rfl]; exact q3) (fun q => absurd q (by decide))
    · simp only [wq_g3, wq_gc, wq_g, wq_g1, wq_g2, eM_freeCut, iM_freeCut_0, iM_freeCut_2, iM_freeCut_28, vM_freeCut, wps, x_cnd, reduceIte, Nat.reduceAdd, Nat.reduceSub, Nat.reduceEqDiff, Nat.reduceLeDiff, Nat.lt_irrefl, Nat.reduceLT, Int.cast_ofNat_Int, wq_c0, wq_c1, true_and, and_true, and_self, true_implies, forall_const, ne_eq, Decidable.not_not, not_true_eq_false, not_false_eq_true, List.map_nil, List.map_cons, List.sum_nil, List.sum_cons, List.length_cons, List.length_nil, Nat.le_refl, Nat.zero_le, reduceCtorEq, true_or, or_true, false_or, or_false, false_and, and_false, false_implies, Nat.zero_add, Nat.add_zero, Int.reduceEq, Int.reduceNe, Int.reduceLT, Int.reduceLE, Int.reduceNeg, Int.reduceToNat, Nat.not_lt_zero, Int.reduceAdd, fxs F, l0, l1, e1, b01_0]
      have hb : hasC S p = true ↔ sF S p ≠ -1 := by unfold hasC; exact bne_iff_ne
      refine ⟨fun c1 => ?_, fun c1 => ⟨10 - (p + 1), by omega, p + 1, by omega, rfl, by rw [w32_of (by omega)]; exact congrArg (fun z => some (xI z)) (by omega), fi_step q3 (hb.mp c1)⟩⟩
      have hz : sF S p = -1 := Decidable.not_not.mp (fun q => c1 (hb.mpr q))
      exact k p (by omega) (by rw [if_neg (by omega)]; exact fi_found (by omega) hz q3) (fun _ => hz)
theorem cM_makeCut (W : MW A M h) {f l : Int} (k : ∀ u M', MW (dCut A f l).2 M' h → FM M M' → MA (xk [2, 1, 0]) (dCut A f l).1 u M' → Φ (.inl (some (xI u))) M' h) : x_Cal zM_makeCut [xA 41, xI f, xI l] M h Φ := by
  have F := W.F
  have hN := W.w.N
  have bad : ∀ e t, dCut A f l = (.inr e, A) → xk [2, 1, 0] e = t → Φ (.inl (some (xI 0))) (x_w M 41 0 t) h := fun e t he ht => k _ _ (by rw [he]; exact W.thr) (FM.r.w (by decide)) (ma_e w_eq (by rw [he]) ht)
  unfold dCut at bad k
  refine x_met0 kM_makeCut (Nat.le_of_ble_eq_true rfl) ?_
  simp only [wq_g3, wq_gc, wq_g, wq_g1, wq_g2, eM_makeCut, iM_makeCut_0, iM_makeCut_22, iM_makeCut_26, iM_makeCut_43, iM_makeCut_53, iM_makeCut_54, iM_makeCut_62, vM_makeCut, wps, x_cnd, reduceIte, Nat.reduceAdd, Nat.reduceSub, Nat.reduceEqDiff, Nat.reduceLeDiff, Nat.lt_irrefl, Nat.reduceLT, Int.cast_ofNat_Int, wq_c0, wq_c1, true_and, and_true, and_self, true_implies, forall_const, ne_eq, Decidable.not_not, not_true_eq_false, not_false_eq_true, List.map_nil, List.map_cons, List.sum_nil, List.sum_cons, List.length_cons, List.length_nil, Nat.le_refl, Nat.zero_le, reduceCtorEq, true_or, or_true, false_or, or_false, false_and, and_false, false_implies, Nat.zero_add, Nat.add_zero, Int.reduceEq, Int.reduceNe, Int.reduceLT, Int.reduceLE, Int.reduceNeg, Int.reduceToNat, Nat.not_lt_zero, Int.reduceAdd, fxs F]
  refine cM_freeCut F W.G (fun c hc10 hfi hcn => ?_)
  simp only [wq_g3, wq_gc, wq_g, wq_g1, wq_g2, eM_makeCut, iM_makeCut_0, iM_makeCut_22, iM_makeCut_26, iM_makeCut_43, iM_makeCut_53, iM_makeCut_54, iM_makeCut_62, vM_makeCut, wps, x_cnd, reduceIte, Nat.reduceAdd, Nat.reduceSub, Nat.reduceEqDiff, Nat.reduceLeDiff, Nat.lt_irrefl, Nat.reduceLT, Int.cast_ofNat_Int, wq_c0, wq_c1, true_and, and_true, and_self, true_implies, forall_const, ne_eq, Decidable.not_not, not_true_eq_false, not_false_eq_true, List.map_nil, List.map_cons, List.sum_nil, List.sum_cons, List.length_cons, List.length_nil, Nat.le_refl, Nat.zero_le, reduceCtorEq, true_or, or_true, false_or, or_false, false_and, and_false, false_implies, Nat.zero_add, Nat.add_zero, Int.reduceEq, Int.reduceNe, Int.reduceLT, Int.reduceLE, Int.reduceNeg, Int.reduceToNat, Nat.not_lt_zero, Int.reduceAdd, fxs F]
  refine cM_isBar F W.G W.w ?_
  simp only [wq_g3, wq_gc, wq_g, wq_g1, wq_g2, eM_makeCut, iM_makeCut_0, iM_makeCut_22, iM_makeCut_26, iM_makeCut_43, iM_makeCut_53, iM_makeCut_54, iM_makeCut_62, vM_makeCut, wps, x_cnd, reduceIte, Nat.reduceAdd, Nat.reduceSub, Nat.reduceEqDiff, Nat.reduceLeDiff, Nat.lt_irrefl, Nat.reduceLT, Int.cast_ofNat_Int, wq_c0, wq_c1, true_and, and_true, and_self, true_implies, forall_const, ne_eq, Decidable.not_not, not_true_eq_false, not_false_eq_true, List.map_nil, List.map_cons, List.sum_nil, List.sum_cons, List.length_cons, List.length_nil, Nat.le_refl, Nat.zero_le, reduceCtorEq, true_or, or_true, false_or, or_false, false_and, and_false, false_implies, Nat.zero_add, Nat.add_zero, Int.reduceEq, Int.reduceNe, Int.reduceLT, Int.reduceLE, Int.reduceNeg, Int.reduceToNat, Nat.not_lt_zero, Int.reduceAdd, fxs F, b01_0]
  refine ⟨fun c0 => cM_ref1 F (by decide) ?_, fun c0 => cM_isBar F W.G W.w ?_⟩
  · simp only [wq_g3, wq_gc, wq_g, wq_g1, wq_g2, eM_makeCut, iM_makeCut_0, iM_makeCut_22, iM_makeCut_26, iM_makeCut_43, iM_makeCut_53, iM_makeCut_54, iM_makeCut_62, vM_makeCut, wps, x_cnd, reduceIte, Nat.reduceAdd, Nat.reduceSub, Nat.reduceEqDiff, Nat.reduceLeDiff, Nat.lt_irrefl, Nat.reduceLT, Int.cast_ofNat_Int, wq_c0, wq_c1, true_and, and_true, and_self, true_implies, forall_const, ne_eq, Decidable.not_not, not_true_eq_false, not_false_eq_true, List.map_nil, List.map_cons, List.sum_nil, List.sum_cons, List.length_cons, List.length_nil, Nat.le_refl, Nat.zero_le, reduceCtorEq, true_or, or_true, false_or, or_false, false_and, and_false, false_implies, Nat.zero_add, Nat.add_zero, Int.reduceEq, Int.reduceNe, Int.reduceLT, Int.reduceLE, Int.reduceNeg, Int.reduceToNat, Nat.not_lt_zero, Int.reduceAdd, fxs F]
    exact bad 2 1 (if_pos (Or.inl c0)) rfl
  · simp only [wq_g3, wq_gc, wq_g, wq_g1, wq_g2, eM_makeCut, iM_makeCut_0, iM_makeCut_22, iM_makeCut_26, iM_makeCut_43, iM_makeCut_53, iM_makeCut_54, iM_makeCut_62, vM_makeCut, wps, x_cnd, reduceIte, Nat.reduceAdd, Nat.reduceSub, Nat.reduceEqDiff, Nat.reduceLeDiff, Nat.lt_irrefl, Nat.reduceLT, Int.cast_ofNat_Int, wq_c0, wq_c1, true_and, and_true, and_self, true_implies, forall_const, ne_eq, Decidable.not_not, not_true_eq_false, not_false_eq_true, List.map_nil, List.map_cons, List.sum_nil, List.sum_cons, List.length_cons, List.length_nil, Nat.le_refl, Nat.zero_le, reduceCtorEq, true_or, or_true, false_or, or_false, false_and, and_false, false_implies, Nat.zero_add, Nat.add_zero, Int.reduceEq, Int.reduceNe, Int.reduceLT, Int.reduceLE, Int.reduceNeg, Int.reduceToNat, Nat.not_lt_zero, Int.reduceAdd, fxs F, b01_0]
    refine ⟨fun c1 => cM_placeOf F W.G W.w ?_, fun c1 => cM_ref1 F (by decide) ?_⟩
    · simp only [wq_g3, wq_gc, wq_g, wq_g1, wq_g2, eM_makeCut, iM_makeCut_0, iM_makeCut_22, iM_makeCut_26, iM_makeCut_43, iM_makeCut_53, iM_makeCut_54, iM_makeCut_62, vM_makeCut, wps, x_cnd, reduceIte, Nat.reduceAdd, Nat.reduceSub, Nat.reduceEqDiff, Nat.reduceLeDiff, Nat.lt_irrefl, Nat.reduceLT, Int.cast_ofNat_Int, wq_c0, wq_c1, true_and, and_true, and_self, true_implies, forall_const, ne_eq, Decidable.not_not, not_true_eq_false, not_false_eq_true, List.map_nil, List.map_cons, List.sum_nil, List.sum_cons, List.length_cons, List.length_nil, Nat.le_refl, Nat.zero_le, reduceCtorEq, true_or, or_true, false_or, or_false, false_and, and_false, false_implies, Nat.zero_add, Nat.add_zero, Int.reduceEq, Int.reduceNe, Int.reduceLT, Int.reduceLE, Int.reduceNeg, Int.reduceToNat, Nat.not_lt_zero, Int.reduceAdd, fxs F]
      refine cM_placeOf F W.G W.w ?_
      have hor : ¬ (pl (aS A) f = -1 ∨ pl (aS A) l = -1) := fun q => q.elim c0 c1
      simp only [wq_g3, wq_gc, wq_g, wq_g1, wq_g2, eM_makeCut, iM_makeCut_0, iM_makeCut_22, iM_makeCut_26, iM_makeCut_43, iM_makeCut_53, iM_makeCut_54, iM_makeCut_62, vM_makeCut, wps, x_cnd, reduceIte, Nat.reduceAdd, Nat.reduceSub, Nat.reduceEqDiff, Nat.reduceLeDiff, Nat.lt_irrefl, Nat.reduceLT, Int.cast_ofNat_Int, wq_c0, wq_c1, true_and, and_true, and_self, true_implies, forall_const, ne_eq, Decidable.not_not, not_true_eq_false, not_false_eq_true, List.map_nil, List.map_cons, List.sum_nil, List.sum_cons, List.length_cons, List.length_nil, Nat.le_refl, Nat.zero_le, reduceCtorEq, true_or, or_true, false_or, or_false, false_and, and_false, false_implies, Nat.zero_add, Nat.add_zero, Int.reduceEq, Int.reduceNe, Int.reduceLT, Int.reduceLE, Int.reduceNeg, Int.reduceToNat, Nat.not_lt_zero, Int.reduceAdd, fxs F]
      refine ⟨fun c2 => ⟨fun c3 => cM_ref0 F ?_, fun c3 => cM_ref1 F (by decide) ?_⟩, fun c2 => cM_ref1 F (by decide) ?_⟩
      · simp only [wq_g3, wq_gc, wq_g, wq_g1, wq_g2, eM_makeCut, iM_makeCut_0, iM_makeCut_22, iM_makeCut_26, iM_makeCut_43, iM_makeCut_53, iM_makeCut_54, iM_makeCut_62, vM_makeCut, wps, x_cnd, reduceIte, Nat.reduceAdd, Nat.reduceSub, Nat.reduceEqDiff, Nat.reduceLeDiff, Nat.lt_irrefl, Nat.reduceLT, Int.cast_ofNat_Int, wq_c0, wq_c1, true_and, and_true, and_self, true_implies, forall_const, ne_eq, Decidable.not_not, not_true_eq_false, not_false_eq_true, List.map_nil, List.map_cons, List.sum_nil, List.sum_cons, List.length_cons, List.length_nil, Nat.le_refl, Nat.zero_le, reduceCtorEq, true_or, or_true, false_or, or_false, false_and, and_false, false_implies, Nat.zero_add, Nat.add_zero, Int.reduceEq, Int.reduceNe, Int.reduceLT, Int.reduceLE, Int.reduceNeg, Int.reduceToNat, Nat.not_lt_zero, Int.reduceAdd, fxs F]
        have hcl : c < 10 := by omega
        have hz := hcn hcl
        rw [if_neg (by omega)] at hfi
        rw [if_neg hor, if_neg (by omega), hfi, if_neg (by omega)] at k
        obtain ⟨p, p1, p2, p3⟩ := pl_some c0
        obtain ⟨q, q1, q2, q3⟩ := pl_some c1
        have hidp := W.w.id p1
        refine cM_remembers W.thr (fun M2 P2 f2 => ?_)
        have e42 : M2 42 = M 42 := funext (fun j => (f2 42 j (by decide) (by omega)).trans (w_ne (by decide)))
        have G2 : SG (aS A) (M2 42) := by rw [e42]; exact W.G
        have e1 := G2.cb
        simp only [wq_g3, wq_gc, wq_g, wq_g1, wq_g2, eM_makeCut, iM_makeCut_0, iM_makeCut_22, iM_makeCut_26, iM_makeCut_43, iM_makeCut_53, iM_makeCut_54, iM_makeCut_62, vM_makeCut, wps, x_cnd, reduceIte, Nat.reduceAdd, Nat.reduceSub, Nat.reduceEqDiff, Nat.reduceLeDiff, Nat.lt_irrefl, Nat.reduceLT, Int.cast_ofNat_Int, wq_c0, wq_c1, true_and, and_true, and_self, true_implies, forall_const, ne_eq, Decidable.not_not, not_true_eq_false, not_false_eq_true, List.map_nil, List.map_cons, List.sum_nil, List.sum_cons, List.length_cons, List.length_nil, Nat.le_refl, Nat.zero_le, reduceCtorEq, true_or, or_true, false_or, or_false, false_and, and_false, false_implies, Nat.zero_add, Nat.add_zero, Int.reduceEq, Int.reduceNe, Int.reduceLT, Int.reduceLE, Int.reduceNeg, Int.reduceToNat, Nat.not_lt_zero, Int.reduceAdd, fxs F, e1]
        simp (disch := omega) only [w32_of]
        have hon : x_or (bs (hasC (aS A)) 10) (x_shl 1 c) = bs (hasC (cutS (aS A) c f l)) 10 := bs_on hcl (by decide) (fun r _ hne => by
          show (up c f (sF (aS A)) r != -1) = (sF (aS A) r != -1)
          rw [up_2 (by omega)]) (by
          show (up c f (sF (aS A)) c != -1) = true
          rw [up_1]
          exact bne_iff_ne.mpr (by omega))
        rw [hon]
        have G3 : SG (cutS (aS A) c f l) ((x_w (x_w (x_w M2 42 1 (bs (hasC (cutS (aS A) c f l)) 10)) 42 (304 + c) f) 42 (314 + c) l) 42) := G2.cut hcl hN (by rw [w_nj (by omega), w_nj (by omega), w_eq]) (fun _ => ⟨by rw [w_nj (by omega), w_eq], w_eq⟩) (fun k h1 h2 h3 => by rw [w_nj h3, w_nj h2, w_nj h1])
        refine ⟨by omega, by omega, k _ _ (P2.w42.w42.w42.chg G3 (W.w.cutS (Or.inr ⟨p, q, by omega, q1, p3, q3⟩))) (fun a j ha => ?_) (ma_v ?_ rfl)⟩
        · rw [w_ne (by omega), w_ne (by omega), w_ne (by omega), f2 a j (by omega) (by omega), w_ne (by omega)]
        · rw [w_ne (by decide), w_ne (by decide), w_ne (by decide), f2 41 0 (by decide) (by decide), w_eq]
      · simp only [wq_g3, wq_gc, wq_g, wq_g1, wq_g2, eM_makeCut, iM_makeCut_0, iM_makeCut_22, iM_makeCut_26, iM_makeCut_43, iM_makeCut_53, iM_makeCut_54, iM_makeCut_62, vM_makeCut, wps, x_cnd, reduceIte, Nat.reduceAdd, Nat.reduceSub, Nat.reduceEqDiff, Nat.reduceLeDiff, Nat.lt_irrefl, Nat.reduceLT, Int.cast_ofNat_Int, wq_c0, wq_c1, true_and, and_true, and_self, true_implies, forall_const, ne_eq, Decidable.not_not, not_true_eq_false, not_false_eq_true, List.map_nil, List.map_cons, List.sum_nil, List.sum_cons, List.length_cons, List.length_nil, Nat.le_refl, Nat.zero_le, reduceCtorEq, true_or, or_true, false_or, or_false, false_and, and_false, false_implies, Nat.zero_add, Nat.add_zero, Int.reduceEq, Int.reduceNe, Int.reduceLT, Int.reduceLE, Int.reduceNeg, Int.reduceToNat, Nat.not_lt_zero, Int.reduceAdd, fxs F]
        rw [if_pos (by omega)] at hfi
        exact bad 0 3 (by rw [if_neg hor, if_neg (by omega), if_pos hfi]) rfl
      · simp only [wq_g3, wq_gc, wq_g, wq_g1, wq_g2, eM_makeCut, iM_makeCut_0, iM_makeCut_22, iM_makeCut_26, iM_makeCut_43, iM_makeCut_53, iM_makeCut_54, iM_makeCut_62, vM_makeCut, wps, x_cnd, reduceIte, Nat.reduceAdd, Nat.reduceSub, Nat.reduceEqDiff, Nat.reduceLeDiff, Nat.lt_irrefl, Nat.reduceLT, Int.cast_ofNat_Int, wq_c0, wq_c1, true_and, and_true, and_self, true_implies, forall_const, ne_eq, Decidable.not_not, not_true_eq_false, not_false_eq_true, List.map_nil, List.map_cons, List.sum_nil, List.sum_cons, List.length_cons, List.length_nil, Nat.le_refl, Nat.zero_le, reduceCtorEq, true_or, or_true, false_or, or_false, false_and, and_false, false_implies, Nat.zero_add, Nat.add_zero, Int.reduceEq, Int.reduceNe, Int.reduceLT, Int.reduceLE, Int.reduceNeg, Int.reduceToNat, Nat.not_lt_zero, Int.reduceAdd, fxs F]
        exact bad 1 2 (by rw [if_neg hor, if_pos (by omega)]) rfl
    · simp only [wq_g3, wq_gc, wq_g, wq_g1, wq_g2, eM_makeCut, iM_makeCut_0, iM_makeCut_22, iM_makeCut_26, iM_makeCut_43, iM_makeCut_53, iM_makeCut_54, iM_makeCut_62, vM_makeCut, wps, x_cnd, reduceIte, Nat.reduceAdd, Nat.reduceSub, Nat.reduceEqDiff, Nat.reduceLeDiff, Nat.lt_irrefl, Nat.reduceLT, Int.cast_ofNat_Int, wq_c0, wq_c1, true_and, and_true, and_self, true_implies, forall_const, ne_eq, Decidable.not_not, not_true_eq_false, not_false_eq_true, List.map_nil, List.map_cons, List.sum_nil, List.sum_cons, List.length_cons, List.length_nil, Nat.le_refl, Nat.zero_le, reduceCtorEq, true_or, or_true, false_or, or_false, false_and, and_false, false_implies, Nat.zero_add, Nat.add_zero, Int.reduceEq, Int.reduceNe, Int.reduceLT, Int.reduceLE, Int.reduceNeg, Int.reduceToNat, Nat.not_lt_zero, Int.reduceAdd, fxs F]
      exact bad 2 1 (if_pos (Or.inr c1)) rfl
theorem cM_openCut (W : MW A M h) {c : Int} (k : ∀ u M', MW (dOpen A c).2 M' h → FM M M' → MA (xk [2]) (dOpen A c).1 u M' → Φ (.inl (some (xI u))) M' h) : x_Cal zM_openCut [xA 41, xI c] M h Φ := by
  have F := W.F
  have hN := W.w.N
  unfold dOpen at k
  refine x_met0 kM_openCut (Nat.le_of_ble_eq_true rfl) ?_
  simp only [wq_g3, wq_gc, wq_g, wq_g1, wq_g2, eM_openCut, iM_openCut_0, iM_openCut_13, iM_openCut_14, iM_openCut_22, vM_openCut, wps, x_cnd, reduceIte, Nat.reduceAdd, Nat.reduceSub, Nat.reduceEqDiff, Nat.reduceLeDiff, Nat.lt_irrefl, Nat.reduceLT, Int.cast_ofNat_Int, wq_c0, wq_c1, true_and, and_true, and_self, true_implies, forall_const, ne_eq, Decidable.not_not, not_true_eq_false, not_false_eq_true, List.map_nil, List.map_cons, List.sum_nil, List.sum_cons, List.length_cons, List.length_nil, Nat.le_refl, Nat.zero_le, reduceCtorEq, true_or, or_true, false_or, or_false, false_and, and_false, false_implies, Nat.zero_add, Nat.add_zero, Int.reduceEq, Int.reduceNe, Int.reduceLT, Int.reduceLE, Int.reduceNeg, Int.reduceToNat, Nat.not_lt_zero, Int.reduceAdd, fxs F]
  refine cM_isCut F W.G ?_
  simp only [wq_g3, wq_gc, wq_g, wq_g1, wq_g2, eM_openCut, iM_openCut_0, iM_openCut_13, iM_openCut_14, iM_openCut_22, vM_openCut, wps, x_cnd, reduceIte, Nat.reduceAdd, Nat.reduceSub, Nat.reduceEqDiff, Nat.reduceLeDiff, Nat.lt_irrefl, Nat.reduceLT, Int.cast_ofNat_Int, wq_c0, wq_c1, true_and, and_true, and_self, true_implies, forall_const, ne_eq, Decidable.not_not, not_true_eq_false, not_false_eq_true, List.map_nil, List.map_cons, List.sum_nil, List.sum_cons, List.length_cons, List.length_nil, Nat.le_refl, Nat.zero_le, reduceCtorEq, true_or, or_true, false_or, or_false, false_and, and_false, false_implies, Nat.zero_add, Nat.add_zero, Int.reduceEq, Int.reduceNe, Int.reduceLT, Int.reduceLE, Int.reduceNeg, Int.reduceToNat, Nat.not_lt_zero, Int.reduceAdd, fxs F, b01_0]
  refine ⟨fun c0 => cM_ref1 F (by decide) ?_, fun c0 => cM_ref0 F ?_⟩
  · simp only [wq_g3, wq_gc, wq_g, wq_g1, wq_g2, eM_openCut, iM_openCut_0, iM_openCut_13, iM_openCut_14, iM_openCut_22, vM_openCut, wps, x_cnd, reduceIte, Nat.reduceAdd, Nat.reduceSub, Nat.reduceEqDiff, Nat.reduceLeDiff, Nat.lt_irrefl, Nat.reduceLT, Int.cast_ofNat_Int, wq_c0, wq_c1, true_and, and_true, and_self, true_implies, forall_const, ne_eq, Decidable.not_not, not_true_eq_false, not_false_eq_true, List.map_nil, List.map_cons, List.sum_nil, List.sum_cons, List.length_cons, List.length_nil, Nat.le_refl, Nat.zero_le, reduceCtorEq, true_or, or_true, false_or, or_false, false_and, and_false, false_implies, Nat.zero_add, Nat.add_zero, Int.reduceEq, Int.reduceNe, Int.reduceLT, Int.reduceLE, Int.reduceNeg, Int.reduceToNat, Nat.not_lt_zero, Int.reduceAdd, fxs F]
    rw [if_neg c0] at k
    exact k _ _ W.thr (FM.r.w (by decide)) (ma_e w_eq rfl rfl)
  · simp only [wq_g3, wq_gc, wq_g, wq_g1, wq_g2, eM_openCut, iM_openCut_0, iM_openCut_13, iM_openCut_14, iM_openCut_22, vM_openCut, wps, x_cnd, reduceIte, Nat.reduceAdd, Nat.reduceSub, Nat.reduceEqDiff, Nat.reduceLeDiff, Nat.lt_irrefl, Nat.reduceLT, Int.cast_ofNat_Int, wq_c0, wq_c1, true_and, and_true, and_self, true_implies, forall_const, ne_eq, Decidable.not_not, not_true_eq_false, not_false_eq_true, List.map_nil, List.map_cons, List.sum_nil, List.sum_cons, List.length_cons, List.length_nil, Nat.le_refl, Nat.zero_le, reduceCtorEq, true_or, or_true, false_or, or_false, false_and, and_false, false_implies, Nat.zero_add, Nat.add_zero, Int.reduceEq, Int.reduceNe, Int.reduceLT, Int.reduceLE, Int.reduceNeg, Int.reduceToNat, Nat.not_lt_zero, Int.reduceAdd, fxs F]
    rw [if_pos c0] at k
    obtain ⟨d, rfl⟩ : ∃ d : Nat, c = d := ⟨c.toNat, by omega⟩
    refine cM_remembers W.thr (fun M2 P2 f2 => ?_)
    have e42 : M2 42 = M 42 := funext (fun j => (f2 42 j (by decide) (by omega)).trans (w_ne (by decide)))
    have G2 : SG (aS A) (M2 42) := by rw [e42]; exact W.G
    have e1 := G2.cb
    simp only [wq_g3, wq_gc, wq_g, wq_g1, wq_g2, eM_openCut, iM_openCut_0, iM_openCut_13, iM_openCut_14, iM_openCut_22, vM_openCut, wps, x_cnd, reduceIte, Nat.reduceAdd, Nat.reduceSub, Nat.reduceEqDiff, Nat.reduceLeDiff, Nat.lt_irrefl, Nat.reduceLT, Int.cast_ofNat_Int, wq_c0, wq_c1, true_and, and_true, and_self, true_implies, forall_const, ne_eq, Decidable.not_not, not_true_eq_false, not_false_eq_true, List.map_nil, List.map_cons, List.sum_nil, List.sum_cons, List.length_cons, List.length_nil, Nat.le_refl, Nat.zero_le, reduceCtorEq, true_or, or_true, false_or, or_false, false_and, and_false, false_implies, Nat.zero_add, Nat.add_zero, Int.reduceEq, Int.reduceNe, Int.reduceLT, Int.reduceLE, Int.reduceNeg, Int.reduceToNat, Nat.not_lt_zero, Int.reduceAdd, fxs F, e1]
    have hoff : x_and (bs (hasC (aS A)) 10) (x_xor (x_shl 1 d) (-1)) = bs (hasC (cutS (aS A) d (-1) (-1))) 10 := bs_off (k := d) (by omega) (by decide) (fun r _ hne => by
      show (up d (-1) (sF (aS A)) r != -1) = (sF (aS A) r != -1)
      rw [up_2 (by omega)]) (by
      show (up d (-1) (sF (aS A)) d != -1) = false
      rw [up_1]
      rfl)
    rw [hoff]
    have G3 : SG (cutS (aS A) d (-1) (-1)) ((x_w M2 42 1 (bs (hasC (cutS (aS A) d (-1) (-1))) 10)) 42) := G2.cut (by omega) hN w_eq (fun q => absurd rfl q) (fun k h1 _ _ => w_nj h1)
    have W3 : MW (aKeep A (cutS (aS A) d (-1) (-1)) (aI A)) (x_w M2 42 1 (bs (hasC (cutS (aS A) d (-1) (-1))) 10)) h := P2.w42.chg G3 (W.w.cutS (Or.inl rfl))
    refine cM_look W3 (fun M4 W4 L4 f4 => ?_)
    have e := L4.n
    simp only [wq_g3, wq_gc, wq_g, wq_g1, wq_g2, eM_openCut, iM_openCut_0, iM_openCut_13, iM_openCut_14, iM_openCut_22, vM_openCut, wps, x_cnd, reduceIte, Nat.reduceAdd, Nat.reduceSub, Nat.reduceEqDiff, Nat.reduceLeDiff, Nat.lt_irrefl, Nat.reduceLT, Int.cast_ofNat_Int, wq_c0, wq_c1, true_and, and_true, and_self, true_implies, forall_const, ne_eq, Decidable.not_not, not_true_eq_false, not_false_eq_true, List.map_nil, List.map_cons, List.sum_nil, List.sum_cons, List.length_cons, List.length_nil, Nat.le_refl, Nat.zero_le, reduceCtorEq, true_or, or_true, false_or, or_false, false_and, and_false, false_implies, Nat.zero_add, Nat.add_zero, Int.reduceEq, Int.reduceNe, Int.reduceLT, Int.reduceLE, Int.reduceNeg, Int.reduceToNat, Nat.not_lt_zero, Int.reduceAdd, fxs F, e]
    refine k _ M4 W4 (fun a j ha => ?_) (ma_v ?_ rfl)
    · rw [f4 a j (by omega) (by omega), w_ne (by omega), f2 a j (by omega) (by omega), w_ne (by omega)]
    · rw [f4 41 0 (by omega) (by omega), w_ne (by decide), f2 41 0 (by decide) (by decide), w_eq]
end MCUT
