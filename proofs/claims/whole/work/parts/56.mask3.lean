/-! the model's questions: items -/
section MASK3
variable {A : xAb} {M M' : xM} {h : xH} {Φ : xO → xM → xH → Prop} {S : xSr} {nid : Int}
set_option maxHeartbeats 1000000
/-- the item j: its first and its end -/
theorem LI_at {part : Int} (L : LI S part M) {j : Nat} (hj : (j : Int) < itN S part) : ∃ a e : Nat, itS S part j = a ∧ itE S part j = e ∧ M 53 j = a ∧ M 53 ((j : Int) + 1) = e ∧ a < e ∧ (e : Int) ≤ pN S ∧ stt S part a = true ∧ cn (stt S part) a = j ∧ cn (stt S part) e = (j : Int) + 1 ∧ (∀ q : Nat, a < q → q < e → stt S part q = false) := by
  have hpn := pN_rng (S := S)
  obtain ⟨a, a1, a2, a3, a4⟩ := nth_some (P := stt S part) (n := (pN S).toNat) (j := j) (by omega) hj
  have h1 := L.2.1 j hj
  have hnx : ∀ e : Nat, e ≤ (pN S).toNat → a < e → (e < (pN S).toNat → stt S part e = true) → cn (stt S part) e = (j : Int) + 1 → itE S part j = e ∧ ∀ q : Nat, a < q → q < e → stt S part q = false := fun e e1 e2 e3 e4 => by
    have hb : ∀ q : Nat, a < q → q < e → stt S part q = false := fun q q1 q2 => by
      cases hq : stt S part q with
      | false => rfl
      | true =>
        have g1 := cn_lt q1 a2
        have g2 := cn_lt q2 hq
        omega
    refine ⟨?_, hb⟩
    unfold itE itS
    rw [a4, Int.toNat_natCast]
    exact nx_eq e1 hb (fun q => ⟨e2, e3 q⟩)
  by_cases hl : (j : Int) + 1 < itN S part
  · obtain ⟨e, e1, e2, e3, e4⟩ := nth_some (P := stt S part) (n := (pN S).toNat) (j := (j : Int) + 1) (by omega) hl
    have hae : a < e := by
      by_cases hc : a < e
      · exact hc
      · have := cn_mono (P := stt S part) (show e ≤ a by omega)
        omega
    obtain ⟨g1, g2⟩ := hnx e (by omega) hae (fun _ => e2) e3
    have h2 := L.2.1 (j + 1) (by omega)
    refine ⟨a, e, a4, g1, h1.trans a4, ?_, hae, by omega, a2, a3, e3, g2⟩
    rw [show ((j + 1 : Nat) : Int) = (j : Int) + 1 by omega] at h2
    exact h2.trans e4
  · have hj1 : (j : Int) + 1 = itN S part := by omega
    obtain ⟨g1, g2⟩ := hnx (pN S).toNat (Nat.le_refl _) a1 (fun q => by omega) (by rw [hj1]; rfl)
    refine ⟨a, (pN S).toNat, a4, g1, h1.trans a4, ?_, a1, by omega, a2, a3, by rw [hj1]; rfl, g2⟩
    rw [hj1, L.2.2]
    omega
theorem cM_sizeOf (F : Fx h) {part : Int} (L : LI S part M) (h150 : pN S ≤ 150) {j : Nat} (hj : (j : Int) < itN S part) (k : Φ (.inl (some (xI (itE S part j - itS S part j)))) M h) : x_Cal zM_sizeOf [xA 41, xI j] M h Φ := by
  have hr := itN_rng (S := S) (part := part)
  obtain ⟨a, e, g1, g2, g3, g4, g5, g6, -⟩ := LI_at L hj
  refine x_met0 kM_sizeOf (Nat.le_of_ble_eq_true rfl) ?_
  simp only [wq_g3, wq_gc, wq_g, wq_g1, wq_g2, eM_sizeOf, iM_sizeOf_0, vM_sizeOf, wps, x_cnd, reduceIte, Nat.reduceAdd, Nat.reduceSub, Nat.reduceEqDiff, Nat.reduceLeDiff, Nat.lt_irrefl, Nat.reduceLT, Int.cast_ofNat_Int, wq_c0, wq_c1, true_and, and_true, and_self, true_implies, forall_const, ne_eq, Decidable.not_not, not_true_eq_false, not_false_eq_true, List.map_nil, List.map_cons, List.sum_nil, List.sum_cons, List.length_cons, List.length_nil, Nat.le_refl, Nat.zero_le, reduceCtorEq, true_or, or_true, false_or, or_false, false_and, and_false, false_implies, Nat.zero_add, Nat.add_zero, Int.reduceEq, Int.reduceNe, Int.reduceLT, Int.reduceLE, Int.reduceNeg, Int.reduceToNat, Nat.not_lt_zero, Int.reduceAdd, fxs F, g3]
  simp (disch := omega) only [w32_of]
  rw [g4]
  rw [g1, g2] at k
  exact ⟨by omega, by omega, k⟩
theorem cM_firstPlace (F : Fx h) (LL : LK S M) {part : Int} (L : LI S part M) (h150 : sN S ≤ 150) {j : Nat} (hj : (j : Int) < itN S part) (k : ∀ a r : Nat, itS S part j = a → pp S a = r → r < sN S → (a : Int) < pN S → Φ (.inl (some (xI r))) M h) : x_Cal zM_firstPlace [xA 41, xI j] M h Φ := by
  have hpn := pN_rng (S := S)
  have hr := itN_rng (S := S) (part := part)
  obtain ⟨a, e, g1, g2, g3, g4, g5, g6, -⟩ := LI_at L hj
  obtain ⟨r, r1, r2, r3, r4⟩ := pp_some (S := S) (k := a) (by omega) (by omega)
  refine x_met0 kM_firstPlace (Nat.le_of_ble_eq_true rfl) ?_
  simp only [wq_g3, wq_gc, wq_g, wq_g1, wq_g2, eM_firstPlace, iM_firstPlace_0, vM_firstPlace, wps, x_cnd, reduceIte, Nat.reduceAdd, Nat.reduceSub, Nat.reduceEqDiff, Nat.reduceLeDiff, Nat.lt_irrefl, Nat.reduceLT, Int.cast_ofNat_Int, wq_c0, wq_c1, true_and, and_true, and_self, true_implies, forall_const, ne_eq, Decidable.not_not, not_true_eq_false, not_false_eq_true, List.map_nil, List.map_cons, List.sum_nil, List.sum_cons, List.length_cons, List.length_nil, Nat.le_refl, Nat.zero_le, reduceCtorEq, true_or, or_true, false_or, or_false, false_and, and_false, false_implies, Nat.zero_add, Nat.add_zero, Int.reduceEq, Int.reduceNe, Int.reduceLT, Int.reduceLE, Int.reduceNeg, Int.reduceToNat, Nat.not_lt_zero, Int.reduceAdd, fxs F, g3]
  rw [LL.pp (by omega), r4]
  exact ⟨by omega, by omega, k a r g1 r4 r1 (by omega)⟩
theorem cM_items (W : MW A M h) {part : Int} (k : ∀ v M', MW A M' h → FM M M' → MA (xk [2]) (anItems (aS A) part) v M' → Φ (.inl (some (xI v))) M' h) : x_Cal zM_items [xA 41, xI part] M h Φ := by
  have F := W.F
  have hP := W.w.P
  refine x_met0 kM_items (Nat.le_of_ble_eq_true rfl) ?_
  simp only [wq_g3, wq_gc, wq_g, wq_g1, wq_g2, eM_items, iM_items_0, iM_items_13, iM_items_14, iM_items_22, vM_items, wps, x_cnd, reduceIte, Nat.reduceAdd, Nat.reduceSub, Nat.reduceEqDiff, Nat.reduceLeDiff, Nat.lt_irrefl, Nat.reduceLT, Int.cast_ofNat_Int, wq_c0, wq_c1, true_and, and_true, and_self, true_implies, forall_const, ne_eq, Decidable.not_not, not_true_eq_false, not_false_eq_true, List.map_nil, List.map_cons, List.sum_nil, List.sum_cons, List.length_cons, List.length_nil, Nat.le_refl, Nat.zero_le, reduceCtorEq, true_or, or_true, false_or, or_false, false_and, and_false, false_implies, Nat.zero_add, Nat.add_zero, Int.reduceEq, Int.reduceNe, Int.reduceLT, Int.reduceLE, Int.reduceNeg, Int.reduceToNat, Nat.not_lt_zero, Int.reduceAdd, fxs F]
  refine cM_isPart F W.G W.w ?_
  simp only [wq_g3, wq_gc, wq_g, wq_g1, wq_g2, eM_items, iM_items_0, iM_items_13, iM_items_14, iM_items_22, vM_items, wps, x_cnd, reduceIte, Nat.reduceAdd, Nat.reduceSub, Nat.reduceEqDiff, Nat.reduceLeDiff, Nat.lt_irrefl, Nat.reduceLT, Int.cast_ofNat_Int, wq_c0, wq_c1, true_and, and_true, and_self, true_implies, forall_const, ne_eq, Decidable.not_not, not_true_eq_false, not_false_eq_true, List.map_nil, List.map_cons, List.sum_nil, List.sum_cons, List.length_cons, List.length_nil, Nat.le_refl, Nat.zero_le, reduceCtorEq, true_or, or_true, false_or, or_false, false_and, and_false, false_implies, Nat.zero_add, Nat.add_zero, Int.reduceEq, Int.reduceNe, Int.reduceLT, Int.reduceLE, Int.reduceNeg, Int.reduceToNat, Nat.not_lt_zero, Int.reduceAdd, fxs F, b01_0]
  refine ⟨fun c0 => cM_ref1 F (by decide) ?_, fun c0 => cM_ref0 F ?_⟩
  · simp only [wq_g3, wq_gc, wq_g, wq_g1, wq_g2, eM_items, iM_items_0, iM_items_13, iM_items_14, iM_items_22, vM_items, wps, x_cnd, reduceIte, Nat.reduceAdd, Nat.reduceSub, Nat.reduceEqDiff, Nat.reduceLeDiff, Nat.lt_irrefl, Nat.reduceLT, Int.cast_ofNat_Int, wq_c0, wq_c1, true_and, and_true, and_self, true_implies, forall_const, ne_eq, Decidable.not_not, not_true_eq_false, not_false_eq_true, List.map_nil, List.map_cons, List.sum_nil, List.sum_cons, List.length_cons, List.length_nil, Nat.le_refl, Nat.zero_le, reduceCtorEq, true_or, or_true, false_or, or_false, false_and, and_false, false_implies, Nat.zero_add, Nat.add_zero, Int.reduceEq, Int.reduceNe, Int.reduceLT, Int.reduceLE, Int.reduceNeg, Int.reduceToNat, Nat.not_lt_zero, Int.reduceAdd, fxs F]
    exact k _ _ W.thr (FM.r.w (by decide)) (ma_e w_eq (anPt_1 c0) rfl)
  · simp only [wq_g3, wq_gc, wq_g, wq_g1, wq_g2, eM_items, iM_items_0, iM_items_13, iM_items_14, iM_items_22, vM_items, wps, x_cnd, reduceIte, Nat.reduceAdd, Nat.reduceSub, Nat.reduceEqDiff, Nat.reduceLeDiff, Nat.lt_irrefl, Nat.reduceLT, Int.cast_ofNat_Int, wq_c0, wq_c1, true_and, and_true, and_self, true_implies, forall_const, ne_eq, Decidable.not_not, not_true_eq_false, not_false_eq_true, List.map_nil, List.map_cons, List.sum_nil, List.sum_cons, List.length_cons, List.length_nil, Nat.le_refl, Nat.zero_le, reduceCtorEq, true_or, or_true, false_or, or_false, false_and, and_false, false_implies, Nat.zero_add, Nat.add_zero, Int.reduceEq, Int.reduceNe, Int.reduceLT, Int.reduceLE, Int.reduceNeg, Int.reduceToNat, Nat.not_lt_zero, Int.reduceAdd, fxs F]
    obtain ⟨q, rfl⟩ : ∃ q : Nat, part = q := ⟨part.toNat, by omega⟩
    refine cM_laysItems W.thr (by omega) (fun M2 W2 L2 I2 f2 t2 => ?_)
    have e := I2.1
    simp only [wq_g3, wq_gc, wq_g, wq_g1, wq_g2, eM_items, iM_items_0, iM_items_13, iM_items_14, iM_items_22, vM_items, wps, x_cnd, reduceIte, Nat.reduceAdd, Nat.reduceSub, Nat.reduceEqDiff, Nat.reduceLeDiff, Nat.lt_irrefl, Nat.reduceLT, Int.cast_ofNat_Int, wq_c0, wq_c1, true_and, and_true, and_self, true_implies, forall_const, ne_eq, Decidable.not_not, not_true_eq_false, not_false_eq_true, List.map_nil, List.map_cons, List.sum_nil, List.sum_cons, List.length_cons, List.length_nil, Nat.le_refl, Nat.zero_le, reduceCtorEq, true_or, or_true, false_or, or_false, false_and, and_false, false_implies, Nat.zero_add, Nat.add_zero, Int.reduceEq, Int.reduceNe, Int.reduceLT, Int.reduceLE, Int.reduceNeg, Int.reduceToNat, Nat.not_lt_zero, Int.reduceAdd, fxs F, e]
    exact k _ _ W2 (fun a j ha => (f2 a j ha).trans (w_ne (by omega))) (ma_v (t2.trans w_eq) (anPt_0 c0))
theorem cM_beatsOf (F : Fx h) (G : SG S (M 42)) (w : wfS S nid) (LL : LK S M) {part : Int} (L : LI S part M) {j : Nat} (hj : (j : Int) < itN S part) (k : Φ (.inl (some (xI (bts S (itS S part j).toNat (itE S part j))))) M h) : x_Cal zM_beatsOf [xA 41, xI j] M h Φ := by
  have hN := w.N
  have hpn := pN_rng (S := S)
  have hr := itN_rng (S := S) (part := part)
  obtain ⟨a, e, g1, g2, g3, g4, g5, g6, -⟩ := LI_at L hj
  rw [g1, g2, Int.toNat_natCast] at k
  refine x_metI kM_beatsOf (Nat.le_of_ble_eq_true rfl) (fun t m ls st M' h' c2 n2 => t = 9 ∧ st = [] ∧ h' = h ∧ M' = M ∧ c2 = 0 ∧ n2 = 0 ∧ ls 0 = some (xA 41) ∧ ls 1 = some (xI j) ∧ ∃ p : Nat, a ≤ p ∧ p ≤ e ∧ m = e - p ∧ ls 2 = some (xI (bts S a p)) ∧ ls 3 = some (xI p)) 20 ?_ ?_
  · simp only [wq_g3, wq_gc, wq_g, wq_g1, wq_g2, eM_beatsOf, iM_beatsOf_0, iM_beatsOf_9, iM_beatsOf_43, vM_beatsOf, wps, x_cnd, reduceIte, Nat.reduceAdd, Nat.reduceSub, Nat.reduceEqDiff, Nat.reduceLeDiff, Nat.lt_irrefl, Nat.reduceLT, Int.cast_ofNat_Int, wq_c0, wq_c1, true_and, and_true, and_self, true_implies, forall_const, ne_eq, Decidable.not_not, not_true_eq_false, not_false_eq_true, List.map_nil, List.map_cons, List.sum_nil, List.sum_cons, List.length_cons, List.length_nil, Nat.le_refl, Nat.zero_le, reduceCtorEq, true_or, or_true, false_or, or_false, false_and, and_false, false_implies, Nat.zero_add, Nat.add_zero, Int.reduceEq, Int.reduceNe, Int.reduceLT, Int.reduceLE, Int.reduceNeg, Int.reduceToNat, Nat.not_lt_zero, Int.reduceAdd, fxs F, g3]
    exact ⟨by omega, e - a, a, Nat.le_refl _, by omega, rfl, by rw [show bts S a a = 0 from sm_z (Nat.le_refl _)], rfl⟩
  · rintro t m ls st M1 h' c2 n2 ⟨rfl, rfl, rfl, rfl, rfl, rfl, l0, l1, p, q1, q2, q3, l2, l3⟩
    simp only [wq_g3, wq_gc, wq_g, wq_g1, wq_g2, eM_beatsOf, iM_beatsOf_0, iM_beatsOf_9, iM_beatsOf_43, vM_beatsOf, wps, x_cnd, reduceIte, Nat.reduceAdd, Nat.reduceSub, Nat.reduceEqDiff, Nat.reduceLeDiff, Nat.lt_irrefl, Nat.reduceLT, Int.cast_ofNat_Int, wq_c0, wq_c1, true_and, and_true, and_self, true_implies, forall_const, ne_eq, Decidable.not_not, not_true_eq_false, not_false_eq_true, List.map_nil, List.map_cons, List.sum_nil, List.sum_cons, List.length_cons, List.length_nil, Nat.le_refl, Nat.zero_le, reduceCtorEq, true_or, or_true, false_or, or_false, false_and, and_false, false_implies, Nat.zero_add, Nat.add_zero, Int.reduceEq, Int.reduceNe, Int.reduceLT, Int.reduceLE, Int.reduceNeg, Int.reduceToNat, Nat.not_lt_zero, Int.reduceAdd, fxs F, l0, l1, l2, l3]
    simp (disch := omega) only [w32_of]
    rw [g4]
    refine ⟨by omega, fun c0 => by rw [show e = p by omega] at k; exact k, fun c0 => ⟨by omega, ?_⟩⟩
    obtain ⟨r, r1, r2, r3, r4⟩ := pp_some (S := S) (k := p) (by omega) (by omega)
    rw [LL.pp (by omega), r4]
    refine cM_whatAt F (by omega) ?_
    rw [G.w r1]
    simp only [wq_g3, wq_gc, wq_g, wq_g1, wq_g2, eM_beatsOf, iM_beatsOf_0, iM_beatsOf_9, iM_beatsOf_43, vM_beatsOf, wps, x_cnd, reduceIte, Nat.reduceAdd, Nat.reduceSub, Nat.reduceEqDiff, Nat.reduceLeDiff, Nat.lt_irrefl, Nat.reduceLT, Int.cast_ofNat_Int, wq_c0, wq_c1, true_and, and_true, and_self, true_implies, forall_const, ne_eq, Decidable.not_not, not_true_eq_false, not_false_eq_true, List.map_nil, List.map_cons, List.sum_nil, List.sum_cons, List.length_cons, List.length_nil, Nat.le_refl, Nat.zero_le, reduceCtorEq, true_or, or_true, false_or, or_false, false_and, and_false, false_implies, Nat.zero_add, Nat.add_zero, Int.reduceEq, Int.reduceNe, Int.reduceLT, Int.reduceLE, Int.reduceNeg, Int.reduceToNat, Nat.not_lt_zero, Int.reduceAdd, fxs F, l0, l1, l2, l3]
    refine cM_beatsIn w r1 ?_
    simp only [wq_g3, wq_gc, wq_g, wq_g1, wq_g2, eM_beatsOf, iM_beatsOf_0, iM_beatsOf_9, iM_beatsOf_43, vM_beatsOf, wps, x_cnd, reduceIte, Nat.reduceAdd, Nat.reduceSub, Nat.reduceEqDiff, Nat.reduceLeDiff, Nat.lt_irrefl, Nat.reduceLT, Int.cast_ofNat_Int, wq_c0, wq_c1, true_and, and_true, and_self, true_implies, forall_const, ne_eq, Decidable.not_not, not_true_eq_false, not_false_eq_true, List.map_nil, List.map_cons, List.sum_nil, List.sum_cons, List.length_cons, List.length_nil, Nat.le_refl, Nat.zero_le, reduceCtorEq, true_or, or_true, false_or, or_false, false_and, and_false, false_implies, Nat.zero_add, Nat.add_zero, Int.reduceEq, Int.reduceNe, Int.reduceLT, Int.reduceLE, Int.reduceNeg, Int.reduceToNat, Nat.not_lt_zero, Int.reduceAdd, fxs F, l0, l1, l2, l3]
    have hb := w.b r1
    have hs : bts S a (p + 1) = bts S a p + sB S r := by
      unfold bts
      rw [sm_s (by omega), r4]
    have hr := sm_rng (f := fun k => sB S (pp S k)) (a := a) (B := 12) (by decide) (n := p) (fun q _ hq => by
      obtain ⟨z, z1, z2, z3, z4⟩ := pp_some (S := S) (k := q) (by omega) (by omega)
      simp only [z4]
      have := w.b z1
      omega)
    have hr2 : 0 ≤ bts S a p ∧ bts S a p ≤ 12 * p := hr
    simp (disch := omega) only [w32_of]
    exact ⟨e - (p + 1), by omega, p + 1, by omega, by omega, rfl, by rw [hs], congrArg (fun z => some (xI z)) (by omega)⟩
theorem cM_item (W : MW A M h) {part i w : Int} (k : ∀ v M', MW A M' h → FM M M' → MA (xk [2, 1, 3]) (anItem (aS A) part i w) v M' → Φ (.inl (some (xI v))) M' h) : x_Cal zM_item [xA 41, xI part, xI i, xI w] M h Φ := by
  have F := W.F
  have hP := W.w.P
  have hN := W.w.N
  have hpn := pN_rng (S := aS A)
  refine x_met0 kM_item (Nat.le_of_ble_eq_true rfl) ?_
  simp only [wq_g3, wq_gc, wq_g, wq_g1, wq_g2, eM_item, iM_item_0, iM_item_13, iM_item_26, iM_item_27, iM_item_35, iM_item_59, iM_item_60, iM_item_68, iM_item_96, iM_item_106, iM_item_112, iM_item_123, vM_item, wps, x_cnd, reduceIte, Nat.reduceAdd, Nat.reduceSub, Nat.reduceEqDiff, Nat.reduceLeDiff, Nat.lt_irrefl, Nat.reduceLT, Int.cast_ofNat_Int, wq_c0, wq_c1, true_and, and_true, and_self, true_implies, forall_const, ne_eq, Decidable.not_not, not_true_eq_false, not_false_eq_true, List.map_nil, List.map_cons, List.sum_nil, List.sum_cons, List.length_cons, List.length_nil, Nat.le_refl, Nat.zero_le, reduceCtorEq, true_or, or_true, false_or, or_false, false_and, and_false, false_implies, Nat.zero_add, Nat.add_zero, Int.reduceEq, Int.reduceNe, Int.reduceLT, Int.reduceLE, Int.reduceNeg, Int.reduceToNat, Nat.not_lt_zero, Int.reduceAdd, fxs F]
  refine cM_isPart F W.G W.w ?_
  simp only [wq_g3, wq_gc, wq_g, wq_g1, wq_g2, eM_item, iM_item_0, iM_item_13, iM_item_26, iM_item_27, iM_item_35, iM_item_59, iM_item_60, iM_item_68, iM_item_96, iM_item_106, iM_item_112, iM_item_123, vM_item, wps, x_cnd, reduceIte, Nat.reduceAdd, Nat.reduceSub, Nat.reduceEqDiff, Nat.reduceLeDiff, Nat.lt_irrefl, Nat.reduceLT, Int.cast_ofNat_Int, wq_c0, wq_c1, true_and, and_true, and_self, true_implies, forall_const, ne_eq, Decidable.not_not, not_true_eq_false, not_false_eq_true, List.map_nil, List.map_cons, List.sum_nil, List.sum_cons, List.length_cons, List.length_nil, Nat.le_refl, Nat.zero_le, reduceCtorEq, true_or, or_true, false_or, or_false, false_and, and_false, false_implies, Nat.zero_add, Nat.add_zero, Int.reduceEq, Int.reduceNe, Int.reduceLT, Int.reduceLE, Int.reduceNeg, Int.reduceToNat, Nat.not_lt_zero, Int.reduceAdd, fxs F, b01_0]
  refine ⟨fun c0 => cM_in ?_, fun c0 => cM_ref1 F (by decide) ?_⟩
  · simp only [wq_g3, wq_gc, wq_g, wq_g1, wq_g2, eM_item, iM_item_0, iM_item_13, iM_item_26, iM_item_27, iM_item_35, iM_item_59, iM_item_60, iM_item_68, iM_item_96, iM_item_106, iM_item_112, iM_item_123, vM_item, wps, x_cnd, reduceIte, Nat.reduceAdd, Nat.reduceSub, Nat.reduceEqDiff, Nat.reduceLeDiff, Nat.lt_irrefl, Nat.reduceLT, Int.cast_ofNat_Int, wq_c0, wq_c1, true_and, and_true, and_self, true_implies, forall_const, ne_eq, Decidable.not_not, not_true_eq_false, not_false_eq_true, List.map_nil, List.map_cons, List.sum_nil, List.sum_cons, List.length_cons, List.length_nil, Nat.le_refl, Nat.zero_le, reduceCtorEq, true_or, or_true, false_or, or_false, false_and, and_false, false_implies, Nat.zero_add, Nat.add_zero, Int.reduceEq, Int.reduceNe, Int.reduceLT, Int.reduceLE, Int.reduceNeg, Int.reduceToNat, Nat.not_lt_zero, Int.reduceAdd, fxs F, b01_0]
    have ea : anItem (aS A) part i w = if w < 0 ∨ 3 < w then .inr 1 else if itS (aS A) part i = -1 then .inr 3 else if w = 0 then .inl (sI (aS A) (pp (aS A) (itS (aS A) part i))) else if w = 1 then .inl ((itE (aS A) part i : Int) - itS (aS A) part i) else if w = 2 then .inl (sC (aS A) part (pp (aS A) (itS (aS A) part i))) else .inl (bts (aS A) (itS (aS A) part i).toNat (itE (aS A) part i)) := anPt_0 c0
    refine ⟨fun c1 => cM_ref0 F ?_, fun c1 => cM_ref1 F (by decide) ?_⟩
    · simp only [wq_g3, wq_gc, wq_g, wq_g1, wq_g2, eM_item, iM_item_0, iM_item_13, iM_item_26, iM_item_27, iM_item_35, iM_item_59, iM_item_60, iM_item_68, iM_item_96, iM_item_106, iM_item_112, iM_item_123, vM_item, wps, x_cnd, reduceIte, Nat.reduceAdd, Nat.reduceSub, Nat.reduceEqDiff, Nat.reduceLeDiff, Nat.lt_irrefl, Nat.reduceLT, Int.cast_ofNat_Int, wq_c0, wq_c1, true_and, and_true, and_self, true_implies, forall_const, ne_eq, Decidable.not_not, not_true_eq_false, not_false_eq_true, List.map_nil, List.map_cons, List.sum_nil, List.sum_cons, List.length_cons, List.length_nil, Nat.le_refl, Nat.zero_le, reduceCtorEq, true_or, or_true, false_or, or_false, false_and, and_false, false_implies, Nat.zero_add, Nat.add_zero, Int.reduceEq, Int.reduceNe, Int.reduceLT, Int.reduceLE, Int.reduceNeg, Int.reduceToNat, Nat.not_lt_zero, Int.reduceAdd, fxs F]
      obtain ⟨q, rfl⟩ : ∃ q : Nat, part = q := ⟨part.toNat, by omega⟩
      rw [if_neg (by omega)] at ea
      refine cM_laysItems W.thr (by omega) (fun M2 W2 L2 I2 f2 t2 => ?_)
      have hr := itN_rng (S := aS A) (part := q)
      have e := I2.1
      have f2' : FM M M2 := fun a j ha => (f2 a j ha).trans (w_ne (by omega))
      simp only [wq_g3, wq_gc, wq_g, wq_g1, wq_g2, eM_item, iM_item_0, iM_item_13, iM_item_26, iM_item_27, iM_item_35, iM_item_59, iM_item_60, iM_item_68, iM_item_96, iM_item_106, iM_item_112, iM_item_123, vM_item, wps, x_cnd, reduceIte, Nat.reduceAdd, Nat.reduceSub, Nat.reduceEqDiff, Nat.reduceLeDiff, Nat.lt_irrefl, Nat.reduceLT, Int.cast_ofNat_Int, wq_c0, wq_c1, true_and, and_true, and_self, true_implies, forall_const, ne_eq, Decidable.not_not, not_true_eq_false, not_false_eq_true, List.map_nil, List.map_cons, List.sum_nil, List.sum_cons, List.length_cons, List.length_nil, Nat.le_refl, Nat.zero_le, reduceCtorEq, true_or, or_true, false_or, or_false, false_and, and_false, false_implies, Nat.zero_add, Nat.add_zero, Int.reduceEq, Int.reduceNe, Int.reduceLT, Int.reduceLE, Int.reduceNeg, Int.reduceToNat, Nat.not_lt_zero, Int.reduceAdd, fxs F, e]
      simp (disch := omega) only [w32_of]
      refine cM_in ?_
      simp only [wq_g3, wq_gc, wq_g, wq_g1, wq_g2, eM_item, iM_item_0, iM_item_13, iM_item_26, iM_item_27, iM_item_35, iM_item_59, iM_item_60, iM_item_68, iM_item_96, iM_item_106, iM_item_112, iM_item_123, vM_item, wps, x_cnd, reduceIte, Nat.reduceAdd, Nat.reduceSub, Nat.reduceEqDiff, Nat.reduceLeDiff, Nat.lt_irrefl, Nat.reduceLT, Int.cast_ofNat_Int, wq_c0, wq_c1, true_and, and_true, and_self, true_implies, forall_const, ne_eq, Decidable.not_not, not_true_eq_false, not_false_eq_true, List.map_nil, List.map_cons, List.sum_nil, List.sum_cons, List.length_cons, List.length_nil, Nat.le_refl, Nat.zero_le, reduceCtorEq, true_or, or_true, false_or, or_false, false_and, and_false, false_implies, Nat.zero_add, Nat.add_zero, Int.reduceEq, Int.reduceNe, Int.reduceLT, Int.reduceLE, Int.reduceNeg, Int.reduceToNat, Nat.not_lt_zero, Int.reduceAdd, fxs F, b01_0]
      refine ⟨fun c2 => cM_ref1 F (by decide) ?_, fun c2 => cM_ref0 F ?_⟩
      · simp only [wq_g3, wq_gc, wq_g, wq_g1, wq_g2, eM_item, iM_item_0, iM_item_13, iM_item_26, iM_item_27, iM_item_35, iM_item_59, iM_item_60, iM_item_68, iM_item_96, iM_item_106, iM_item_112, iM_item_123, vM_item, wps, x_cnd, reduceIte, Nat.reduceAdd, Nat.reduceSub, Nat.reduceEqDiff, Nat.reduceLeDiff, Nat.lt_irrefl, Nat.reduceLT, Int.cast_ofNat_Int, wq_c0, wq_c1, true_and, and_true, and_self, true_implies, forall_const, ne_eq, Decidable.not_not, not_true_eq_false, not_false_eq_true, List.map_nil, List.map_cons, List.sum_nil, List.sum_cons, List.length_cons, List.length_nil, Nat.le_refl, Nat.zero_le, reduceCtorEq, true_or, or_true, false_or, or_false, false_and, and_false, false_implies, Nat.zero_add, Nat.add_zero, Int.reduceEq, Int.reduceNe, Int.reduceLT, Int.reduceLE, Int.reduceNeg, Int.reduceToNat, Nat.not_lt_zero, Int.reduceAdd, fxs F]
        have hno : itS (aS A) q i = -1 := nth_none (by show i < 0 ∨ itN (aS A) q ≤ i; omega)
        exact k _ _ W2.thr (f2'.w (by decide)) (ma_e w_eq (by rw [ea, if_pos hno]) rfl)
      · simp only [wq_g3, wq_gc, wq_g, wq_g1, wq_g2, eM_item, iM_item_0, iM_item_13, iM_item_26, iM_item_27, iM_item_35, iM_item_59, iM_item_60, iM_item_68, iM_item_96, iM_item_106, iM_item_112, iM_item_123, vM_item, wps, x_cnd, reduceIte, Nat.reduceAdd, Nat.reduceSub, Nat.reduceEqDiff, Nat.reduceLeDiff, Nat.lt_irrefl, Nat.reduceLT, Int.cast_ofNat_Int, wq_c0, wq_c1, true_and, and_true, and_self, true_implies, forall_const, ne_eq, Decidable.not_not, not_true_eq_false, not_false_eq_true, List.map_nil, List.map_cons, List.sum_nil, List.sum_cons, List.length_cons, List.length_nil, Nat.le_refl, Nat.zero_le, reduceCtorEq, true_or, or_true, false_or, or_false, false_and, and_false, false_implies, Nat.zero_add, Nat.add_zero, Int.reduceEq, Int.reduceNe, Int.reduceLT, Int.reduceLE, Int.reduceNeg, Int.reduceToNat, Nat.not_lt_zero, Int.reduceAdd, fxs F]
        obtain ⟨j, rfl⟩ : ∃ j : Nat, i = j := ⟨i.toNat, by omega⟩
        have W3 := W2.thr (v := 0)
        have ok : ∀ v : Int, anItem (aS A) q j w = .inl v → Φ (.inl (some (xI v))) (x_w M2 41 0 0) h := fun v e => k _ _ W3 (f2'.w (by decide)) (ma_v w_eq e)
        obtain ⟨a, e', g1, -⟩ := LI_at I2 (j := j) (by omega)
        rw [if_neg (by omega)] at ea
        have hj : (j : Int) < itN (aS A) q := by omega
        refine ⟨fun c3 => cM_firstPlace F L2.thr I2.thr hN hj (fun a r r1 r2 r3 r4 => ?_), fun c3 => cM_sizeOf F I2.thr (by omega) hj ?_, fun c3 => cM_firstPlace F L2.thr I2.thr hN hj (fun a r r1 r2 r3 r4 => ?_), fun c3 => cM_beatsOf F W3.G W3.w L2.thr I2.thr hj ?_⟩
        · simp only [wq_g3, wq_gc, wq_g, wq_g1, wq_g2, eM_item, iM_item_0, iM_item_13, iM_item_26, iM_item_27, iM_item_35, iM_item_59, iM_item_60, iM_item_68, iM_item_96, iM_item_106, iM_item_112, iM_item_123, vM_item, wps, x_cnd, reduceIte, Nat.reduceAdd, Nat.reduceSub, Nat.reduceEqDiff, Nat.reduceLeDiff, Nat.lt_irrefl, Nat.reduceLT, Int.cast_ofNat_Int, wq_c0, wq_c1, true_and, and_true, and_self, true_implies, forall_const, ne_eq, Decidable.not_not, not_true_eq_false, not_false_eq_true, List.map_nil, List.map_cons, List.sum_nil, List.sum_cons, List.length_cons, List.length_nil, Nat.le_refl, Nat.zero_le, reduceCtorEq, true_or, or_true, false_or, or_false, false_and, and_false, false_implies, Nat.zero_add, Nat.add_zero, Int.reduceEq, Int.reduceNe, Int.reduceLT, Int.reduceLE, Int.reduceNeg, Int.reduceToNat, Nat.not_lt_zero, Int.reduceAdd, fxs F]
          refine cM_idAt F (by omega) ?_
          rw [W3.G.id r3]
          simp only [wq_g3, wq_gc, wq_g, wq_g1, wq_g2, eM_item, iM_item_0, iM_item_13, iM_item_26, iM_item_27, iM_item_35, iM_item_59, iM_item_60, iM_item_68, iM_item_96, iM_item_106, iM_item_112, iM_item_123, vM_item, wps, x_cnd, reduceIte, Nat.reduceAdd, Nat.reduceSub, Nat.reduceEqDiff, Nat.reduceLeDiff, Nat.lt_irrefl, Nat.reduceLT, Int.cast_ofNat_Int, wq_c0, wq_c1, true_and, and_true, and_self, true_implies, forall_const, ne_eq, Decidable.not_not, not_true_eq_false, not_false_eq_true, List.map_nil, List.map_cons, List.sum_nil, List.sum_cons, List.length_cons, List.length_nil, Nat.le_refl, Nat.zero_le, reduceCtorEq, true_or, or_true, false_or, or_false, false_and, and_false, false_implies, Nat.zero_add, Nat.add_zero, Int.reduceEq, Int.reduceNe, Int.reduceLT, Int.reduceLE, Int.reduceNeg, Int.reduceToNat, Nat.not_lt_zero, Int.reduceAdd, fxs F]
          exact ok _ (by rw [ea, if_pos c3, r1, r2])
        · simp only [wq_g3, wq_gc, wq_g, wq_g1, wq_g2, eM_item, iM_item_0, iM_item_13, iM_item_26, iM_item_27, iM_item_35, iM_item_59, iM_item_60, iM_item_68, iM_item_96, iM_item_106, iM_item_112, iM_item_123, vM_item, wps, x_cnd, reduceIte, Nat.reduceAdd, Nat.reduceSub, Nat.reduceEqDiff, Nat.reduceLeDiff, Nat.lt_irrefl, Nat.reduceLT, Int.cast_ofNat_Int, wq_c0, wq_c1, true_and, and_true, and_self, true_implies, forall_const, ne_eq, Decidable.not_not, not_true_eq_false, not_false_eq_true, List.map_nil, List.map_cons, List.sum_nil, List.sum_cons, List.length_cons, List.length_nil, Nat.le_refl, Nat.zero_le, reduceCtorEq, true_or, or_true, false_or, or_false, false_and, and_false, false_implies, Nat.zero_add, Nat.add_zero, Int.reduceEq, Int.reduceNe, Int.reduceLT, Int.reduceLE, Int.reduceNeg, Int.reduceToNat, Nat.not_lt_zero, Int.reduceAdd, fxs F]
          exact ok _ (by rw [ea, if_neg (by omega), if_pos c3])
        · simp only [wq_g3, wq_gc, wq_g, wq_g1, wq_g2, eM_item, iM_item_0, iM_item_13, iM_item_26, iM_item_27, iM_item_35, iM_item_59, iM_item_60, iM_item_68, iM_item_96, iM_item_106, iM_item_112, iM_item_123, vM_item, wps, x_cnd, reduceIte, Nat.reduceAdd, Nat.reduceSub, Nat.reduceEqDiff, Nat.reduceLeDiff, Nat.lt_irrefl, Nat.reduceLT, Int.cast_ofNat_Int, wq_c0, wq_c1, true_and, and_true, and_self, true_implies, forall_const, ne_eq, Decidable.not_not, not_true_eq_false, not_false_eq_true, List.map_nil, List.map_cons, List.sum_nil, List.sum_cons, List.length_cons, List.length_nil, Nat.le_refl, Nat.zero_le, reduceCtorEq, true_or, or_true, false_or, or_false, false_and, and_false, false_implies, Nat.zero_add, Nat.add_zero, Int.reduceEq, Int.reduceNe, Int.reduceLT, Int.reduceLE, Int.reduceNeg, Int.reduceToNat, Nat.not_lt_zero, Int.reduceAdd, fxs F]
          refine cM_contentAt F W3.G W3.w r3 (by omega) ?_
          simp only [wq_g3, wq_gc, wq_g, wq_g1, wq_g2, eM_item, iM_item_0, iM_item_13, iM_item_26, iM_item_27, iM_item_35, iM_item_59, iM_item_60, iM_item_68, iM_item_96, iM_item_106, iM_item_112, iM_item_123, vM_item, wps, x_cnd, reduceIte, Nat.reduceAdd, Nat.reduceSub, Nat.reduceEqDiff, Nat.reduceLeDiff, Nat.lt_irrefl, Nat.reduceLT, Int.cast_ofNat_Int, wq_c0, wq_c1, true_and, and_true, and_self, true_implies, forall_const, ne_eq, Decidable.not_not, not_true_eq_false, not_false_eq_true, List.map_nil, List.map_cons, List.sum_nil, List.sum_cons, List.length_cons, List.length_nil, Nat.le_refl, Nat.zero_le, reduceCtorEq, true_or, or_true, false_or, or_false, false_and, and_false, false_implies, Nat.zero_add, Nat.add_zero, Int.reduceEq, Int.reduceNe, Int.reduceLT, Int.reduceLE, Int.reduceNeg, Int.reduceToNat, Nat.not_lt_zero, Int.reduceAdd, fxs F]
          exact ok _ (by rw [ea, if_neg (by omega), if_neg (by omega), if_pos c3, r1, r2])
        · simp only [wq_g3, wq_gc, wq_g, wq_g1, wq_g2, eM_item, iM_item_0, iM_item_13, iM_item_26, iM_item_27, iM_item_35, iM_item_59, iM_item_60, iM_item_68, iM_item_96, iM_item_106, iM_item_112, iM_item_123, vM_item, wps, x_cnd, reduceIte, Nat.reduceAdd, Nat.reduceSub, Nat.reduceEqDiff, Nat.reduceLeDiff, Nat.lt_irrefl, Nat.reduceLT, Int.cast_ofNat_Int, wq_c0, wq_c1, true_and, and_true, and_self, true_implies, forall_const, ne_eq, Decidable.not_not, not_true_eq_false, not_false_eq_true, List.map_nil, List.map_cons, List.sum_nil, List.sum_cons, List.length_cons, List.length_nil, Nat.le_refl, Nat.zero_le, reduceCtorEq, true_or, or_true, false_or, or_false, false_and, and_false, false_implies, Nat.zero_add, Nat.add_zero, Int.reduceEq, Int.reduceNe, Int.reduceLT, Int.reduceLE, Int.reduceNeg, Int.reduceToNat, Nat.not_lt_zero, Int.reduceAdd, fxs F]
          exact ok _ (by rw [ea, if_neg (by omega), if_neg (by omega), if_neg (by omega)])
    · simp only [wq_g3, wq_gc, wq_g, wq_g1, wq_g2, eM_item, iM_item_0, iM_item_13, iM_item_26, iM_item_27, iM_item_35, iM_item_59, iM_item_60, iM_item_68, iM_item_96, iM_item_106, iM_item_112, iM_item_123, vM_item, wps, x_cnd, reduceIte, Nat.reduceAdd, Nat.reduceSub, Nat.reduceEqDiff, Nat.reduceLeDiff, Nat.lt_irrefl, Nat.reduceLT, Int.cast_ofNat_Int, wq_c0, wq_c1, true_and, and_true, and_self, true_implies, forall_const, ne_eq, Decidable.not_not, not_true_eq_false, not_false_eq_true, List.map_nil, List.map_cons, List.sum_nil, List.sum_cons, List.length_cons, List.length_nil, Nat.le_refl, Nat.zero_le, reduceCtorEq, true_or, or_true, false_or, or_false, false_and, and_false, false_implies, Nat.zero_add, Nat.add_zero, Int.reduceEq, Int.reduceNe, Int.reduceLT, Int.reduceLE, Int.reduceNeg, Int.reduceToNat, Nat.not_lt_zero, Int.reduceAdd, fxs F]
      exact k _ _ W.thr (FM.r.w (by decide)) (ma_e w_eq (by rw [ea, if_pos (by omega)]) rfl)
  · simp only [wq_g3, wq_gc, wq_g, wq_g1, wq_g2, eM_item, iM_item_0, iM_item_13, iM_item_26, iM_item_27, iM_item_35, iM_item_59, iM_item_60, iM_item_68, iM_item_96, iM_item_106, iM_item_112, iM_item_123, vM_item, wps, x_cnd, reduceIte, Nat.reduceAdd, Nat.reduceSub, Nat.reduceEqDiff, Nat.reduceLeDiff, Nat.lt_irrefl, Nat.reduceLT, Int.cast_ofNat_Int, wq_c0, wq_c1, true_and, and_true, and_self, true_implies, forall_const, ne_eq, Decidable.not_not, not_true_eq_false, not_false_eq_true, List.map_nil, List.map_cons, List.sum_nil, List.sum_cons, List.length_cons, List.length_nil, Nat.le_refl, Nat.zero_le, reduceCtorEq, true_or, or_true, false_or, or_false, false_and, and_false, false_implies, Nat.zero_add, Nat.add_zero, Int.reduceEq, Int.reduceNe, Int.reduceLT, Int.reduceLE, Int.reduceNeg, Int.reduceToNat, Nat.not_lt_zero, Int.reduceAdd, fxs F]
    exact k _ _ W.thr (FM.r.w (by decide)) (ma_e w_eq (anPt_1 c0) rfl)
theorem cM_itemOf (W : MW A M h) {part b : Int} (k : ∀ v M', MW A M' h → FM M M' → MA (xk [2, 0]) (anItemOf (aS A) part b) v M' → Φ (.inl (some (xI v))) M' h) : x_Cal zM_itemOf [xA 41, xI part, xI b] M h Φ := by
  have F := W.F
  have hP := W.w.P
  have hN := W.w.N
  have hpn := pN_rng (S := aS A)
  refine x_metI kM_itemOf (Nat.le_of_ble_eq_true rfl) (fun t m ls st M' h' c2 n2 => t = 38 ∧ st = [] ∧ h' = h ∧ c2 = 0 ∧ n2 = 0 ∧ ls 0 = some (xA 41) ∧ MW A M' h ∧ LK (aS A) M' ∧ LI (aS A) part M' ∧ FM M M' ∧ M' 41 0 = 0 ∧ ∃ i j u : Nat, anItemOf (aS A) part b = .inl (1000 * u + (i - itS (aS A) part u)) ∧ (i : Int) < pN (aS A) ∧ cn (stt (aS A) part) (i + 1) = (u : Int) + 1 ∧ (u : Int) < itN (aS A) part ∧ j ≤ u ∧ m = u - j ∧ ls 3 = some (xI i) ∧ ls 4 = some (xI j)) 20 ?_ ?_
  · simp only [wq_g3, wq_gc, wq_g, wq_g1, wq_g2, eM_itemOf, iM_itemOf_0, iM_itemOf_19, iM_itemOf_38, iM_itemOf_60, vM_itemOf, wps, x_cnd, reduceIte, Nat.reduceAdd, Nat.reduceSub, Nat.reduceEqDiff, Nat.reduceLeDiff, Nat.lt_irrefl, Nat.reduceLT, Int.cast_ofNat_Int, wq_c0, wq_c1, true_and, and_true, and_self, true_implies, forall_const, ne_eq, Decidable.not_not, not_true_eq_false, not_false_eq_true, List.map_nil, List.map_cons, List.sum_nil, List.sum_cons, List.length_cons, List.length_nil, Nat.le_refl, Nat.zero_le, reduceCtorEq, true_or, or_true, false_or, or_false, false_and, and_false, false_implies, Nat.zero_add, Nat.add_zero, Int.reduceEq, Int.reduceNe, Int.reduceLT, Int.reduceLE, Int.reduceNeg, Int.reduceToNat, Nat.not_lt_zero, Int.reduceAdd, fxs F]
    refine cM_isPart F W.G W.w ?_
    simp only [wq_g3, wq_gc, wq_g, wq_g1, wq_g2, eM_itemOf, iM_itemOf_0, iM_itemOf_19, iM_itemOf_38, iM_itemOf_60, vM_itemOf, wps, x_cnd, reduceIte, Nat.reduceAdd, Nat.reduceSub, Nat.reduceEqDiff, Nat.reduceLeDiff, Nat.lt_irrefl, Nat.reduceLT, Int.cast_ofNat_Int, wq_c0, wq_c1, true_and, and_true, and_self, true_implies, forall_const, ne_eq, Decidable.not_not, not_true_eq_false, not_false_eq_true, List.map_nil, List.map_cons, List.sum_nil, List.sum_cons, List.length_cons, List.length_nil, Nat.le_refl, Nat.zero_le, reduceCtorEq, true_or, or_true, false_or, or_false, false_and, and_false, false_implies, Nat.zero_add, Nat.add_zero, Int.reduceEq, Int.reduceNe, Int.reduceLT, Int.reduceLE, Int.reduceNeg, Int.reduceToNat, Nat.not_lt_zero, Int.reduceAdd, fxs F]
    have hb : ∀ p, anItemOf (aS A) part b = anPt (aS A) part p → anItemOf (aS A) part b = anPt (aS A) part p := fun _ e => e
    refine cM_wrongPlayed W (fun M2 c W2 f2 => ?_) (fun M2 p c c1 c2 W2 f2 => ?_) (fun M2 p i c p1 p2 p3 p4 p5 p6 p7 W2 L2 f2 => ?_)
    · simp only [wq_g3, wq_gc, wq_g, wq_g1, wq_g2, eM_itemOf, iM_itemOf_0, iM_itemOf_19, iM_itemOf_38, iM_itemOf_60, vM_itemOf, wps, x_cnd, reduceIte, Nat.reduceAdd, Nat.reduceSub, Nat.reduceEqDiff, Nat.reduceLeDiff, Nat.lt_irrefl, Nat.reduceLT, Int.cast_ofNat_Int, wq_c0, wq_c1, true_and, and_true, and_self, true_implies, forall_const, ne_eq, Decidable.not_not, not_true_eq_false, not_false_eq_true, List.map_nil, List.map_cons, List.sum_nil, List.sum_cons, List.length_cons, List.length_nil, Nat.le_refl, Nat.zero_le, reduceCtorEq, true_or, or_true, false_or, or_false, false_and, and_false, false_implies, Nat.zero_add, Nat.add_zero, Int.reduceEq, Int.reduceNe, Int.reduceLT, Int.reduceLE, Int.reduceNeg, Int.reduceToNat, Nat.not_lt_zero, Int.reduceAdd, fxs F]
      refine cM_ref1 F (by decide) ?_
      simp only [wq_g3, wq_gc, wq_g, wq_g1, wq_g2, eM_itemOf, iM_itemOf_0, iM_itemOf_19, iM_itemOf_38, iM_itemOf_60, vM_itemOf, wps, x_cnd, reduceIte, Nat.reduceAdd, Nat.reduceSub, Nat.reduceEqDiff, Nat.reduceLeDiff, Nat.lt_irrefl, Nat.reduceLT, Int.cast_ofNat_Int, wq_c0, wq_c1, true_and, and_true, and_self, true_implies, forall_const, ne_eq, Decidable.not_not, not_true_eq_false, not_false_eq_true, List.map_nil, List.map_cons, List.sum_nil, List.sum_cons, List.length_cons, List.length_nil, Nat.le_refl, Nat.zero_le, reduceCtorEq, true_or, or_true, false_or, or_false, false_and, and_false, false_implies, Nat.zero_add, Nat.add_zero, Int.reduceEq, Int.reduceNe, Int.reduceLT, Int.reduceLE, Int.reduceNeg, Int.reduceToNat, Nat.not_lt_zero, Int.reduceAdd, fxs F]
      refine k _ _ W2.thr (f2.w (by decide)) (ma_e (n := 2) w_eq ?_ rfl)
      unfold anItemOf
      by_cases hc : 0 ≤ part ∧ part < sP (aS A)
      · rw [anPt_0 hc, anPl_1 (c.resolve_left (fun q => q hc))]
      · exact anPt_1 hc
    · simp only [wq_g3, wq_gc, wq_g, wq_g1, wq_g2, eM_itemOf, iM_itemOf_0, iM_itemOf_19, iM_itemOf_38, iM_itemOf_60, vM_itemOf, wps, x_cnd, reduceIte, Nat.reduceAdd, Nat.reduceSub, Nat.reduceEqDiff, Nat.reduceLeDiff, Nat.lt_irrefl, Nat.reduceLT, Int.cast_ofNat_Int, wq_c0, wq_c1, true_and, and_true, and_self, true_implies, forall_const, ne_eq, Decidable.not_not, not_true_eq_false, not_false_eq_true, List.map_nil, List.map_cons, List.sum_nil, List.sum_cons, List.length_cons, List.length_nil, Nat.le_refl, Nat.zero_le, reduceCtorEq, true_or, or_true, false_or, or_false, false_and, and_false, false_implies, Nat.zero_add, Nat.add_zero, Int.reduceEq, Int.reduceNe, Int.reduceLT, Int.reduceLE, Int.reduceNeg, Int.reduceToNat, Nat.not_lt_zero, Int.reduceAdd, fxs F]
      refine cM_ref1 F (by decide) ?_
      simp only [wq_g3, wq_gc, wq_g, wq_g1, wq_g2, eM_itemOf, iM_itemOf_0, iM_itemOf_19, iM_itemOf_38, iM_itemOf_60, vM_itemOf, wps, x_cnd, reduceIte, Nat.reduceAdd, Nat.reduceSub, Nat.reduceEqDiff, Nat.reduceLeDiff, Nat.lt_irrefl, Nat.reduceLT, Int.cast_ofNat_Int, wq_c0, wq_c1, true_and, and_true, and_self, true_implies, forall_const, ne_eq, Decidable.not_not, not_true_eq_false, not_false_eq_true, List.map_nil, List.map_cons, List.sum_nil, List.sum_cons, List.length_cons, List.length_nil, Nat.le_refl, Nat.zero_le, reduceCtorEq, true_or, or_true, false_or, or_false, false_and, and_false, false_implies, Nat.zero_add, Nat.add_zero, Int.reduceEq, Int.reduceNe, Int.reduceLT, Int.reduceLE, Int.reduceNeg, Int.reduceToNat, Nat.not_lt_zero, Int.reduceAdd, fxs F]
      exact k _ _ W2.thr (f2.w (by decide)) (ma_e w_eq (by unfold anItemOf; rw [anPt_0 c, anPl_2 c1 c2]) rfl)
    · simp only [wq_g3, wq_gc, wq_g, wq_g1, wq_g2, eM_itemOf, iM_itemOf_0, iM_itemOf_19, iM_itemOf_38, iM_itemOf_60, vM_itemOf, wps, x_cnd, reduceIte, Nat.reduceAdd, Nat.reduceSub, Nat.reduceEqDiff, Nat.reduceLeDiff, Nat.lt_irrefl, Nat.reduceLT, Int.cast_ofNat_Int, wq_c0, wq_c1, true_and, and_true, and_self, true_implies, forall_const, ne_eq, Decidable.not_not, not_true_eq_false, not_false_eq_true, List.map_nil, List.map_cons, List.sum_nil, List.sum_cons, List.length_cons, List.length_nil, Nat.le_refl, Nat.zero_le, reduceCtorEq, true_or, or_true, false_or, or_false, false_and, and_false, false_implies, Nat.zero_add, Nat.add_zero, Int.reduceEq, Int.reduceNe, Int.reduceLT, Int.reduceLE, Int.reduceNeg, Int.reduceToNat, Nat.not_lt_zero, Int.reduceAdd, fxs F]
      refine cM_ref0 F ?_
      simp only [wq_g3, wq_gc, wq_g, wq_g1, wq_g2, eM_itemOf, iM_itemOf_0, iM_itemOf_19, iM_itemOf_38, iM_itemOf_60, vM_itemOf, wps, x_cnd, reduceIte, Nat.reduceAdd, Nat.reduceSub, Nat.reduceEqDiff, Nat.reduceLeDiff, Nat.lt_irrefl, Nat.reduceLT, Int.cast_ofNat_Int, wq_c0, wq_c1, true_and, and_true, and_self, true_implies, forall_const, ne_eq, Decidable.not_not, not_true_eq_false, not_false_eq_true, List.map_nil, List.map_cons, List.sum_nil, List.sum_cons, List.length_cons, List.length_nil, Nat.le_refl, Nat.zero_le, reduceCtorEq, true_or, or_true, false_or, or_false, false_and, and_false, false_implies, Nat.zero_add, Nat.add_zero, Int.reduceEq, Int.reduceNe, Int.reduceLT, Int.reduceLE, Int.reduceNeg, Int.reduceToNat, Nat.not_lt_zero, Int.reduceAdd, fxs F]
      obtain ⟨q, rfl⟩ : ∃ q : Nat, part = q := ⟨part.toNat, by omega⟩
      refine cM_laysItems W2.thr (by omega) (fun M3 W3 L3 I3 f3 t3 => ?_)
      simp only [wq_g3, wq_gc, wq_g, wq_g1, wq_g2, eM_itemOf, iM_itemOf_0, iM_itemOf_19, iM_itemOf_38, iM_itemOf_60, vM_itemOf, wps, x_cnd, reduceIte, Nat.reduceAdd, Nat.reduceSub, Nat.reduceEqDiff, Nat.reduceLeDiff, Nat.lt_irrefl, Nat.reduceLT, Int.cast_ofNat_Int, wq_c0, wq_c1, true_and, and_true, and_self, true_implies, forall_const, ne_eq, Decidable.not_not, not_true_eq_false, not_false_eq_true, List.map_nil, List.map_cons, List.sum_nil, List.sum_cons, List.length_cons, List.length_nil, Nat.le_refl, Nat.zero_le, reduceCtorEq, true_or, or_true, false_or, or_false, false_and, and_false, false_implies, Nat.zero_add, Nat.add_zero, Int.reduceEq, Int.reduceNe, Int.reduceLT, Int.reduceLE, Int.reduceNeg, Int.reduceToNat, Nat.not_lt_zero, Int.reduceAdd, fxs F]
      refine cM_placeOf F W3.G W3.w ?_
      simp only [wq_g3, wq_gc, wq_g, wq_g1, wq_g2, eM_itemOf, iM_itemOf_0, iM_itemOf_19, iM_itemOf_38, iM_itemOf_60, vM_itemOf, wps, x_cnd, reduceIte, Nat.reduceAdd, Nat.reduceSub, Nat.reduceEqDiff, Nat.reduceLeDiff, Nat.lt_irrefl, Nat.reduceLT, Int.cast_ofNat_Int, wq_c0, wq_c1, true_and, and_true, and_self, true_implies, forall_const, ne_eq, Decidable.not_not, not_true_eq_false, not_false_eq_true, List.map_nil, List.map_cons, List.sum_nil, List.sum_cons, List.length_cons, List.length_nil, Nat.le_refl, Nat.zero_le, reduceCtorEq, true_or, or_true, false_or, or_false, false_and, and_false, false_implies, Nat.zero_add, Nat.add_zero, Int.reduceEq, Int.reduceNe, Int.reduceLT, Int.reduceLE, Int.reduceNeg, Int.reduceToNat, Nat.not_lt_zero, Int.reduceAdd, fxs F]
      rw [p2, L3.pb p1, p5]
      have h0 : stt (aS A) q 0 = true := by unfold stt; simp
      have hc1 := cn_lt (P := stt (aS A) q) (m := 0) (n := i + 1) (by omega) h0
      have hc0 : cn (stt (aS A) q) 0 = 0 := rfl
      have hcm := cn_mono (P := stt (aS A) q) (m := i + 1) (n := (pN (aS A)).toNat) (by omega)
      obtain ⟨u, hu⟩ : ∃ u : Nat, cn (stt (aS A) q) (i + 1) = (u : Int) + 1 := ⟨(cn (stt (aS A) q) (i + 1) - 1).toNat, by omega⟩
      have hui : (u : Int) < itN (aS A) q := by unfold itN; omega
      refine ⟨by omega, u - 0, W3, L3, I3, fun a j ha => (f3 a j ha).trans ((w_ne (by omega)).trans (f2 a j ha)), t3.trans w_eq, i, 0, u, ?_, p6, hu, hui, by omega, rfl, rfl, by rw [Int.natCast_zero]⟩
      unfold anItemOf
      rw [anPt_0 c, anPl_0 p2 p4 p5, hu]
      rw [show (u : Int) + 1 - 1 = u by omega]
  · rintro t m ls st M1 h' c2 n2 ⟨rfl, rfl, rfl, rfl, rfl, l0, W1, L1, I1, f1, t1, i, j, u, y1, y2, y3, y4, y5, y6, l3, l4⟩
    have hr := itN_rng (S := aS A) (part := part)
    obtain ⟨a, e, g1, g2, g3, g4, g5, g6, g7, g8, g9, g10⟩ := LI_at I1 (j := j) (by omega)
    simp only [wq_g3, wq_gc, wq_g, wq_g1, wq_g2, eM_itemOf, iM_itemOf_0, iM_itemOf_19, iM_itemOf_38, iM_itemOf_60, vM_itemOf, wps, x_cnd, reduceIte, Nat.reduceAdd, Nat.reduceSub, Nat.reduceEqDiff, Nat.reduceLeDiff, Nat.lt_irrefl, Nat.reduceLT, Int.cast_ofNat_Int, wq_c0, wq_c1, true_and, and_true, and_self, true_implies, forall_const, ne_eq, Decidable.not_not, not_true_eq_false, not_false_eq_true, List.map_nil, List.map_cons, List.sum_nil, List.sum_cons, List.length_cons, List.length_nil, Nat.le_refl, Nat.zero_le, reduceCtorEq, true_or, or_true, false_or, or_false, false_and, and_false, false_implies, Nat.zero_add, Nat.add_zero, Int.reduceEq, Int.reduceNe, Int.reduceLT, Int.reduceLE, Int.reduceNeg, Int.reduceToNat, Nat.not_lt_zero, Int.reduceAdd, fxs F, l0, l3, l4, g3]
    simp (disch := omega) only [w32_of]
    rw [g4]
    refine ⟨by omega, fun c0 => ⟨by omega, ?_⟩, fun c0 => ?_⟩
    · have hju : j = u := by
        by_cases hlt : j < u
        · have := cn_mono (P := stt (aS A) part) (m := i + 1) (n := e) (by omega)
          omega
        · omega
      subst hju
      have := cn_rng (P := stt (aS A) part) (n := a)
      have hai : a ≤ i := by
        by_cases hc : a ≤ i
        · exact hc
        · have := cn_mono (P := stt (aS A) part) (m := i + 1) (n := a) (by omega)
          omega
      refine k _ _ W1 f1 (ma_v t1 ?_)
      rw [y1, g1]
      congr 1
      omega
    · have hju : j < u := by
        by_cases hlt : j < u
        · exact hlt
        · have hj : j = u := by omega
          subst hj
          have g11 : stt (aS A) part e = true ∨ (e : Int) = pN (aS A) := by
            by_cases he : (e : Int) = pN (aS A)
            · exact Or.inr he
            · left
              by_cases hlast : (j : Int) + 1 < itN (aS A) part
              · obtain ⟨a', e', q1, q2, q3, q4, q5, q6, q7, q8, q9, q10⟩ := LI_at I1 (j := j + 1) (by omega)
                rw [show ((j + 1 : Nat) : Int) = (j : Int) + 1 by omega, g4] at q3
                rw [show (e : Int) = a' from q3]
                exact q7
              · have := I1.2.2
                rw [show itN (aS A) part = (j : Int) + 1 by omega, g4] at this
                exact absurd this he
          rcases g11 with g11 | g11
          · have := cn_lt (P := stt (aS A) part) (m := e) (n := i + 1) (by omega) g11
            omega
          · omega
      exact ⟨u - (j + 1), by omega, W1, L1, I1, f1, t1, i, j + 1, u, y1, y2, y3, y4, by omega, rfl, rfl, congrArg (fun z => some (xI z)) (by omega)⟩
/-- the longest rest grows item by item -/
theorem lrb_item {part : Int} {a e : Nat} (h1 : a < e) (h2 : (e : Int) ≤ pN S) (h3 : stt S part a = true) (h4 : ∀ q : Nat, a < q → q < e → stt S part q = false) : lrb S part e = if sC S part (pp S a) = 0 then max (lrb S part a) ((e : Int) - a) else lrb S part a := by
  have key : ∀ d : Nat, a + d + 1 ≤ e → lrl S part (a + d + 1) = (d : Int) + 1 ∧ (sC S part (pp S a) = 0 → sC S part (pp S ((a + d : Nat) : Int)) = 0 ∧ lrb S part (a + d + 1) = max (lrb S part a) ((d : Int) + 1)) := by
    intro d
    induction d with
    | zero =>
      intro _
      rw [Nat.add_zero, lrl_s, if_pos h3, lrb_s]
      refine ⟨rfl, fun hc => ⟨hc, ?_⟩⟩
      rw [if_pos hc, lrl_s, if_pos h3]
      rfl
    | succ d ih =>
      intro hd
      obtain ⟨i1, i2⟩ := ih (by omega)
      have hs := h4 (a + d + 1) (by omega) (by omega)
      have hl : lrl S part (a + (d + 1) + 1) = ((d + 1 : Nat) : Int) + 1 := by
        rw [show a + (d + 1) + 1 = (a + d + 1) + 1 by omega, lrl_s, if_neg (by rw [hs]; decide), i1]
        omega
      refine ⟨hl, fun hc => ?_⟩
      obtain ⟨i3, i4⟩ := i2 hc
      have hc0 : sC S part (pp S ((a + d + 1 : Nat) : Int)) = 0 := by
        unfold stt at hs
        simp at hs
        have := hs.2.1
        push_cast
        exact this
      refine ⟨hc0, ?_⟩
      rw [show a + (d + 1) + 1 = (a + d + 1) + 1 by omega, lrb_s, if_pos hc0, i4, show a + d + 1 + 1 = a + (d + 1) + 1 by omega, hl]
      omega
  by_cases hc : sC S part (pp S a) = 0
  · rw [if_pos hc]
    have := ((key (e - a - 1) (by omega)).2 hc).2
    rw [show a + (e - a - 1) + 1 = e by omega] at this
    rw [this]
    omega
  · rw [if_neg hc]
    have he : e = a + 1 := by
      by_cases hea : e = a + 1
      · exact hea
      · have hs := h4 (a + 1) (by omega) (by omega)
        unfold stt at hs
        simp at hs
        have h9 := hs.2.2.1
        exact absurd h9 hc
    rw [he, lrb_s, if_neg hc]
theorem lrb_r {part : Int} : ∀ k : Nat, 0 ≤ lrb S part k ∧ lrb S part k ≤ k
  | 0 => ⟨Int.le_refl _, Int.le_refl _⟩
  | k + 1 => by
    have h1 := lrb_r (part := part) k
    have h2 := lrl_rng S part (k + 1)
    rw [lrb_s]
    split <;> omega
theorem cM_longestRest (W : MW A M h) {part : Int} (k : ∀ v M', MW A M' h → FM M M' → MA (xk [2]) (anLongest (aS A) part) v M' → Φ (.inl (some (xI v))) M' h) : x_Cal zM_longestRest [xA 41, xI part] M h Φ := by
  have F := W.F
  have hP := W.w.P
  have hN := W.w.N
  have hpn := pN_rng (S := aS A)
  refine x_metI kM_longestRest (Nat.le_of_ble_eq_true rfl) (fun t m ls st M' h' c2 n2 => t = 31 ∧ st = [] ∧ h' = h ∧ c2 = 0 ∧ n2 = 0 ∧ ls 0 = some (xA 41) ∧ ls 1 = some (xI part) ∧ MW A M' h ∧ LK (aS A) M' ∧ LI (aS A) part M' ∧ FM M M' ∧ M' 41 0 = 0 ∧ (0 ≤ part ∧ part < sP (aS A)) ∧ ∃ j a : Nat, (j : Int) ≤ itN (aS A) part ∧ M' 53 j = a ∧ (a : Int) ≤ pN (aS A) ∧ m = (itN (aS A) part).toNat - j ∧ ls 2 = some (xI (lrb (aS A) part a)) ∧ ls 3 = some (xI j)) 20 ?_ ?_
  · simp only [wq_g3, wq_gc, wq_g, wq_g1, wq_g2, eM_longestRest, iM_longestRest_0, iM_longestRest_13, iM_longestRest_14, iM_longestRest_22, iM_longestRest_31, iM_longestRest_67, iM_longestRest_73, vM_longestRest, wps, x_cnd, reduceIte, Nat.reduceAdd, Nat.reduceSub, Nat.reduceEqDiff, Nat.reduceLeDiff, Nat.lt_irrefl, Nat.reduceLT, Int.cast_ofNat_Int, wq_c0, wq_c1, true_and, and_true, and_self, true_implies, forall_const, ne_eq, Decidable.not_not, not_true_eq_false, not_false_eq_true, List.map_nil, List.map_cons, List.sum_nil, List.sum_cons, List.length_cons, List.length_nil, Nat.le_refl, Nat.zero_le, reduceCtorEq, true_or, or_true, false_or, or_false, false_and, and_false, false_implies, Nat.zero_add, Nat.add_zero, Int.reduceEq, Int.reduceNe, Int.reduceLT, Int.reduceLE, Int.reduceNeg, Int.reduceToNat, Nat.not_lt_zero, Int.reduceAdd, fxs F]
    refine cM_isPart F W.G W.w ?_
    simp only [wq_g3, wq_gc, wq_g, wq_g1, wq_g2, eM_longestRest, iM_longestRest_0, iM_longestRest_13, iM_longestRest_14, iM_longestRest_22, iM_longestRest_31, iM_longestRest_67, iM_longestRest_73, vM_longestRest, wps, x_cnd, reduceIte, Nat.reduceAdd, Nat.reduceSub, Nat.reduceEqDiff, Nat.reduceLeDiff, Nat.lt_irrefl, Nat.reduceLT, Int.cast_ofNat_Int, wq_c0, wq_c1, true_and, and_true, and_self, true_implies, forall_const, ne_eq, Decidable.not_not, not_true_eq_false, not_false_eq_true, List.map_nil, List.map_cons, List.sum_nil, List.sum_cons, List.length_cons, List.length_nil, Nat.le_refl, Nat.zero_le, reduceCtorEq, true_or, or_true, false_or, or_false, false_and, and_false, false_implies, Nat.zero_add, Nat.add_zero, Int.reduceEq, Int.reduceNe, Int.reduceLT, Int.reduceLE, Int.reduceNeg, Int.reduceToNat, Nat.not_lt_zero, Int.reduceAdd, fxs F, b01_0]
    refine ⟨fun c0 => cM_ref1 F (by decide) ?_, fun c0 => cM_ref0 F ?_⟩
    · simp only [wq_g3, wq_gc, wq_g, wq_g1, wq_g2, eM_longestRest, iM_longestRest_0, iM_longestRest_13, iM_longestRest_14, iM_longestRest_22, iM_longestRest_31, iM_longestRest_67, iM_longestRest_73, vM_longestRest, wps, x_cnd, reduceIte, Nat.reduceAdd, Nat.reduceSub, Nat.reduceEqDiff, Nat.reduceLeDiff, Nat.lt_irrefl, Nat.reduceLT, Int.cast_ofNat_Int, wq_c0, wq_c1, true_and, and_true, and_self, true_implies, forall_const, ne_eq, Decidable.not_not, not_true_eq_false, not_false_eq_true, List.map_nil, List.map_cons, List.sum_nil, List.sum_cons, List.length_cons, List.length_nil, Nat.le_refl, Nat.zero_le, reduceCtorEq, true_or, or_true, false_or, or_false, false_and, and_false, false_implies, Nat.zero_add, Nat.add_zero, Int.reduceEq, Int.reduceNe, Int.reduceLT, Int.reduceLE, Int.reduceNeg, Int.reduceToNat, Nat.not_lt_zero, Int.reduceAdd, fxs F]
      exact k _ _ W.thr (FM.r.w (by decide)) (ma_e w_eq (anPt_1 c0) rfl)
    · simp only [wq_g3, wq_gc, wq_g, wq_g1, wq_g2, eM_longestRest, iM_longestRest_0, iM_longestRest_13, iM_longestRest_14, iM_longestRest_22, iM_longestRest_31, iM_longestRest_67, iM_longestRest_73, vM_longestRest, wps, x_cnd, reduceIte, Nat.reduceAdd, Nat.reduceSub, Nat.reduceEqDiff, Nat.reduceLeDiff, Nat.lt_irrefl, Nat.reduceLT, Int.cast_ofNat_Int, wq_c0, wq_c1, true_and, and_true, and_self, true_implies, forall_const, ne_eq, Decidable.not_not, not_true_eq_false, not_false_eq_true, List.map_nil, List.map_cons, List.sum_nil, List.sum_cons, List.length_cons, List.length_nil, Nat.le_refl, Nat.zero_le, reduceCtorEq, true_or, or_true, false_or, or_false, false_and, and_false, false_implies, Nat.zero_add, Nat.add_zero, Int.reduceEq, Int.reduceNe, Int.reduceLT, Int.reduceLE, Int.reduceNeg, Int.reduceToNat, Nat.not_lt_zero, Int.reduceAdd, fxs F]
      obtain ⟨q, rfl⟩ : ∃ q : Nat, part = q := ⟨part.toNat, by omega⟩
      refine cM_laysItems W.thr (by omega) (fun M2 W2 L2 I2 f2 t2 => ?_)
      have hr := itN_rng (S := aS A) (part := q)
      simp only [wq_g3, wq_gc, wq_g, wq_g1, wq_g2, eM_longestRest, iM_longestRest_0, iM_longestRest_13, iM_longestRest_14, iM_longestRest_22, iM_longestRest_31, iM_longestRest_67, iM_longestRest_73, vM_longestRest, wps, x_cnd, reduceIte, Nat.reduceAdd, Nat.reduceSub, Nat.reduceEqDiff, Nat.reduceLeDiff, Nat.lt_irrefl, Nat.reduceLT, Int.cast_ofNat_Int, wq_c0, wq_c1, true_and, and_true, and_self, true_implies, forall_const, ne_eq, Decidable.not_not, not_true_eq_false, not_false_eq_true, List.map_nil, List.map_cons, List.sum_nil, List.sum_cons, List.length_cons, List.length_nil, Nat.le_refl, Nat.zero_le, reduceCtorEq, true_or, or_true, false_or, or_false, false_and, and_false, false_implies, Nat.zero_add, Nat.add_zero, Int.reduceEq, Int.reduceNe, Int.reduceLT, Int.reduceLE, Int.reduceNeg, Int.reduceToNat, Nat.not_lt_zero, Int.reduceAdd, fxs F]
      have h53 : M2 53 ((0 : Nat) : Int) = ((0 : Nat) : Int) := by
        by_cases hz : itN (aS A) q = 0
        · have := I2.2.2
          rw [hz] at this
          have hp0 : pN (aS A) = 0 := by
            by_cases hpz : pN (aS A) = 0
            · exact hpz
            · have h0 : stt (aS A) q 0 = true := by unfold stt; simp
              have hc1 := cn_lt (P := stt (aS A) q) (m := 0) (n := (pN (aS A)).toNat) (by omega) h0
              have hc0 : cn (stt (aS A) q) 0 = 0 := rfl
              unfold itN at hz
              omega
          rw [hp0] at this
          exact this
        · obtain ⟨a, e, g1, g2, g3, g4, g5, g6, g7, g8, g9, g10⟩ := LI_at I2 (j := 0) (by omega)
          have h0 : stt (aS A) q 0 = true := by unfold stt; simp
          have : a = 0 := by
            by_cases ha : a = 0
            · exact ha
            · have := cn_lt (P := stt (aS A) q) (m := 0) (n := a) (by omega) h0
              have hc0 : cn (stt (aS A) q) 0 = 0 := rfl
              omega
          rw [g3, this]
      exact ⟨(itN (aS A) q).toNat - 0, W2, L2, I2, fun a j ha => (f2 a j ha).trans (w_ne (by omega)), t2.trans w_eq, c0, 0, 0, by omega, h53, by omega, rfl, rfl, by rw [Int.natCast_zero]⟩
  · rintro t m ls st M1 h' c2 n2 ⟨rfl, rfl, rfl, rfl, rfl, l0, l1, W1, L1, I1, f1, t1, c0, j, a, y1, y2, y3, y4, l2, l3⟩
    have hr := itN_rng (S := aS A) (part := part)
    have e0 := I1.1
    obtain ⟨q, rfl⟩ : ∃ q : Nat, part = q := ⟨part.toNat, by omega⟩
    have hlr := lrb_r (S := aS A) (part := q) a
    simp only [wq_g3, wq_gc, wq_g, wq_g1, wq_g2, eM_longestRest, iM_longestRest_0, iM_longestRest_13, iM_longestRest_14, iM_longestRest_22, iM_longestRest_31, iM_longestRest_67, iM_longestRest_73, vM_longestRest, wps, x_cnd, reduceIte, Nat.reduceAdd, Nat.reduceSub, Nat.reduceEqDiff, Nat.reduceLeDiff, Nat.lt_irrefl, Nat.reduceLT, Int.cast_ofNat_Int, wq_c0, wq_c1, true_and, and_true, and_self, true_implies, forall_const, ne_eq, Decidable.not_not, not_true_eq_false, not_false_eq_true, List.map_nil, List.map_cons, List.sum_nil, List.sum_cons, List.length_cons, List.length_nil, Nat.le_refl, Nat.zero_le, reduceCtorEq, true_or, or_true, false_or, or_false, false_and, and_false, false_implies, Nat.zero_add, Nat.add_zero, Int.reduceEq, Int.reduceNe, Int.reduceLT, Int.reduceLE, Int.reduceNeg, Int.reduceToNat, Nat.not_lt_zero, Int.reduceAdd, fxs F, l0, l1, l2, l3, e0]
    refine ⟨fun c1 => ?_, fun c1 => cM_firstPlace F L1 I1 hN (by omega) (fun a' r r1 r2 r3 r4 => ?_)⟩
    · refine k _ _ W1 f1 (ma_v t1 ?_)
      have hja : (a : Int) = pN (aS A) := by
        have := I1.2.2
        rw [show itN (aS A) q = j by omega, y2] at this
        exact this
      unfold anLongest
      rw [anPt_0 c0, show (pN (aS A)).toNat = a by omega]
    · obtain ⟨a2, e, g1, g2, g3, g4, g5, g6, g7, g8, g9, g10⟩ := LI_at I1 (j := j) (by omega)
      have ha2 : a2 = a := by rw [y2] at g3; omega
      subst ha2
      have ha' : a' = a2 := by omega
      subst ha'
      have hlb := lrb_item g5 g6 g7 g10
      simp only [wq_g3, wq_gc, wq_g, wq_g1, wq_g2, eM_longestRest, iM_longestRest_0, iM_longestRest_13, iM_longestRest_14, iM_longestRest_22, iM_longestRest_31, iM_longestRest_67, iM_longestRest_73, vM_longestRest, wps, x_cnd, reduceIte, Nat.reduceAdd, Nat.reduceSub, Nat.reduceEqDiff, Nat.reduceLeDiff, Nat.lt_irrefl, Nat.reduceLT, Int.cast_ofNat_Int, wq_c0, wq_c1, true_and, and_true, and_self, true_implies, forall_const, ne_eq, Decidable.not_not, not_true_eq_false, not_false_eq_true, List.map_nil, List.map_cons, List.sum_nil, List.sum_cons, List.length_cons, List.length_nil, Nat.le_refl, Nat.zero_le, reduceCtorEq, true_or, or_true, false_or, or_false, false_and, and_false, false_implies, Nat.zero_add, Nat.add_zero, Int.reduceEq, Int.reduceNe, Int.reduceLT, Int.reduceLE, Int.reduceNeg, Int.reduceToNat, Nat.not_lt_zero, Int.reduceAdd, fxs F, l0, l1, l2, l3]
      refine cM_contentAt F W1.G W1.w r3 (by omega) ?_
      rw [r2] at hlb
      simp only [wq_g3, wq_gc, wq_g, wq_g1, wq_g2, eM_longestRest, iM_longestRest_0, iM_longestRest_13, iM_longestRest_14, iM_longestRest_22, iM_longestRest_31, iM_longestRest_67, iM_longestRest_73, vM_longestRest, wps, x_cnd, reduceIte, Nat.reduceAdd, Nat.reduceSub, Nat.reduceEqDiff, Nat.reduceLeDiff, Nat.lt_irrefl, Nat.reduceLT, Int.cast_ofNat_Int, wq_c0, wq_c1, true_and, and_true, and_self, true_implies, forall_const, ne_eq, Decidable.not_not, not_true_eq_false, not_false_eq_true, List.map_nil, List.map_cons, List.sum_nil, List.sum_cons, List.length_cons, List.length_nil, Nat.le_refl, Nat.zero_le, reduceCtorEq, true_or, or_true, false_or, or_false, false_and, and_false, false_implies, Nat.zero_add, Nat.add_zero, Int.reduceEq, Int.reduceNe, Int.reduceLT, Int.reduceLE, Int.reduceNeg, Int.reduceToNat, Nat.not_lt_zero, Int.reduceAdd, fxs F, l0, l1, l2, l3]
      have go : ∀ v : Int, v = lrb (aS A) q e → ∃ m2, m2 < m ∧ MW A M1 h' ∧ LK (aS A) M1 ∧ LI (aS A) q M1 ∧ FM M M1 ∧ M1 41 0 = 0 ∧ (0 ≤ (q : Int) ∧ (q : Int) < sP (aS A)) ∧ ∃ j_1 a : Nat, (j_1 : Int) ≤ itN (aS A) q ∧ M1 53 j_1 = a ∧ (a : Int) ≤ pN (aS A) ∧ m2 = (itN (aS A) q).toNat - j_1 ∧ some (xI v) = some (xI (lrb (aS A) q a)) ∧ some (xI (w32 ((j : Int) + 1))) = some (xI j_1) := fun v hv => ⟨(itN (aS A) q).toNat - (j + 1), by omega, W1, L1, I1, f1, t1, c0, j + 1, e, by omega, by rw [show ((j + 1 : Nat) : Int) = (j : Int) + 1 by omega]; exact g4, g6, rfl, by rw [hv], by rw [w32_of (by omega)]; exact congrArg (fun z => some (xI z)) (by omega)⟩
      refine ⟨fun c3 => go _ (by rw [hlb, if_neg c3]), fun c3 => cM_sizeOf F I1 (by omega) (by omega) ?_⟩
      rw [if_pos c3] at hlb
      rw [g1, g2]
      simp only [wq_g3, wq_gc, wq_g, wq_g1, wq_g2, eM_longestRest, iM_longestRest_0, iM_longestRest_13, iM_longestRest_14, iM_longestRest_22, iM_longestRest_31, iM_longestRest_67, iM_longestRest_73, vM_longestRest, wps, x_cnd, reduceIte, Nat.reduceAdd, Nat.reduceSub, Nat.reduceEqDiff, Nat.reduceLeDiff, Nat.lt_irrefl, Nat.reduceLT, Int.cast_ofNat_Int, wq_c0, wq_c1, true_and, and_true, and_self, true_implies, forall_const, ne_eq, Decidable.not_not, not_true_eq_false, not_false_eq_true, List.map_nil, List.map_cons, List.sum_nil, List.sum_cons, List.length_cons, List.length_nil, Nat.le_refl, Nat.zero_le, reduceCtorEq, true_or, or_true, false_or, or_false, false_and, and_false, false_implies, Nat.zero_add, Nat.add_zero, Int.reduceEq, Int.reduceNe, Int.reduceLT, Int.reduceLE, Int.reduceNeg, Int.reduceToNat, Nat.not_lt_zero, Int.reduceAdd, fxs F, l0, l1, l2, l3]
      refine ⟨fun c4 => go _ (by rw [hlb]; omega), fun c4 => cM_sizeOf F I1 (by omega) (by omega) ?_⟩
      rw [g1, g2]
      simp only [wq_g3, wq_gc, wq_g, wq_g1, wq_g2, eM_longestRest, iM_longestRest_0, iM_longestRest_13, iM_longestRest_14, iM_longestRest_22, iM_longestRest_31, iM_longestRest_67, iM_longestRest_73, vM_longestRest, wps, x_cnd, reduceIte, Nat.reduceAdd, Nat.reduceSub, Nat.reduceEqDiff, Nat.reduceLeDiff, Nat.lt_irrefl, Nat.reduceLT, Int.cast_ofNat_Int, wq_c0, wq_c1, true_and, and_true, and_self, true_implies, forall_const, ne_eq, Decidable.not_not, not_true_eq_false, not_false_eq_true, List.map_nil, List.map_cons, List.sum_nil, List.sum_cons, List.length_cons, List.length_nil, Nat.le_refl, Nat.zero_le, reduceCtorEq, true_or, or_true, false_or, or_false, false_and, and_false, false_implies, Nat.zero_add, Nat.add_zero, Int.reduceEq, Int.reduceNe, Int.reduceLT, Int.reduceLE, Int.reduceNeg, Int.reduceToNat, Nat.not_lt_zero, Int.reduceAdd, fxs F, l0, l1, l2, l3]
      exact go _ (by rw [hlb]; omega)
end MASK3
