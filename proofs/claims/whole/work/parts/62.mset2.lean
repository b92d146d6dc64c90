/-! the model's changes: setBar, renumber -/
section MSET2
variable {A : xAb} {M M' : xM} {h : xH} {Φ : xO → xM → xH → Prop} {S : xSr} {nid : Int}
set_option maxHeartbeats 1000000
theorem cM_withBit {a is : Int} {c : Nat} (ha : 0 ≤ a ∧ a < 2147483648) (hc : c < 31) (k : Φ (.inl (some (xI (a - ((2 ^ c : Nat) : Int) * (a / ((2 ^ c : Nat) : Int) % 2) + ((2 ^ c : Nat) : Int) * (if is ≠ 0 then 1 else 0))))) M h) : x_Cal zM_withBit [xI a, xI c, xI is] M h Φ := by
  refine x_met0 kM_withBit (Nat.le_of_ble_eq_true rfl) ?_
  simp only [wq_g3, wq_gc, wq_g, wq_g1, wq_g2, eM_withBit, iM_withBit_0, iM_withBit_12, iM_withBit_19, vM_withBit, wps, x_cnd, reduceIte, Nat.reduceAdd, Nat.reduceSub, Nat.reduceEqDiff, Nat.reduceLeDiff, Nat.lt_irrefl, Nat.reduceLT, Int.cast_ofNat_Int, wq_c0, wq_c1, true_and, and_true, and_self, true_implies, forall_const, ne_eq, Decidable.not_not, not_true_eq_false, not_false_eq_true, List.map_nil, List.map_cons, List.sum_nil, List.sum_cons, List.length_cons, List.length_nil, Nat.le_refl, Nat.zero_le, reduceCtorEq, true_or, or_true, false_or, or_false, false_and, and_false, false_implies, Nat.zero_add, Nat.add_zero, Int.reduceEq, Int.reduceNe, Int.reduceLT, Int.reduceLE, Int.reduceNeg, Int.reduceToNat, Nat.not_lt_zero, Int.reduceAdd]
  rw [set_1 ha hc, clr_1 ha hc]
  refine ⟨fun c0 => ?_, fun c0 => ?_⟩
  · rw [if_neg (fun q => q c0), Int.mul_zero, Int.add_zero] at k
    exact k
  · rw [if_pos c0, Int.mul_one] at k
    exact k
theorem cM_maySet {w v : Int} (k : Φ (.inl (some (xI (b01 (okSet w v))))) M h) : x_Cal zM_maySet [xI w, xI v] M h Φ := by
  unfold okSet at k
  refine x_met0 kM_maySet (Nat.le_of_ble_eq_true rfl) ?_
  simp only [wq_g3, wq_gc, wq_g, wq_g1, wq_g2, eM_maySet, iM_maySet_0, iM_maySet_15, iM_maySet_25, iM_maySet_38, iM_maySet_39, vM_maySet, wps, x_cnd, reduceIte, Nat.reduceAdd, Nat.reduceSub, Nat.reduceEqDiff, Nat.reduceLeDiff, Nat.lt_irrefl, Nat.reduceLT, Int.cast_ofNat_Int, wq_c0, wq_c1, true_and, and_true, and_self, true_implies, forall_const, ne_eq, Decidable.not_not, not_true_eq_false, not_false_eq_true, List.map_nil, List.map_cons, List.sum_nil, List.sum_cons, List.length_cons, List.length_nil, Nat.le_refl, Nat.zero_le, reduceCtorEq, true_or, or_true, false_or, or_false, false_and, and_false, false_implies, Nat.zero_add, Nat.add_zero, Int.reduceEq, Int.reduceNe, Int.reduceLT, Int.reduceLE, Int.reduceNeg, Int.reduceToNat, Nat.not_lt_zero, Int.reduceAdd]
  refine ⟨fun c0 => ⟨fun c1 => cM_in ?_, fun c1 => ⟨fun c2 => kr k (b01_f (by omega)), fun c2 => cM_in ?_⟩⟩, fun c0 => cM_in ?_⟩
  · simp only [wq_g3, wq_gc, wq_g, wq_g1, wq_g2, eM_maySet, iM_maySet_0, iM_maySet_15, iM_maySet_25, iM_maySet_38, iM_maySet_39, vM_maySet, wps, x_cnd, reduceIte, Nat.reduceAdd, Nat.reduceSub, Nat.reduceEqDiff, Nat.reduceLeDiff, Nat.lt_irrefl, Nat.reduceLT, Int.cast_ofNat_Int, wq_c0, wq_c1, true_and, and_true, and_self, true_implies, forall_const, ne_eq, Decidable.not_not, not_true_eq_false, not_false_eq_true, List.map_nil, List.map_cons, List.sum_nil, List.sum_cons, List.length_cons, List.length_nil, Nat.le_refl, Nat.zero_le, reduceCtorEq, true_or, or_true, false_or, or_false, false_and, and_false, false_implies, Nat.zero_add, Nat.add_zero, Int.reduceEq, Int.reduceNe, Int.reduceLT, Int.reduceLE, Int.reduceNeg, Int.reduceToNat, Nat.not_lt_zero, Int.reduceAdd, b01_0]
    exact ⟨fun c3 => kr k (b01_f (by omega)), fun c3 => kr k (b01_t (by omega))⟩
  · simp only [wq_g3, wq_gc, wq_g, wq_g1, wq_g2, eM_maySet, iM_maySet_0, iM_maySet_15, iM_maySet_25, iM_maySet_38, iM_maySet_39, vM_maySet, wps, x_cnd, reduceIte, Nat.reduceAdd, Nat.reduceSub, Nat.reduceEqDiff, Nat.reduceLeDiff, Nat.lt_irrefl, Nat.reduceLT, Int.cast_ofNat_Int, wq_c0, wq_c1, true_and, and_true, and_self, true_implies, forall_const, ne_eq, Decidable.not_not, not_true_eq_false, not_false_eq_true, List.map_nil, List.map_cons, List.sum_nil, List.sum_cons, List.length_cons, List.length_nil, Nat.le_refl, Nat.zero_le, reduceCtorEq, true_or, or_true, false_or, or_false, false_and, and_false, false_implies, Nat.zero_add, Nat.add_zero, Int.reduceEq, Int.reduceNe, Int.reduceLT, Int.reduceLE, Int.reduceNeg, Int.reduceToNat, Nat.not_lt_zero, Int.reduceAdd, b01_0]
    exact ⟨fun c3 => kr k (b01_f (by omega)), fun c3 => kr k (b01_t (by omega))⟩
  · simp only [wq_g3, wq_gc, wq_g, wq_g1, wq_g2, eM_maySet, iM_maySet_0, iM_maySet_15, iM_maySet_25, iM_maySet_38, iM_maySet_39, vM_maySet, wps, x_cnd, reduceIte, Nat.reduceAdd, Nat.reduceSub, Nat.reduceEqDiff, Nat.reduceLeDiff, Nat.lt_irrefl, Nat.reduceLT, Int.cast_ofNat_Int, wq_c0, wq_c1, true_and, and_true, and_self, true_implies, forall_const, ne_eq, Decidable.not_not, not_true_eq_false, not_false_eq_true, List.map_nil, List.map_cons, List.sum_nil, List.sum_cons, List.length_cons, List.length_nil, Nat.le_refl, Nat.zero_le, reduceCtorEq, true_or, or_true, false_or, or_false, false_and, and_false, false_implies, Nat.zero_add, Nat.add_zero, Int.reduceEq, Int.reduceNe, Int.reduceLT, Int.reduceLE, Int.reduceNeg, Int.reduceToNat, Nat.not_lt_zero, Int.reduceAdd]
    exact ⟨b01_e, kr k (b01_c (by omega))⟩
theorem x_m16 {a : Int} {v : Nat} (ha : 0 ≤ a ∧ a < 2147483648) (hv : v < 16) : x_or (x_and a (-16)) v = a - a % 16 + v := by
  obtain ⟨n, rfl⟩ : ∃ n : Nat, a = n := ⟨a.toNat, by omega⟩
  have hs := set_fld (a := n) (s := 0) (w := 4) (v := v) (by omega) (by decide) (by decide) (by omega)
  rw [show x_xor (x_shl ((2 ^ 4 - 1 : Nat) : Int) ((0 : Nat) : Int)) (-1) = -16 by decide +kernel, shl_nat (k := 0) (by decide) (by omega)] at hs
  rw [show ((v * 2 ^ 0 : Nat) : Int) = v by omega] at hs
  rw [hs]
  omega
theorem pkw_bar_o {w p q v : Int} (h : q ≠ p) : pkw (barS S w p v) q = pkw S q := by
  have e1 : sB (barS S w p v) q = sB S q := by
    show (if w = 2 then up p v (sB S) else sB S) q = _
    split
    · exact up_2 h
    · rfl
  have e2 : sT (barS S w p v) q = sT S q := by
    show (if w = 4 then up p v (sT S) else sT S) q = _
    split
    · exact up_2 h
    · rfl
  have e3 : sD (barS S w p v) q = sD S q := by
    show (if w = 5 then up p v (sD S) else sD S) q = _
    split
    · exact up_2 h
    · rfl
  unfold pkw
  rw [e1, e2, e3]
  rfl
theorem pkw_bar2 {p v : Int} : pkw (barS S 2 p v) p = pkw S p - sB S p + v := by
  have e1 : sB (barS S 2 p v) p = v := up_1
  unfold pkw
  rw [e1]
  show v + 16 * sX S p + 32 * sT S p + 64 * sD S p + 256 * sC S 0 p + 1024 * sC S 1 p + 4096 * sC S 2 p + 16384 * sC S 3 p + 65536 * sC S 4 p + 262144 * sC S 5 p = _
  omega
theorem pkw_bar4 {p v : Int} : pkw (barS S 4 p v) p = pkw S p - 32 * sT S p + 32 * v := by
  have e1 : sT (barS S 4 p v) p = v := up_1
  unfold pkw
  rw [e1]
  show sB S p + 16 * sX S p + 32 * v + 64 * sD S p + 256 * sC S 0 p + 1024 * sC S 1 p + 4096 * sC S 2 p + 16384 * sC S 3 p + 65536 * sC S 4 p + 262144 * sC S 5 p = _
  omega
theorem pkw_bar5 {p v : Int} : pkw (barS S 5 p v) p = pkw S p - 64 * sD S p + 64 * v := by
  have e1 : sD (barS S 5 p v) p = v := up_1
  unfold pkw
  rw [e1]
  show sB S p + 16 * sX S p + 32 * sT S p + 64 * v + 256 * sC S 0 p + 1024 * sC S 1 p + 4096 * sC S 2 p + 16384 * sC S 3 p + 65536 * sC S 4 p + 262144 * sC S 5 p = _
  omega
theorem pkw_num (w : wfS S nid) {p : Nat} (hp : p < sN S) : pkw (numS S) p = pkw S p - 16 * sX S p := by
  show sB S p + 16 * 0 + 32 * sT S p + 64 * sD S p + 256 * sC S 0 p + 1024 * sC S 1 p + 4096 * sC S 2 p + 16384 * sC S 3 p + 65536 * sC S 4 p + 262144 * sC S 5 p = _
  unfold pkw
  omega
theorem cM_setBar (W : MW A M h) {b w v : Int} (k : ∀ u M', MW (dSet A b w v).2 M' h → FM M M' → MA (xk [2, 1]) (dSet A b w v).1 u M' → Φ (.inl (some (xI u))) M' h) : x_Cal zM_setBar [xA 41, xI b, xI w, xI v] M h Φ := by
  have F := W.F
  have hN := W.w.N
  have bad : ∀ e t, dSet A b w v = (.inr e, A) → xk [2, 1] e = t → Φ (.inl (some (xI 0))) (x_w M 41 0 t) h := fun e t he ht => k _ _ (by rw [he]; exact W.thr) (FM.r.w (by decide)) (ma_e w_eq (by rw [he]) ht)
  unfold dSet at bad k
  refine x_met0 kM_setBar (Nat.le_of_ble_eq_true rfl) ?_
  simp only [wq_g3, wq_gc, wq_g, wq_g1, wq_g2, eM_setBar, iM_setBar_0, iM_setBar_13, iM_setBar_25, iM_setBar_26, iM_setBar_34, iM_setBar_83, iM_setBar_92, iM_setBar_94, iM_setBar_115, iM_setBar_116, iM_setBar_134, iM_setBar_135, vM_setBar, wps, x_cnd, reduceIte, Nat.reduceAdd, Nat.reduceSub, Nat.reduceEqDiff, Nat.reduceLeDiff, Nat.lt_irrefl, Nat.reduceLT, Int.cast_ofNat_Int, wq_c0, wq_c1, true_and, and_true, and_self, true_implies, forall_const, ne_eq, Decidable.not_not, not_true_eq_false, not_false_eq_true, List.map_nil, List.map_cons, List.sum_nil, List.sum_cons, List.length_cons, List.length_nil, Nat.le_refl, Nat.zero_le, reduceCtorEq, true_or, or_true, false_or, or_false, false_and, and_false, false_implies, Nat.zero_add, Nat.add_zero, Int.reduceEq, Int.reduceNe, Int.reduceLT, Int.reduceLE, Int.reduceNeg, Int.reduceToNat, Nat.not_lt_zero, Int.reduceAdd, fxs F]
  refine cM_isBar F W.G W.w ?_
  simp only [wq_g3, wq_gc, wq_g, wq_g1, wq_g2, eM_setBar, iM_setBar_0, iM_setBar_13, iM_setBar_25, iM_setBar_26, iM_setBar_34, iM_setBar_83, iM_setBar_92, iM_setBar_94, iM_setBar_115, iM_setBar_116, iM_setBar_134, iM_setBar_135, vM_setBar, wps, x_cnd, reduceIte, Nat.reduceAdd, Nat.reduceSub, Nat.reduceEqDiff, Nat.reduceLeDiff, Nat.lt_irrefl, Nat.reduceLT, Int.cast_ofNat_Int, wq_c0, wq_c1, true_and, and_true, and_self, true_implies, forall_const, ne_eq, Decidable.not_not, not_true_eq_false, not_false_eq_true, List.map_nil, List.map_cons, List.sum_nil, List.sum_cons, List.length_cons, List.length_nil, Nat.le_refl, Nat.zero_le, reduceCtorEq, true_or, or_true, false_or, or_false, false_and, and_false, false_implies, Nat.zero_add, Nat.add_zero, Int.reduceEq, Int.reduceNe, Int.reduceLT, Int.reduceLE, Int.reduceNeg, Int.reduceToNat, Nat.not_lt_zero, Int.reduceAdd, fxs F, b01_0]
  refine ⟨fun c1 => cM_maySet ?_, fun c1 => cM_ref1 F (by decide) ?_⟩
  · simp only [wq_g3, wq_gc, wq_g, wq_g1, wq_g2, eM_setBar, iM_setBar_0, iM_setBar_13, iM_setBar_25, iM_setBar_26, iM_setBar_34, iM_setBar_83, iM_setBar_92, iM_setBar_94, iM_setBar_115, iM_setBar_116, iM_setBar_134, iM_setBar_135, vM_setBar, wps, x_cnd, reduceIte, Nat.reduceAdd, Nat.reduceSub, Nat.reduceEqDiff, Nat.reduceLeDiff, Nat.lt_irrefl, Nat.reduceLT, Int.cast_ofNat_Int, wq_c0, wq_c1, true_and, and_true, and_self, true_implies, forall_const, ne_eq, Decidable.not_not, not_true_eq_false, not_false_eq_true, List.map_nil, List.map_cons, List.sum_nil, List.sum_cons, List.length_cons, List.length_nil, Nat.le_refl, Nat.zero_le, reduceCtorEq, true_or, or_true, false_or, or_false, false_and, and_false, false_implies, Nat.zero_add, Nat.add_zero, Int.reduceEq, Int.reduceNe, Int.reduceLT, Int.reduceLE, Int.reduceNeg, Int.reduceToNat, Nat.not_lt_zero, Int.reduceAdd, fxs F, b01_0]
    refine ⟨fun c2 => cM_ref0 F ?_, fun c2 => cM_ref1 F (by decide) ?_⟩
    · simp only [wq_g3, wq_gc, wq_g, wq_g1, wq_g2, eM_setBar, iM_setBar_0, iM_setBar_13, iM_setBar_25, iM_setBar_26, iM_setBar_34, iM_setBar_83, iM_setBar_92, iM_setBar_94, iM_setBar_115, iM_setBar_116, iM_setBar_134, iM_setBar_135, vM_setBar, wps, x_cnd, reduceIte, Nat.reduceAdd, Nat.reduceSub, Nat.reduceEqDiff, Nat.reduceLeDiff, Nat.lt_irrefl, Nat.reduceLT, Int.cast_ofNat_Int, wq_c0, wq_c1, true_and, and_true, and_self, true_implies, forall_const, ne_eq, Decidable.not_not, not_true_eq_false, not_false_eq_true, List.map_nil, List.map_cons, List.sum_nil, List.sum_cons, List.length_cons, List.length_nil, Nat.le_refl, Nat.zero_le, reduceCtorEq, true_or, or_true, false_or, or_false, false_and, and_false, false_implies, Nat.zero_add, Nat.add_zero, Int.reduceEq, Int.reduceNe, Int.reduceLT, Int.reduceLE, Int.reduceNeg, Int.reduceToNat, Nat.not_lt_zero, Int.reduceAdd, fxs F]
      obtain ⟨p, p1, p2, p3⟩ := pl_some c1
      rw [if_neg c1, if_neg (fun z => z c2), p2] at k
      refine cM_remembers W.thr (fun M2 P2 f2 => ?_)
      have e42 : M2 42 = M 42 := funext (fun j => (f2 42 j (by decide) (by omega)).trans (w_ne (by decide)))
      have G2 : SG (aS A) (M2 42) := by rw [e42]; exact W.G
      have hr := pkw_r W.w p1
      have hb := W.w.b p1
      have hx := pkw_x W.w p1
      have hpb := pkw_b W.w p1
      have ht := W.w.t p1
      have hd := W.w.d p1
      have fin : ∀ z : Int, z = pkw (barS (aS A) w p v) p → ∀ u, (if w = 2 then sB (aS A) p else if w = 4 then sT (aS A) p else sD (aS A) p) = u → Φ (.inl (some (xI u))) (x_w M2 42 (154 + p) z) h := fun z hz u hu => by
        refine k _ _ ((P2.w42).chg (G2.at' hN rfl rfl rfl rfl rfl rfl rfl rfl (fun r hr => ?_) (fun j hj => w_nj (by omega))) (W.w.barS c2)) (fun a j ha => ?_) (ma_v ?_ (congrArg Sum.inl hu))
        · show x_w M2 42 (154 + p) z 42 (154 + r) = _
          by_cases hrp : r = p
          · subst hrp
            exact w_eq.trans hz
          · rw [w_nj (by omega), G2.w hr, pkw_bar_o (by omega)]
        · rw [w_ne (by omega), f2 a j (by omega) (by omega), w_ne (by omega)]
        · rw [w_ne (by decide), f2 41 0 (by decide) (by decide), w_eq]
      simp only [wq_g3, wq_gc, wq_g, wq_g1, wq_g2, eM_setBar, iM_setBar_0, iM_setBar_13, iM_setBar_25, iM_setBar_26, iM_setBar_34, iM_setBar_83, iM_setBar_92, iM_setBar_94, iM_setBar_115, iM_setBar_116, iM_setBar_134, iM_setBar_135, vM_setBar, wps, x_cnd, reduceIte, Nat.reduceAdd, Nat.reduceSub, Nat.reduceEqDiff, Nat.reduceLeDiff, Nat.lt_irrefl, Nat.reduceLT, Int.cast_ofNat_Int, wq_c0, wq_c1, true_and, and_true, and_self, true_implies, forall_const, ne_eq, Decidable.not_not, not_true_eq_false, not_false_eq_true, List.map_nil, List.map_cons, List.sum_nil, List.sum_cons, List.length_cons, List.length_nil, Nat.le_refl, Nat.zero_le, reduceCtorEq, true_or, or_true, false_or, or_false, false_and, and_false, false_implies, Nat.zero_add, Nat.add_zero, Int.reduceEq, Int.reduceNe, Int.reduceLT, Int.reduceLE, Int.reduceNeg, Int.reduceToNat, Nat.not_lt_zero, Int.reduceAdd, fxs F]
      refine cM_placeOf F G2 W.w ?_
      rw [p2]
      simp only [wq_g3, wq_gc, wq_g, wq_g1, wq_g2, eM_setBar, iM_setBar_0, iM_setBar_13, iM_setBar_25, iM_setBar_26, iM_setBar_34, iM_setBar_83, iM_setBar_92, iM_setBar_94, iM_setBar_115, iM_setBar_116, iM_setBar_134, iM_setBar_135, vM_setBar, wps, x_cnd, reduceIte, Nat.reduceAdd, Nat.reduceSub, Nat.reduceEqDiff, Nat.reduceLeDiff, Nat.lt_irrefl, Nat.reduceLT, Int.cast_ofNat_Int, wq_c0, wq_c1, true_and, and_true, and_self, true_implies, forall_const, ne_eq, Decidable.not_not, not_true_eq_false, not_false_eq_true, List.map_nil, List.map_cons, List.sum_nil, List.sum_cons, List.length_cons, List.length_nil, Nat.le_refl, Nat.zero_le, reduceCtorEq, true_or, or_true, false_or, or_false, false_and, and_false, false_implies, Nat.zero_add, Nat.add_zero, Int.reduceEq, Int.reduceNe, Int.reduceLT, Int.reduceLE, Int.reduceNeg, Int.reduceToNat, Nat.not_lt_zero, Int.reduceAdd, fxs F]
      rw [w32_of (by omega), G2.w p1]
      obtain ⟨v', hv'⟩ : ∃ v' : Nat, v = v' := ⟨v.toNat, by unfold okSet at c2; omega⟩
      refine ⟨by omega, fun c3 => ⟨fun c4 => ⟨fun c5 => ?_, fun c5 => ?_⟩, fun c4 => ⟨fun c5 => ?_, fun c5 => ?_⟩⟩, fun c3 => ⟨by omega, ?_⟩⟩
      · refine cM_withBit (c := 6) (by omega) (by decide) ?_
        simp only [wq_g3, wq_gc, wq_g, wq_g1, wq_g2, eM_setBar, iM_setBar_0, iM_setBar_13, iM_setBar_25, iM_setBar_26, iM_setBar_34, iM_setBar_83, iM_setBar_92, iM_setBar_94, iM_setBar_115, iM_setBar_116, iM_setBar_134, iM_setBar_135, vM_setBar, wps, x_cnd, reduceIte, Nat.reduceAdd, Nat.reduceSub, Nat.reduceEqDiff, Nat.reduceLeDiff, Nat.lt_irrefl, Nat.reduceLT, Int.cast_ofNat_Int, wq_c0, wq_c1, true_and, and_true, and_self, true_implies, forall_const, ne_eq, Decidable.not_not, not_true_eq_false, not_false_eq_true, List.map_nil, List.map_cons, List.sum_nil, List.sum_cons, List.length_cons, List.length_nil, Nat.le_refl, Nat.zero_le, reduceCtorEq, true_or, or_true, false_or, or_false, false_and, and_false, false_implies, Nat.zero_add, Nat.add_zero, Int.reduceEq, Int.reduceNe, Int.reduceLT, Int.reduceLE, Int.reduceNeg, Int.reduceToNat, Nat.not_lt_zero, Int.reduceAdd, fxs F]
        refine ⟨by omega, cM_has (c := 6) (by omega) (by decide) ?_⟩
        simp only [wq_g3, wq_gc, wq_g, wq_g1, wq_g2, eM_setBar, iM_setBar_0, iM_setBar_13, iM_setBar_25, iM_setBar_26, iM_setBar_34, iM_setBar_83, iM_setBar_92, iM_setBar_94, iM_setBar_115, iM_setBar_116, iM_setBar_134, iM_setBar_135, vM_setBar, wps, x_cnd, reduceIte, Nat.reduceAdd, Nat.reduceSub, Nat.reduceEqDiff, Nat.reduceLeDiff, Nat.lt_irrefl, Nat.reduceLT, Int.cast_ofNat_Int, wq_c0, wq_c1, true_and, and_true, and_self, true_implies, forall_const, ne_eq, Decidable.not_not, not_true_eq_false, not_false_eq_true, List.map_nil, List.map_cons, List.sum_nil, List.sum_cons, List.length_cons, List.length_nil, Nat.le_refl, Nat.zero_le, reduceCtorEq, true_or, or_true, false_or, or_false, false_and, and_false, false_implies, Nat.zero_add, Nat.add_zero, Int.reduceEq, Int.reduceNe, Int.reduceLT, Int.reduceLE, Int.reduceNeg, Int.reduceToNat, Nat.not_lt_zero, Int.reduceAdd, fxs F, b01_0]
        rw [show pkw (aS A) p / ((2 ^ 6 : Nat) : Int) = pkw (aS A) p / 64 from rfl, show ((2 ^ 6 : Nat) : Int) = 64 from rfl, hx.2.2]
        refine ⟨fun c7 => fin _ ?_ 0 ?_, fun c7 => fin _ ?_ 1 ?_⟩
        · have c4 : w = 5 := by unfold okSet at c2; omega
          subst c4
          unfold okSet at c2
          rw [pkw_bar5]
          omega
        · rw [if_neg c3, if_neg c4]
          omega
        · have c4 : w = 5 := by unfold okSet at c2; omega
          subst c4
          unfold okSet at c2
          rw [pkw_bar5]
          omega
        · rw [if_neg c3, if_neg c4]
          omega
      · refine cM_withBit (c := 6) (by omega) (by decide) ?_
        simp only [wq_g3, wq_gc, wq_g, wq_g1, wq_g2, eM_setBar, iM_setBar_0, iM_setBar_13, iM_setBar_25, iM_setBar_26, iM_setBar_34, iM_setBar_83, iM_setBar_92, iM_setBar_94, iM_setBar_115, iM_setBar_116, iM_setBar_134, iM_setBar_135, vM_setBar, wps, x_cnd, reduceIte, Nat.reduceAdd, Nat.reduceSub, Nat.reduceEqDiff, Nat.reduceLeDiff, Nat.lt_irrefl, Nat.reduceLT, Int.cast_ofNat_Int, wq_c0, wq_c1, true_and, and_true, and_self, true_implies, forall_const, ne_eq, Decidable.not_not, not_true_eq_false, not_false_eq_true, List.map_nil, List.map_cons, List.sum_nil, List.sum_cons, List.length_cons, List.length_nil, Nat.le_refl, Nat.zero_le, reduceCtorEq, true_or, or_true, false_or, or_false, false_and, and_false, false_implies, Nat.zero_add, Nat.add_zero, Int.reduceEq, Int.reduceNe, Int.reduceLT, Int.reduceLE, Int.reduceNeg, Int.reduceToNat, Nat.not_lt_zero, Int.reduceAdd, fxs F]
        refine ⟨by omega, cM_has (c := 6) (by omega) (by decide) ?_⟩
        simp only [wq_g3, wq_gc, wq_g, wq_g1, wq_g2, eM_setBar, iM_setBar_0, iM_setBar_13, iM_setBar_25, iM_setBar_26, iM_setBar_34, iM_setBar_83, iM_setBar_92, iM_setBar_94, iM_setBar_115, iM_setBar_116, iM_setBar_134, iM_setBar_135, vM_setBar, wps, x_cnd, reduceIte, Nat.reduceAdd, Nat.reduceSub, Nat.reduceEqDiff, Nat.reduceLeDiff, Nat.lt_irrefl, Nat.reduceLT, Int.cast_ofNat_Int, wq_c0, wq_c1, true_and, and_true, and_self, true_implies, forall_const, ne_eq, Decidable.not_not, not_true_eq_false, not_false_eq_true, List.map_nil, List.map_cons, List.sum_nil, List.sum_cons, List.length_cons, List.length_nil, Nat.le_refl, Nat.zero_le, reduceCtorEq, true_or, or_true, false_or, or_false, false_and, and_false, false_implies, Nat.zero_add, Nat.add_zero, Int.reduceEq, Int.reduceNe, Int.reduceLT, Int.reduceLE, Int.reduceNeg, Int.reduceToNat, Nat.not_lt_zero, Int.reduceAdd, fxs F, b01_0]
        rw [show pkw (aS A) p / ((2 ^ 6 : Nat) : Int) = pkw (aS A) p / 64 from rfl, show ((2 ^ 6 : Nat) : Int) = 64 from rfl, hx.2.2]
        refine ⟨fun c7 => fin _ ?_ 0 ?_, fun c7 => fin _ ?_ 1 ?_⟩
        · have c4 : w = 5 := by unfold okSet at c2; omega
          subst c4
          unfold okSet at c2
          rw [pkw_bar5]
          omega
        · rw [if_neg c3, if_neg c4]
          omega
        · have c4 : w = 5 := by unfold okSet at c2; omega
          subst c4
          unfold okSet at c2
          rw [pkw_bar5]
          omega
        · rw [if_neg c3, if_neg c4]
          omega
      · refine cM_withBit (c := 5) (by omega) (by decide) ?_
        simp only [wq_g3, wq_gc, wq_g, wq_g1, wq_g2, eM_setBar, iM_setBar_0, iM_setBar_13, iM_setBar_25, iM_setBar_26, iM_setBar_34, iM_setBar_83, iM_setBar_92, iM_setBar_94, iM_setBar_115, iM_setBar_116, iM_setBar_134, iM_setBar_135, vM_setBar, wps, x_cnd, reduceIte, Nat.reduceAdd, Nat.reduceSub, Nat.reduceEqDiff, Nat.reduceLeDiff, Nat.lt_irrefl, Nat.reduceLT, Int.cast_ofNat_Int, wq_c0, wq_c1, true_and, and_true, and_self, true_implies, forall_const, ne_eq, Decidable.not_not, not_true_eq_false, not_false_eq_true, List.map_nil, List.map_cons, List.sum_nil, List.sum_cons, List.length_cons, List.length_nil, Nat.le_refl, Nat.zero_le, reduceCtorEq, true_or, or_true, false_or, or_false, false_and, and_false, false_implies, Nat.zero_add, Nat.add_zero, Int.reduceEq, Int.reduceNe, Int.reduceLT, Int.reduceLE, Int.reduceNeg, Int.reduceToNat, Nat.not_lt_zero, Int.reduceAdd, fxs F]
        refine ⟨by omega, cM_has (c := 5) (by omega) (by decide) ?_⟩
        simp only [wq_g3, wq_gc, wq_g, wq_g1, wq_g2, eM_setBar, iM_setBar_0, iM_setBar_13, iM_setBar_25, iM_setBar_26, iM_setBar_34, iM_setBar_83, iM_setBar_92, iM_setBar_94, iM_setBar_115, iM_setBar_116, iM_setBar_134, iM_setBar_135, vM_setBar, wps, x_cnd, reduceIte, Nat.reduceAdd, Nat.reduceSub, Nat.reduceEqDiff, Nat.reduceLeDiff, Nat.lt_irrefl, Nat.reduceLT, Int.cast_ofNat_Int, wq_c0, wq_c1, true_and, and_true, and_self, true_implies, forall_const, ne_eq, Decidable.not_not, not_true_eq_false, not_false_eq_true, List.map_nil, List.map_cons, List.sum_nil, List.sum_cons, List.length_cons, List.length_nil, Nat.le_refl, Nat.zero_le, reduceCtorEq, true_or, or_true, false_or, or_false, false_and, and_false, false_implies, Nat.zero_add, Nat.add_zero, Int.reduceEq, Int.reduceNe, Int.reduceLT, Int.reduceLE, Int.reduceNeg, Int.reduceToNat, Nat.not_lt_zero, Int.reduceAdd, fxs F, b01_0]
        rw [show pkw (aS A) p / ((2 ^ 5 : Nat) : Int) = pkw (aS A) p / 32 from rfl, show ((2 ^ 5 : Nat) : Int) = 32 from rfl, hx.2.1]
        refine ⟨fun c7 => fin _ ?_ 0 ?_, fun c7 => fin _ ?_ 1 ?_⟩
        · subst c4
          unfold okSet at c2
          rw [pkw_bar4]
          omega
        · rw [if_neg c3, if_pos c4]
          omega
        · subst c4
          unfold okSet at c2
          rw [pkw_bar4]
          omega
        · rw [if_neg c3, if_pos c4]
          omega
      · refine cM_withBit (c := 5) (by omega) (by decide) ?_
        simp only [wq_g3, wq_gc, wq_g, wq_g1, wq_g2, eM_setBar, iM_setBar_0, iM_setBar_13, iM_setBar_25, iM_setBar_26, iM_setBar_34, iM_setBar_83, iM_setBar_92, iM_setBar_94, iM_setBar_115, iM_setBar_116, iM_setBar_134, iM_setBar_135, vM_setBar, wps, x_cnd, reduceIte, Nat.reduceAdd, Nat.reduceSub, Nat.reduceEqDiff, Nat.reduceLeDiff, Nat.lt_irrefl, Nat.reduceLT, Int.cast_ofNat_Int, wq_c0, wq_c1, true_and, and_true, and_self, true_implies, forall_const, ne_eq, Decidable.not_not, not_true_eq_false, not_false_eq_true, List.map_nil, List.map_cons, List.sum_nil, List.sum_cons, List.length_cons, List.length_nil, Nat.le_refl, Nat.zero_le, reduceCtorEq, true_or, or_true, false_or, or_false, false_and, and_false, false_implies, Nat.zero_add, Nat.add_zero, Int.reduceEq, Int.reduceNe, Int.reduceLT, Int.reduceLE, Int.reduceNeg, Int.reduceToNat, Nat.not_lt_zero, Int.reduceAdd, fxs F]
        refine ⟨by omega, cM_has (c := 5) (by omega) (by decide) ?_⟩
        simp only [wq_g3, wq_gc, wq_g, wq_g1, wq_g2, eM_setBar, iM_setBar_0, iM_setBar_13, iM_setBar_25, iM_setBar_26, iM_setBar_34, iM_setBar_83, iM_setBar_92, iM_setBar_94, iM_setBar_115, iM_setBar_116, iM_setBar_134, iM_setBar_135, vM_setBar, wps, x_cnd, reduceIte, Nat.reduceAdd, Nat.reduceSub, Nat.reduceEqDiff, Nat.reduceLeDiff, Nat.lt_irrefl, Nat.reduceLT, Int.cast_ofNat_Int, wq_c0, wq_c1, true_and, and_true, and_self, true_implies, forall_const, ne_eq, Decidable.not_not, not_true_eq_false, not_false_eq_true, List.map_nil, List.map_cons, List.sum_nil, List.sum_cons, List.length_cons, List.length_nil, Nat.le_refl, Nat.zero_le, reduceCtorEq, true_or, or_true, false_or, or_false, false_and, and_false, false_implies, Nat.zero_add, Nat.add_zero, Int.reduceEq, Int.reduceNe, Int.reduceLT, Int.reduceLE, Int.reduceNeg, Int.reduceToNat, Nat.not_lt_zero, Int.reduceAdd, fxs F, b01_0]
        rw [show pkw (aS A) p / ((2 ^ 5 : Nat) : Int) = pkw (aS A) p / 32 from rfl, show ((2 ^ 5 : Nat) : Int) = 32 from rfl, hx.2.1]
        refine ⟨fun c7 => fin _ ?_ 0 ?_, fun c7 => fin _ ?_ 1 ?_⟩
        · subst c4
          unfold okSet at c2
          rw [pkw_bar4]
          omega
        · rw [if_neg c3, if_pos c4]
          omega
        · subst c4
          unfold okSet at c2
          rw [pkw_bar4]
          omega
        · rw [if_neg c3, if_pos c4]
          omega
      · have hm := x_m16 (a := pkw (aS A) p) (v := v') (by omega) (by unfold okSet at c2; omega)
        rw [← hv'] at hm
        rw [hm]
        refine cM_beatsIn W.w p1 ?_
        simp only [wq_g3, wq_gc, wq_g, wq_g1, wq_g2, eM_setBar, iM_setBar_0, iM_setBar_13, iM_setBar_25, iM_setBar_26, iM_setBar_34, iM_setBar_83, iM_setBar_92, iM_setBar_94, iM_setBar_115, iM_setBar_116, iM_setBar_134, iM_setBar_135, vM_setBar, wps, x_cnd, reduceIte, Nat.reduceAdd, Nat.reduceSub, Nat.reduceEqDiff, Nat.reduceLeDiff, Nat.lt_irrefl, Nat.reduceLT, Int.cast_ofNat_Int, wq_c0, wq_c1, true_and, and_true, and_self, true_implies, forall_const, ne_eq, Decidable.not_not, not_true_eq_false, not_false_eq_true, List.map_nil, List.map_cons, List.sum_nil, List.sum_cons, List.length_cons, List.length_nil, Nat.le_refl, Nat.zero_le, reduceCtorEq, true_or, or_true, false_or, or_false, false_and, and_false, false_implies, Nat.zero_add, Nat.add_zero, Int.reduceEq, Int.reduceNe, Int.reduceLT, Int.reduceLE, Int.reduceNeg, Int.reduceToNat, Nat.not_lt_zero, Int.reduceAdd, fxs F]
        refine fin _ ?_ _ (if_pos c3)
        subst c3
        rw [pkw_bar2, hpb]
    · simp only [wq_g3, wq_gc, wq_g, wq_g1, wq_g2, eM_setBar, iM_setBar_0, iM_setBar_13, iM_setBar_25, iM_setBar_26, iM_setBar_34, iM_setBar_83, iM_setBar_92, iM_setBar_94, iM_setBar_115, iM_setBar_116, iM_setBar_134, iM_setBar_135, vM_setBar, wps, x_cnd, reduceIte, Nat.reduceAdd, Nat.reduceSub, Nat.reduceEqDiff, Nat.reduceLeDiff, Nat.lt_irrefl, Nat.reduceLT, Int.cast_ofNat_Int, wq_c0, wq_c1, true_and, and_true, and_self, true_implies, forall_const, ne_eq, Decidable.not_not, not_true_eq_false, not_false_eq_true, List.map_nil, List.map_cons, List.sum_nil, List.sum_cons, List.length_cons, List.length_nil, Nat.le_refl, Nat.zero_le, reduceCtorEq, true_or, or_true, false_or, or_false, false_and, and_false, false_implies, Nat.zero_add, Nat.add_zero, Int.reduceEq, Int.reduceNe, Int.reduceLT, Int.reduceLE, Int.reduceNeg, Int.reduceToNat, Nat.not_lt_zero, Int.reduceAdd, fxs F]
      exact bad 1 2 (by rw [if_neg c1, if_pos c2]) rfl
  · simp only [wq_g3, wq_gc, wq_g, wq_g1, wq_g2, eM_setBar, iM_setBar_0, iM_setBar_13, iM_setBar_25, iM_setBar_26, iM_setBar_34, iM_setBar_83, iM_setBar_92, iM_setBar_94, iM_setBar_115, iM_setBar_116, iM_setBar_134, iM_setBar_135, vM_setBar, wps, x_cnd, reduceIte, Nat.reduceAdd, Nat.reduceSub, Nat.reduceEqDiff, Nat.reduceLeDiff, Nat.lt_irrefl, Nat.reduceLT, Int.cast_ofNat_Int, wq_c0, wq_c1, true_and, and_true, and_self, true_implies, forall_const, ne_eq, Decidable.not_not, not_true_eq_false, not_false_eq_true, List.map_nil, List.map_cons, List.sum_nil, List.sum_cons, List.length_cons, List.length_nil, Nat.le_refl, Nat.zero_le, reduceCtorEq, true_or, or_true, false_or, or_false, false_and, and_false, false_implies, Nat.zero_add, Nat.add_zero, Int.reduceEq, Int.reduceNe, Int.reduceLT, Int.reduceLE, Int.reduceNeg, Int.reduceToNat, Nat.not_lt_zero, Int.reduceAdd, fxs F]
    exact bad 2 1 (if_pos c1) rfl
theorem cM_renumber (W : MW A M h) (k : ∀ u M', MW (dNum A).2 M' h → FM M M' → MA (xk []) (dNum A).1 u M' → Φ (.inl (some (xI u))) M' h) : x_Cal zM_renumber [xA 41] M h Φ := by
  have F := W.F
  have hN := W.w.N
  refine x_metI kM_renumber (Nat.le_of_ble_eq_true rfl) (fun t m ls st M' h' c2 n2 => t = 17 ∧ st = [] ∧ h' = h ∧ c2 = 0 ∧ n2 = 0 ∧ ls 0 = some (xA 41) ∧ MP (aKeep A (aS A) (aI A)) M' h ∧ FM M M' ∧ M' 41 0 = 0 ∧ (∀ q : Nat, q < sN (aS A) → M' 47 q = lab (aS A) q) ∧ ∃ p : Nat, p ≤ sN (aS A) ∧ m = sN (aS A) - p ∧ ls 1 = some (xI (cn (otN (aS A)) p)) ∧ ls 2 = some (xI p) ∧ (∀ q : Nat, q < sN (aS A) → M' 42 (154 + q) = if q < p then pkw (numS (aS A)) q else pkw (aS A) q) ∧ ∀ j : Int, ¬ (154 ≤ j ∧ j < 304) → M' 42 j = M 42 j) 20 ?_ ?_
  · simp only [wq_g3, wq_gc, wq_g, wq_g1, wq_g2, eM_renumber, iM_renumber_0, iM_renumber_17, iM_renumber_67, iM_renumber_73, vM_renumber, wps, x_cnd, reduceIte, Nat.reduceAdd, Nat.reduceSub, Nat.reduceEqDiff, Nat.reduceLeDiff, Nat.lt_irrefl, Nat.reduceLT, Int.cast_ofNat_Int, wq_c0, wq_c1, true_and, and_true, and_self, true_implies, forall_const, ne_eq, Decidable.not_not, not_true_eq_false, not_false_eq_true, List.map_nil, List.map_cons, List.sum_nil, List.sum_cons, List.length_cons, List.length_nil, Nat.le_refl, Nat.zero_le, reduceCtorEq, true_or, or_true, false_or, or_false, false_and, and_false, false_implies, Nat.zero_add, Nat.add_zero, Int.reduceEq, Int.reduceNe, Int.reduceLT, Int.reduceLE, Int.reduceNeg, Int.reduceToNat, Nat.not_lt_zero, Int.reduceAdd, fxs F]
    refine cM_remembers W.thr (fun M2 P2 f2 => ?_)
    have e42 : M2 42 = M 42 := funext (fun j => (f2 42 j (by decide) (by omega)).trans (w_ne (by decide)))
    have G2 : SG (aS A) (M2 42) := by rw [e42]; exact W.G
    simp only [wq_g3, wq_gc, wq_g, wq_g1, wq_g2, eM_renumber, iM_renumber_0, iM_renumber_17, iM_renumber_67, iM_renumber_73, vM_renumber, wps, x_cnd, reduceIte, Nat.reduceAdd, Nat.reduceSub, Nat.reduceEqDiff, Nat.reduceLeDiff, Nat.lt_irrefl, Nat.reduceLT, Int.cast_ofNat_Int, wq_c0, wq_c1, true_and, and_true, and_self, true_implies, forall_const, ne_eq, Decidable.not_not, not_true_eq_false, not_false_eq_true, List.map_nil, List.map_cons, List.sum_nil, List.sum_cons, List.length_cons, List.length_nil, Nat.le_refl, Nat.zero_le, reduceCtorEq, true_or, or_true, false_or, or_false, false_and, and_false, false_implies, Nat.zero_add, Nat.add_zero, Int.reduceEq, Int.reduceNe, Int.reduceLT, Int.reduceLE, Int.reduceNeg, Int.reduceToNat, Nat.not_lt_zero, Int.reduceAdd, fxs F]
    refine cM_laysLabels F G2 W.w (fun M3 g3 f3 => ?_)
    simp only [wq_g3, wq_gc, wq_g, wq_g1, wq_g2, eM_renumber, iM_renumber_0, iM_renumber_17, iM_renumber_67, iM_renumber_73, vM_renumber, wps, x_cnd, reduceIte, Nat.reduceAdd, Nat.reduceSub, Nat.reduceEqDiff, Nat.reduceLeDiff, Nat.lt_irrefl, Nat.reduceLT, Int.cast_ofNat_Int, wq_c0, wq_c1, true_and, and_true, and_self, true_implies, forall_const, ne_eq, Decidable.not_not, not_true_eq_false, not_false_eq_true, List.map_nil, List.map_cons, List.sum_nil, List.sum_cons, List.length_cons, List.length_nil, Nat.le_refl, Nat.zero_le, reduceCtorEq, true_or, or_true, false_or, or_false, false_and, and_false, false_implies, Nat.zero_add, Nat.add_zero, Int.reduceEq, Int.reduceNe, Int.reduceLT, Int.reduceLE, Int.reduceNeg, Int.reduceToNat, Nat.not_lt_zero, Int.reduceAdd, fxs F]
    refine ⟨sN (aS A) - 0, P2.frame (fun a j ha => f3 a j (by omega)) (fun j hj => f3 41 j (by decide)), fun a j ha => ?_, ?_, g3, 0, by omega, rfl, rfl, by rw [Int.natCast_zero], fun q hq => ?_, fun j hj => ?_⟩
    · rw [f3 a j (by omega), f2 a j (by omega) (by omega), w_ne (by omega)]
    · rw [f3 41 0 (by decide), f2 41 0 (by decide) (by decide), w_eq]
    · rw [f3 42 _ (by decide), G2.w hq, if_neg (by omega)]
    · rw [f3 42 _ (by decide), e42]
  · rintro t m ls st M1 h' c2 n2 ⟨rfl, rfl, rfl, rfl, rfl, l0, P1, f1, t1, g1, p, y1, y2, l1, l2, y3, y4⟩
    have e0 : M1 42 0 = sN (aS A) := (y4 0 (by omega)).trans W.G.n
    have hcr := cn_rng (P := otN (aS A)) (n := p)
    simp only [wq_g3, wq_gc, wq_g, wq_g1, wq_g2, eM_renumber, iM_renumber_0, iM_renumber_17, iM_renumber_67, iM_renumber_73, vM_renumber, wps, x_cnd, reduceIte, Nat.reduceAdd, Nat.reduceSub, Nat.reduceEqDiff, Nat.reduceLeDiff, Nat.lt_irrefl, Nat.reduceLT, Int.cast_ofNat_Int, wq_c0, wq_c1, true_and, and_true, and_self, true_implies, forall_const, ne_eq, Decidable.not_not, not_true_eq_false, not_false_eq_true, List.map_nil, List.map_cons, List.sum_nil, List.sum_cons, List.length_cons, List.length_nil, Nat.le_refl, Nat.zero_le, reduceCtorEq, true_or, or_true, false_or, or_false, false_and, and_false, false_implies, Nat.zero_add, Nat.add_zero, Int.reduceEq, Int.reduceNe, Int.reduceLT, Int.reduceLE, Int.reduceNeg, Int.reduceToNat, Nat.not_lt_zero, Int.reduceAdd, fxs F, l0, l1, l2, e0]
    refine ⟨fun c0 => ?_, fun c0 => cM_whatAt F (by omega) ?_⟩
    · have hp : p = sN (aS A) := by omega
      subst hp
      exact k _ M1 (P1.chg (W.G.at' hN rfl rfl rfl rfl rfl rfl rfl rfl (fun q hq => by rw [y3 q hq, if_pos hq]) y4) W.w.numS) f1 (ma_v t1 rfl)
    · have hp : p < sN (aS A) := by omega
      have hr := pkw_r W.w hp
      have hx := pkw_x W.w hp
      rw [y3 p hp, if_neg (by omega)]
      simp only [wq_g3, wq_gc, wq_g, wq_g1, wq_g2, eM_renumber, iM_renumber_0, iM_renumber_17, iM_renumber_67, iM_renumber_73, vM_renumber, wps, x_cnd, reduceIte, Nat.reduceAdd, Nat.reduceSub, Nat.reduceEqDiff, Nat.reduceLeDiff, Nat.lt_irrefl, Nat.reduceLT, Int.cast_ofNat_Int, wq_c0, wq_c1, true_and, and_true, and_self, true_implies, forall_const, ne_eq, Decidable.not_not, not_true_eq_false, not_false_eq_true, List.map_nil, List.map_cons, List.sum_nil, List.sum_cons, List.length_cons, List.length_nil, Nat.le_refl, Nat.zero_le, reduceCtorEq, true_or, or_true, false_or, or_false, false_and, and_false, false_implies, Nat.zero_add, Nat.add_zero, Int.reduceEq, Int.reduceNe, Int.reduceLT, Int.reduceLE, Int.reduceNeg, Int.reduceToNat, Nat.not_lt_zero, Int.reduceAdd, fxs F, l0, l1, l2]
      refine cM_withBit (c := 4) (by omega) (by decide) ?_
      simp only [wq_g3, wq_gc, wq_g, wq_g1, wq_g2, eM_renumber, iM_renumber_0, iM_renumber_17, iM_renumber_67, iM_renumber_73, vM_renumber, wps, x_cnd, reduceIte, Nat.reduceAdd, Nat.reduceSub, Nat.reduceEqDiff, Nat.reduceLeDiff, Nat.lt_irrefl, Nat.reduceLT, Int.cast_ofNat_Int, wq_c0, wq_c1, true_and, and_true, and_self, true_implies, forall_const, ne_eq, Decidable.not_not, not_true_eq_false, not_false_eq_true, List.map_nil, List.map_cons, List.sum_nil, List.sum_cons, List.length_cons, List.length_nil, Nat.le_refl, Nat.zero_le, reduceCtorEq, true_or, or_true, false_or, or_false, false_and, and_false, false_implies, Nat.zero_add, Nat.add_zero, Int.reduceEq, Int.reduceNe, Int.reduceLT, Int.reduceLE, Int.reduceNeg, Int.reduceToNat, Nat.not_lt_zero, Int.reduceAdd, fxs F, l0, l1, l2]
      have hlr := lab_rng hp W.w
      have hnum := pkw_num W.w hp
      rw [show ((2 ^ 4 : Nat) : Int) = 16 from rfl, hx.1, show pkw (aS A) p - 16 * sX (aS A) p + 16 * 0 = pkw (numS (aS A)) p by omega]
      simp (disch := omega) only [w32_of]
      rw [w_ne (by decide), g1 p hp]
      have hot : otN (aS A) p = true ↔ lab (aS A) p ≠ 1000 * ((p : Int) + 1) := by
        unfold otN
        exact bne_iff_ne
      have go : ∀ u : Int, u = cn (otN (aS A)) (p + 1) → ∃ m2, m2 < m ∧ MP (aKeep A (aS A) (aI A)) (x_w M1 42 (154 + p) (pkw (numS (aS A)) p)) h' ∧ FM M (x_w M1 42 (154 + p) (pkw (numS (aS A)) p)) ∧ x_w M1 42 (154 + p) (pkw (numS (aS A)) p) 41 0 = 0 ∧ (∀ q : Nat, q < sN (aS A) → x_w M1 42 (154 + p) (pkw (numS (aS A)) p) 47 q = lab (aS A) q) ∧ ∃ p_1 : Nat, p_1 ≤ sN (aS A) ∧ m2 = sN (aS A) - p_1 ∧ some (xI u) = some (xI (cn (otN (aS A)) p_1)) ∧ some (xI ((p : Int) + 1)) = some (xI p_1) ∧ (∀ q : Nat, q < sN (aS A) → x_w M1 42 (154 + p) (pkw (numS (aS A)) p) 42 (154 + q) = if q < p_1 then pkw (numS (aS A)) q else pkw (aS A) q) ∧ ∀ j : Int, ¬ (154 ≤ j ∧ j < 304) → x_w M1 42 (154 + p) (pkw (numS (aS A)) p) 42 j = M 42 j := fun u hu => by
        refine ⟨sN (aS A) - (p + 1), by omega, P1.w42, f1.w (by decide), (w_ne (by decide)).trans t1, fun q hq => (w_ne (by decide)).trans (g1 q hq), p + 1, by omega, rfl, by rw [hu], congrArg (fun z => some (xI z)) (by omega), fun q hq => ?_, fun j hj => (w_nj (by omega)).trans (y4 j hj)⟩
        by_cases hqp : q = p
        · subst hqp
          rw [w_eq, if_pos (by omega)]
        · rw [w_nj (by omega), y3 q hq]
          by_cases hlt : q < p
          · rw [if_pos hlt, if_pos (by omega)]
          · rw [if_neg hlt, if_neg (by omega)]
      refine ⟨by omega, by omega, fun c3 => go _ ?_, fun c3 => go _ ?_⟩
      · rw [cn_s0 (bf_of hot (fun q => q c3))]
      · rw [cn_s1 (hot.mpr c3)]
end MSET2
