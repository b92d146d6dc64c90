/-! StringBuilder: texts appended, constructors, toString -/
theorem vY_appendSh : zC zY_appendS = 1 ∧ zS zY_appendS = 2000 ∧ x_rtc (zR zY_appendS) = 4 := ⟨rfl, rfl, rfl⟩
theorem vY_putStringAth : zC zY_putStringAt = 0 ∧ zS zY_putStringAt = 0 ∧ x_rtc (zR zY_putStringAt) = 0 := ⟨rfl, rfl, rfl⟩
theorem vY_inflateIfNeededForh : zC zY_inflateIfNeededFor = 0 ∧ zS zY_inflateIfNeededFor = 0 ∧ x_rtc (zR zY_inflateIfNeededFor) = 0 := ⟨rfl, rfl, rfl⟩
theorem wqS3 (Cl : xCal) (E : Nat × Nat × Nat × xSc) (J : xJT) (Φ : xO → xM → xH → Prop) (is : List xPI) (ls : xL) (st : List xV) (M : xM) (h : xH) (c n : Nat) (j mc ms q : Nat) (z : xMD) (k : List Nat) (i : Nat) (a0 a1 a2 : xV) : wpL Cl E J Φ ((.invokevirtual j, 3 :: mc :: ms :: q :: k, [z]) :: is) ls (a2 :: a1 :: a0 :: xS i :: st) M h c n = (q = 50 ∧ (c + mc ≤ E.1 ∧ n + ms ≤ E.2.1) ∧ (st.map x_cat).sum ≤ 8 ∧ 3 + 1 ≤ (a2 :: a1 :: a0 :: xS i :: st).length ∧ Cl z [xS i, a0, a1, a2] M h (x_k Cl E J Φ is ls st (c + mc) (n + ms))) := rfl
section SB3
variable {M : xM} {h : xH} {Φ : xO → xM → xH → Prop} {b : Nat} {L : List Int}
set_option maxHeartbeats 1000000
theorem cY_inflate {i : Nat} (r1 : hK h b = 9) (r3 : M b 1 = 0) (k : Φ (.inl none) M h) : x_Cal zY_inflateIfNeededFor [xA b, xS i] M h Φ := by
  refine x_met0 kY_inflateIfNeededFor (Nat.le_of_ble_eq_true rfl) ?_
  simp only [wq_g3, wq_gc, wq_g, wq_g1, wq_g2, eY_inflateIfNeededFor, iY_inflateIfNeededFor_0, iY_inflateIfNeededFor_21, vY_inflateIfNeededFor, wps, x_cnd, reduceIte, Nat.reduceAdd, Nat.reduceSub, Nat.reduceEqDiff, Nat.reduceLeDiff, Nat.lt_irrefl, Nat.reduceLT, Int.cast_ofNat_Int, wq_c0, wq_c1, true_and, and_true, and_self, true_implies, forall_const, ne_eq, Decidable.not_not, not_true_eq_false, not_false_eq_true, List.map_nil, List.map_cons, List.sum_nil, List.sum_cons, List.length_cons, List.length_nil, Nat.le_refl, Nat.zero_le, reduceCtorEq, true_or, or_true, false_or, or_false, false_and, and_false, false_implies, Nat.zero_add, Nat.add_zero, Int.reduceEq, Int.reduceNe, Int.reduceLT, Int.reduceLE, Int.reduceNeg, Int.reduceToNat, Nat.not_lt_zero, Int.reduceAdd, r1, r3, Int.reduceEq]
  (repeat refine ⟨by omega, ?_⟩)
  refine cT_coder ?_
  simp only [wq_g3, wq_gc, wq_g, wq_g1, wq_g2, eY_inflateIfNeededFor, iY_inflateIfNeededFor_0, iY_inflateIfNeededFor_21, vY_inflateIfNeededFor, wps, x_cnd, reduceIte, Nat.reduceAdd, Nat.reduceSub, Nat.reduceEqDiff, Nat.reduceLeDiff, Nat.lt_irrefl, Nat.reduceLT, Int.cast_ofNat_Int, wq_c0, wq_c1, true_and, and_true, and_self, true_implies, forall_const, ne_eq, Decidable.not_not, not_true_eq_false, not_false_eq_true, List.map_nil, List.map_cons, List.sum_nil, List.sum_cons, List.length_cons, List.length_nil, Nat.le_refl, Nat.zero_le, reduceCtorEq, true_or, or_true, false_or, or_false, false_and, and_false, false_implies, Nat.zero_add, Nat.add_zero, Int.reduceEq, Int.reduceNe, Int.reduceLT, Int.reduceLE, Int.reduceNeg, Int.reduceToNat, Nat.not_lt_zero, Int.reduceAdd, r1, r3, Int.reduceEq]
  exact k
theorem cY_putStringAt {i : Nat} (hi : i < 22) (R : sbR L M h b) (hroom : (L.length : Nat) + x_sl i ≤ hL h (hP h b 0)) (k : Φ (.inl none) (x_cpS M i (hP h b 0) (L.length : Nat)) h) : x_Cal zY_putStringAt [xA b, xI (L.length : Nat), xS i] M h Φ := by
  obtain ⟨⟨r1, r2⟩, ⟨r3, r4⟩, ⟨r5, r6⟩, r7, r8, r9, r10⟩ := id R
  have hr := x_sl_r i hi
  refine x_met0 kY_putStringAt (Nat.le_of_ble_eq_true rfl) ?_
  simp only [wq_g3, wq_gc, wq_g, wq_g1, wq_g2, eY_putStringAt, iY_putStringAt_0, vY_putStringAt, wps, x_cnd, reduceIte, Nat.reduceAdd, Nat.reduceSub, Nat.reduceEqDiff, Nat.reduceLeDiff, Nat.lt_irrefl, Nat.reduceLT, Int.cast_ofNat_Int, wq_c0, wq_c1, true_and, and_true, and_self, true_implies, forall_const, ne_eq, Decidable.not_not, not_true_eq_false, not_false_eq_true, List.map_nil, List.map_cons, List.sum_nil, List.sum_cons, List.length_cons, List.length_nil, Nat.le_refl, Nat.zero_le, reduceCtorEq, true_or, or_true, false_or, or_false, false_and, and_false, false_implies, Nat.zero_add, Nat.add_zero, Int.reduceEq, Int.reduceNe, Int.reduceLT, Int.reduceLE, Int.reduceNeg, Int.reduceToNat, Nat.not_lt_zero, Int.reduceAdd, r1]
  (repeat refine ⟨by omega, ?_⟩)
  refine cY_inflate r1 r3 ?_
  simp only [wq_g3, wq_gc, wq_g, wq_g1, wq_g2, eY_putStringAt, iY_putStringAt_0, vY_putStringAt, wps, x_cnd, reduceIte, Nat.reduceAdd, Nat.reduceSub, Nat.reduceEqDiff, Nat.reduceLeDiff, Nat.lt_irrefl, Nat.reduceLT, Int.cast_ofNat_Int, wq_c0, wq_c1, true_and, and_true, and_self, true_implies, forall_const, ne_eq, Decidable.not_not, not_true_eq_false, not_false_eq_true, List.map_nil, List.map_cons, List.sum_nil, List.sum_cons, List.length_cons, List.length_nil, Nat.le_refl, Nat.zero_le, reduceCtorEq, true_or, or_true, false_or, or_false, false_and, and_false, false_implies, Nat.zero_add, Nat.add_zero, Int.reduceEq, Int.reduceNe, Int.reduceLT, Int.reduceLE, Int.reduceNeg, Int.reduceToNat, Nat.not_lt_zero, Int.reduceAdd, r1, r3, wqS3]
  (repeat refine ⟨by omega, ?_⟩)
  refine cT_getBytesS hi r2 ⟨by omega, hroom⟩ (by unfold x_i32; omega) ?_
  simp only [wq_g3, wq_gc, wq_g, wq_g1, wq_g2, eY_putStringAt, iY_putStringAt_0, vY_putStringAt, wps, x_cnd, reduceIte, Nat.reduceAdd, Nat.reduceSub, Nat.reduceEqDiff, Nat.reduceLeDiff, Nat.lt_irrefl, Nat.reduceLT, Int.cast_ofNat_Int, wq_c0, wq_c1, true_and, and_true, and_self, true_implies, forall_const, ne_eq, Decidable.not_not, not_true_eq_false, not_false_eq_true, List.map_nil, List.map_cons, List.sum_nil, List.sum_cons, List.length_cons, List.length_nil, Nat.le_refl, Nat.zero_le, reduceCtorEq, true_or, or_true, false_or, or_false, false_and, and_false, false_implies, Nat.zero_add, Nat.add_zero, Int.reduceEq, Int.reduceNe, Int.reduceLT, Int.reduceLE, Int.reduceNeg, Int.reduceToNat, Nat.not_lt_zero, Int.reduceAdd, r1, r3]
  exact k
theorem cY_appendS {i : Nat} (hi : i < 22) (R : sbR L M h b) (hl : L.length < 950) (k : ∀ M' h', sbR (L ++ x_cs i) M' h' b → sbF b M h M' h' → Φ (.inl (some (xA b))) M' h') : x_Cal zY_appendS [xA b, xS i] M h Φ := by
  obtain ⟨⟨r1, r2⟩, ⟨r3, r4⟩, ⟨r5, r6⟩, r7, r8, r9, r10⟩ := id R
  have key : ∀ i, i < 22 → 0 ≤ x_sl i ∧ x_sl i < 10 := by decide +kernel
  have hr := key i hi
  have hcl := (x_cs_len i).resolve_right (by omega)
  refine x_met0 kY_appendS (Nat.le_of_ble_eq_true rfl) ?_
  simp only [wq_g3, wq_gc, wq_g, wq_g1, wq_g2, eY_appendS, iY_appendS_0, iY_appendS_9, vY_appendS, wps, x_cnd, reduceIte, Nat.reduceAdd, Nat.reduceSub, Nat.reduceEqDiff, Nat.reduceLeDiff, Nat.lt_irrefl, Nat.reduceLT, Int.cast_ofNat_Int, wq_c0, wq_c1, true_and, and_true, and_self, true_implies, forall_const, ne_eq, Decidable.not_not, not_true_eq_false, not_false_eq_true, List.map_nil, List.map_cons, List.sum_nil, List.sum_cons, List.length_cons, List.length_nil, Nat.le_refl, Nat.zero_le, reduceCtorEq, true_or, or_true, false_or, or_false, false_and, and_false, false_implies, Nat.zero_add, Nat.add_zero, Int.reduceEq, Int.reduceNe, Int.reduceLT, Int.reduceLE, Int.reduceNeg, Int.reduceToNat, Nat.not_lt_zero, Int.reduceAdd, r1]
  (repeat refine ⟨by omega, ?_⟩)
  refine cT_length hi ?_
  simp only [wq_g3, wq_gc, wq_g, wq_g1, wq_g2, eY_appendS, iY_appendS_0, iY_appendS_9, vY_appendS, wps, x_cnd, reduceIte, Nat.reduceAdd, Nat.reduceSub, Nat.reduceEqDiff, Nat.reduceLeDiff, Nat.lt_irrefl, Nat.reduceLT, Int.cast_ofNat_Int, wq_c0, wq_c1, true_and, and_true, and_self, true_implies, forall_const, ne_eq, Decidable.not_not, not_true_eq_false, not_false_eq_true, List.map_nil, List.map_cons, List.sum_nil, List.sum_cons, List.length_cons, List.length_nil, Nat.le_refl, Nat.zero_le, reduceCtorEq, true_or, or_true, false_or, or_false, false_and, and_false, false_implies, Nat.zero_add, Nat.add_zero, Int.reduceEq, Int.reduceNe, Int.reduceLT, Int.reduceLE, Int.reduceNeg, Int.reduceToNat, Nat.not_lt_zero, Int.reduceAdd, r1, r4]
  simp (disch := omega) only [w32_of]
  (repeat refine ⟨by omega, ?_⟩)
  refine cY_ensure R (by omega) (fun M1 h1 R1 q1 F1 => ?_)
  obtain ⟨⟨s1, s2⟩, ⟨s3, s4⟩, ⟨s5, s6⟩, s7, s8, s9, s10⟩ := id R1
  simp only [wq_g3, wq_gc, wq_g, wq_g1, wq_g2, eY_appendS, iY_appendS_0, iY_appendS_9, vY_appendS, wps, x_cnd, reduceIte, Nat.reduceAdd, Nat.reduceSub, Nat.reduceEqDiff, Nat.reduceLeDiff, Nat.lt_irrefl, Nat.reduceLT, Int.cast_ofNat_Int, wq_c0, wq_c1, true_and, and_true, and_self, true_implies, forall_const, ne_eq, Decidable.not_not, not_true_eq_false, not_false_eq_true, List.map_nil, List.map_cons, List.sum_nil, List.sum_cons, List.length_cons, List.length_nil, Nat.le_refl, Nat.zero_le, reduceCtorEq, true_or, or_true, false_or, or_false, false_and, and_false, false_implies, Nat.zero_add, Nat.add_zero, Int.reduceEq, Int.reduceNe, Int.reduceLT, Int.reduceLE, Int.reduceNeg, Int.reduceToNat, Nat.not_lt_zero, Int.reduceAdd, s1, s4]
  (repeat refine ⟨by omega, ?_⟩)
  refine cY_putStringAt hi R1 (by omega) ?_
  have e4 : x_cpS M1 i (hP h1 b 0) (L.length : Nat) b 3 = (L.length : Nat) := by
    unfold x_cpS
    rw [if_neg (fun e => R1.ne e.1)]
    exact s4
  simp only [wq_g3, wq_gc, wq_g, wq_g1, wq_g2, eY_appendS, iY_appendS_0, iY_appendS_9, vY_appendS, wps, x_cnd, reduceIte, Nat.reduceAdd, Nat.reduceSub, Nat.reduceEqDiff, Nat.reduceLeDiff, Nat.lt_irrefl, Nat.reduceLT, Int.cast_ofNat_Int, wq_c0, wq_c1, true_and, and_true, and_self, true_implies, forall_const, ne_eq, Decidable.not_not, not_true_eq_false, not_false_eq_true, List.map_nil, List.map_cons, List.sum_nil, List.sum_cons, List.length_cons, List.length_nil, Nat.le_refl, Nat.zero_le, reduceCtorEq, true_or, or_true, false_or, or_false, false_and, and_false, false_implies, Nat.zero_add, Nat.add_zero, Int.reduceEq, Int.reduceNe, Int.reduceLT, Int.reduceLE, Int.reduceNeg, Int.reduceToNat, Nat.not_lt_zero, Int.reduceAdd, s1, e4]
  simp (disch := omega) only [w32_of]
  refine k _ _ (R1.put rfl (K := x_cs i) (by omega) (fun x hx => ?_) (fun x j x1 x2 => ?_) ?_ ?_ (fun j j1 j2 => ?_) (fun m hm => ?_)) (F1.tr r9 ⟨Nat.le_refl _, fun a a1 a2 a3 j => ?_, fun _ _ => ⟨rfl, rfl⟩, fun _ _ _ _ => rfl, Or.inl rfl⟩)
  · obtain ⟨m, hm, rfl⟩ := List.getElem_of_mem hx
    have h9 := x_cs_at (i := i) (k := m)
    rw [List.getD_eq_getElem?_getD, List.getElem?_eq_getElem hm] at h9
    have h8 := x_ch_1 (i := i) (k := m) hi
    rw [← h9] at h8
    exact h8
  · rw [w_ne x2]
    unfold x_cpS
    rw [if_neg (fun e => x1 e.1)]
  · rw [w_nj (by decide)]
    unfold x_cpS
    rw [if_neg (fun e => R1.ne e.1)]
    exact s3
  · rw [w_eq]
    push_cast
    omega
  · rw [w_ne R1.ne.symm]
    unfold x_cpS
    rw [if_neg (fun e => j2 (by have := e.2; omega))]
  · rw [w_ne R1.ne.symm]
    unfold x_cpS
    rw [if_pos ⟨rfl, by omega, by omega⟩, x_cs_at]
    congr 1
    omega
  · rw [w_ne a2]
    unfold x_cpS
    rw [if_neg (fun e => a3 e.1)]
theorem cQ_appendS {i : Nat} (hi : i < 22) (R : sbR L M h b) (hl : L.length < 950) (k : ∀ M' h', sbR (L ++ x_cs i) M' h' b → sbF b M h M' h' → Φ (.inl (some (xA b))) M' h') : x_Cal zQ_appendS [xA b, xS i] M h Φ := by
  refine x_met0 kQ_appendS (Nat.le_of_ble_eq_true rfl) ?_
  simp only [wq_g3, wq_gc, wq_g, wq_g1, wq_g2, eQ_appendS, iQ_appendS_0, vQ_appendS, wps, x_cnd, reduceIte, Nat.reduceAdd, Nat.reduceSub, Nat.reduceEqDiff, Nat.reduceLeDiff, Nat.lt_irrefl, Nat.reduceLT, Int.cast_ofNat_Int, wq_c0, wq_c1, true_and, and_true, and_self, true_implies, forall_const, ne_eq, Decidable.not_not, not_true_eq_false, not_false_eq_true, List.map_nil, List.map_cons, List.sum_nil, List.sum_cons, List.length_cons, List.length_nil, Nat.le_refl, Nat.zero_le, reduceCtorEq, true_or, or_true, false_or, or_false, false_and, and_false, false_implies, Nat.zero_add, Nat.add_zero, Int.reduceEq, Int.reduceNe, Int.reduceLT, Int.reduceLE, Int.reduceNeg, Int.reduceToNat, Nat.not_lt_zero, Int.reduceAdd, wrc, R.1.1]
  (repeat refine ⟨by omega, ?_⟩)
  refine cY_appendS hi R hl (fun M' h' R' F' => ?_)
  simp only [wq_g3, wq_gc, wq_g, wq_g1, wq_g2, eQ_appendS, iQ_appendS_0, vQ_appendS, wps, x_cnd, reduceIte, Nat.reduceAdd, Nat.reduceSub, Nat.reduceEqDiff, Nat.reduceLeDiff, Nat.lt_irrefl, Nat.reduceLT, Int.cast_ofNat_Int, wq_c0, wq_c1, true_and, and_true, and_self, true_implies, forall_const, ne_eq, Decidable.not_not, not_true_eq_false, not_false_eq_true, List.map_nil, List.map_cons, List.sum_nil, List.sum_cons, List.length_cons, List.length_nil, Nat.le_refl, Nat.zero_le, reduceCtorEq, true_or, or_true, false_or, or_false, false_and, and_false, false_implies, Nat.zero_add, Nat.add_zero, Int.reduceEq, Int.reduceNe, Int.reduceLT, Int.reduceLE, Int.reduceNeg, Int.reduceToNat, Nat.not_lt_zero, Int.reduceAdd]
  exact k M' h' R' F'
/-! a String of the heap as what is appended -/
theorem cY_inflateh {s : Nat} (r1 : hK h b = 9) (r3 : M b 1 = 0) (q1 : hK h s = 8) (q3 : M s 1 = 0) (k : Φ (.inl none) M h) : x_Cal zY_inflateIfNeededFor [xA b, xA s] M h Φ := by
  refine x_met0 kY_inflateIfNeededForh (Nat.le_of_ble_eq_true rfl) ?_
  simp only [wq_g3, wq_gc, wq_g, wq_g1, wq_g2, eY_inflateIfNeededForh, iY_inflateIfNeededForh_0, iY_inflateIfNeededForh_21, vY_inflateIfNeededForh, wps, x_cnd, reduceIte, Nat.reduceAdd, Nat.reduceSub, Nat.reduceEqDiff, Nat.reduceLeDiff, Nat.lt_irrefl, Nat.reduceLT, Int.cast_ofNat_Int, wq_c0, wq_c1, true_and, and_true, and_self, true_implies, forall_const, ne_eq, Decidable.not_not, not_true_eq_false, not_false_eq_true, List.map_nil, List.map_cons, List.sum_nil, List.sum_cons, List.length_cons, List.length_nil, Nat.le_refl, Nat.zero_le, reduceCtorEq, true_or, or_true, false_or, or_false, false_and, and_false, false_implies, Nat.zero_add, Nat.add_zero, Int.reduceEq, Int.reduceNe, Int.reduceLT, Int.reduceLE, Int.reduceNeg, Int.reduceToNat, Nat.not_lt_zero, Int.reduceAdd, r1, r3, q1, Int.reduceEq]
  (repeat refine ⟨by omega, ?_⟩)
  refine cTh_coder q1 q3 ?_
  simp only [wq_g3, wq_gc, wq_g, wq_g1, wq_g2, eY_inflateIfNeededForh, iY_inflateIfNeededForh_0, iY_inflateIfNeededForh_21, vY_inflateIfNeededForh, wps, x_cnd, reduceIte, Nat.reduceAdd, Nat.reduceSub, Nat.reduceEqDiff, Nat.reduceLeDiff, Nat.lt_irrefl, Nat.reduceLT, Int.cast_ofNat_Int, wq_c0, wq_c1, true_and, and_true, and_self, true_implies, forall_const, ne_eq, Decidable.not_not, not_true_eq_false, not_false_eq_true, List.map_nil, List.map_cons, List.sum_nil, List.sum_cons, List.length_cons, List.length_nil, Nat.le_refl, Nat.zero_le, reduceCtorEq, true_or, or_true, false_or, or_false, false_and, and_false, false_implies, Nat.zero_add, Nat.add_zero, Int.reduceEq, Int.reduceNe, Int.reduceLT, Int.reduceLE, Int.reduceNeg, Int.reduceToNat, Nat.not_lt_zero, Int.reduceAdd, r1, r3, Int.reduceEq]
  exact k
theorem cY_putStringAth {s : Nat} {K : List Int} (T : stR K M h s) (R : sbR L M h b) (hroom : (L.length : Nat) + (K.length : Nat) ≤ hL h (hP h b 0)) (k : Φ (.inl none) (x_cp M (hP h s 0) 0 (hP h b 0) (L.length : Nat) (K.length : Nat)) h) : x_Cal zY_putStringAt [xA b, xI (L.length : Nat), xA s] M h Φ := by
  obtain ⟨⟨r1, r2⟩, ⟨r3, r4⟩, ⟨r5, r6⟩, r7, r8, r9, r10⟩ := id R
  refine x_met0 kY_putStringAth (Nat.le_of_ble_eq_true rfl) ?_
  simp only [wq_g3, wq_gc, wq_g, wq_g1, wq_g2, eY_putStringAth, iY_putStringAth_0, vY_putStringAth, wps, x_cnd, reduceIte, Nat.reduceAdd, Nat.reduceSub, Nat.reduceEqDiff, Nat.reduceLeDiff, Nat.lt_irrefl, Nat.reduceLT, Int.cast_ofNat_Int, wq_c0, wq_c1, true_and, and_true, and_self, true_implies, forall_const, ne_eq, Decidable.not_not, not_true_eq_false, not_false_eq_true, List.map_nil, List.map_cons, List.sum_nil, List.sum_cons, List.length_cons, List.length_nil, Nat.le_refl, Nat.zero_le, reduceCtorEq, true_or, or_true, false_or, or_false, false_and, and_false, false_implies, Nat.zero_add, Nat.add_zero, Int.reduceEq, Int.reduceNe, Int.reduceLT, Int.reduceLE, Int.reduceNeg, Int.reduceToNat, Nat.not_lt_zero, Int.reduceAdd, r1]
  (repeat refine ⟨by omega, ?_⟩)
  refine cY_inflateh r1 r3 T.1.1 T.2.1 ?_
  simp only [wq_g3, wq_gc, wq_g, wq_g1, wq_g2, eY_putStringAth, iY_putStringAth_0, vY_putStringAth, wps, x_cnd, reduceIte, Nat.reduceAdd, Nat.reduceSub, Nat.reduceEqDiff, Nat.reduceLeDiff, Nat.lt_irrefl, Nat.reduceLT, Int.cast_ofNat_Int, wq_c0, wq_c1, true_and, and_true, and_self, true_implies, forall_const, ne_eq, Decidable.not_not, not_true_eq_false, not_false_eq_true, List.map_nil, List.map_cons, List.sum_nil, List.sum_cons, List.length_cons, List.length_nil, Nat.le_refl, Nat.zero_le, reduceCtorEq, true_or, or_true, false_or, or_false, false_and, and_false, false_implies, Nat.zero_add, Nat.add_zero, Int.reduceEq, Int.reduceNe, Int.reduceLT, Int.reduceLE, Int.reduceNeg, Int.reduceToNat, Nat.not_lt_zero, Int.reduceAdd, r1, r3, T.1.1]
  (repeat refine ⟨by omega, ?_⟩)
  refine cTh_getBytes T r2 ⟨by omega, hroom⟩ (by omega) ?_
  simp only [wq_g3, wq_gc, wq_g, wq_g1, wq_g2, eY_putStringAth, iY_putStringAth_0, vY_putStringAth, wps, x_cnd, reduceIte, Nat.reduceAdd, Nat.reduceSub, Nat.reduceEqDiff, Nat.reduceLeDiff, Nat.lt_irrefl, Nat.reduceLT, Int.cast_ofNat_Int, wq_c0, wq_c1, true_and, and_true, and_self, true_implies, forall_const, ne_eq, Decidable.not_not, not_true_eq_false, not_false_eq_true, List.map_nil, List.map_cons, List.sum_nil, List.sum_cons, List.length_cons, List.length_nil, Nat.le_refl, Nat.zero_le, reduceCtorEq, true_or, or_true, false_or, or_false, false_and, and_false, false_implies, Nat.zero_add, Nat.add_zero, Int.reduceEq, Int.reduceNe, Int.reduceLT, Int.reduceLE, Int.reduceNeg, Int.reduceToNat, Nat.not_lt_zero, Int.reduceAdd, r1, r3]
  exact k
/-- a String stands while the builder grows -/
theorem stR.mv {K : List Int} {s : Nat} {M' : xM} {h' : xH} (T : stR K M h s) (R : sbR L M h b) (hne : hP h b 0 ≠ hP h s 0) (F : sbF b M h M' h') : stR K M' h' s := by
  obtain ⟨⟨t1, t2⟩, t3, t4, t5, t6, t7, t8⟩ := T
  obtain ⟨f1, f2, f3, f4, f5⟩ := F
  have n1 : s ≠ b := fun e => by rw [e, R.1.1] at t1; exact absurd t1 (by decide)
  have n2 : s ≠ hP h b 0 := fun e => by rw [e, R.1.2] at t1; exact absurd t1 (by decide)
  have n3 : hP h s 0 ≠ b := fun e => by rw [e, R.1.1] at t2; exact absurd t2 (by decide)
  have ep : hP h' s 0 = hP h s 0 := f4 s t7 n1 0
  refine ⟨⟨?_, ?_⟩, ?_, ?_, fun i hi => ?_, t6, ?_, ?_⟩
  · rw [(f3 s t7).1]; exact t1
  · rw [ep, (f3 _ t8.1).1]; exact t2
  · rw [f2 s t7 n1 n2]; exact t3
  · rw [ep, (f3 _ t8.1).2]; exact t4
  · rw [ep, f2 _ t8.1 n3 hne.symm]; exact t5 i hi
  · omega
  · exact ⟨by rw [ep]; omega, t8.2⟩
theorem cY_appendSh {s : Nat} {K : List Int} (T : stR K M h s) (R : sbR L M h b) (hne : hP h b 0 ≠ hP h s 0) (hl : L.length + K.length < 950) (k : ∀ M' h', sbR (L ++ K) M' h' b → sbF b M h M' h' → Φ (.inl (some (xA b))) M' h') : x_Cal zY_appendS [xA b, xA s] M h Φ := by
  obtain ⟨⟨r1, r2⟩, ⟨r3, r4⟩, ⟨r5, r6⟩, r7, r8, r9, r10⟩ := id R
  have s0 : s ≠ 0 := T.2.2.2.2.2.2.2
  refine x_met0 kY_appendSh (Nat.le_of_ble_eq_true rfl) ?_
  simp only [wq_g3, wq_gc, wq_g, wq_g1, wq_g2, eY_appendSh, iY_appendSh_0, iY_appendSh_9, vY_appendSh, wps, x_cnd, reduceIte, Nat.reduceAdd, Nat.reduceSub, Nat.reduceEqDiff, Nat.reduceLeDiff, Nat.lt_irrefl, Nat.reduceLT, Int.cast_ofNat_Int, wq_c0, wq_c1, true_and, and_true, and_self, true_implies, forall_const, ne_eq, Decidable.not_not, not_true_eq_false, not_false_eq_true, List.map_nil, List.map_cons, List.sum_nil, List.sum_cons, List.length_cons, List.length_nil, Nat.le_refl, Nat.zero_le, reduceCtorEq, true_or, or_true, false_or, or_false, false_and, and_false, false_implies, Nat.zero_add, Nat.add_zero, Int.reduceEq, Int.reduceNe, Int.reduceLT, Int.reduceLE, Int.reduceNeg, Int.reduceToNat, Nat.not_lt_zero, Int.reduceAdd, r1, s0, T.1.1]
  (repeat refine ⟨by omega, ?_⟩)
  refine cTh_length T (by omega) ?_
  simp only [wq_g3, wq_gc, wq_g, wq_g1, wq_g2, eY_appendSh, iY_appendSh_0, iY_appendSh_9, vY_appendSh, wps, x_cnd, reduceIte, Nat.reduceAdd, Nat.reduceSub, Nat.reduceEqDiff, Nat.reduceLeDiff, Nat.lt_irrefl, Nat.reduceLT, Int.cast_ofNat_Int, wq_c0, wq_c1, true_and, and_true, and_self, true_implies, forall_const, ne_eq, Decidable.not_not, not_true_eq_false, not_false_eq_true, List.map_nil, List.map_cons, List.sum_nil, List.sum_cons, List.length_cons, List.length_nil, Nat.le_refl, Nat.zero_le, reduceCtorEq, true_or, or_true, false_or, or_false, false_and, and_false, false_implies, Nat.zero_add, Nat.add_zero, Int.reduceEq, Int.reduceNe, Int.reduceLT, Int.reduceLE, Int.reduceNeg, Int.reduceToNat, Nat.not_lt_zero, Int.reduceAdd, r1, r4]
  simp (disch := omega) only [w32_of]
  (repeat refine ⟨by omega, ?_⟩)
  refine cY_ensure R (by omega) (fun M1 h1 R1 q1 F1 => ?_)
  obtain ⟨⟨s1, s2⟩, ⟨s3, s4⟩, ⟨s5, s6⟩, s7, s8, s9, s10⟩ := id R1
  have T1 := T.mv R hne F1
  have hne1 : hP h1 b 0 ≠ hP h1 s 0 := by
    have e1 := F1.2.2.2.1 s T.2.2.2.2.2.1 (fun e => by have := T.1.1; rw [e, r1] at this; exact absurd this (by decide)) 0
    rw [e1]
    rcases F1.2.2.2.2 with e2 | e2
    · rw [e2]; exact hne
    · have := T.2.2.2.2.2.2.1
      omega
  simp only [wq_g3, wq_gc, wq_g, wq_g1, wq_g2, eY_appendSh, iY_appendSh_0, iY_appendSh_9, vY_appendSh, wps, x_cnd, reduceIte, Nat.reduceAdd, Nat.reduceSub, Nat.reduceEqDiff, Nat.reduceLeDiff, Nat.lt_irrefl, Nat.reduceLT, Int.cast_ofNat_Int, wq_c0, wq_c1, true_and, and_true, and_self, true_implies, forall_const, ne_eq, Decidable.not_not, not_true_eq_false, not_false_eq_true, List.map_nil, List.map_cons, List.sum_nil, List.sum_cons, List.length_cons, List.length_nil, Nat.le_refl, Nat.zero_le, reduceCtorEq, true_or, or_true, false_or, or_false, false_and, and_false, false_implies, Nat.zero_add, Nat.add_zero, Int.reduceEq, Int.reduceNe, Int.reduceLT, Int.reduceLE, Int.reduceNeg, Int.reduceToNat, Nat.not_lt_zero, Int.reduceAdd, s1, s4]
  (repeat refine ⟨by omega, ?_⟩)
  refine cY_putStringAth T1 R1 (by omega) ?_
  have e4 : x_cp M1 (hP h1 s 0) 0 (hP h1 b 0) (L.length : Nat) (K.length : Nat) b 3 = (L.length : Nat) := by
    rw [cp_ne R1.ne]
    exact s4
  simp only [wq_g3, wq_gc, wq_g, wq_g1, wq_g2, eY_appendSh, iY_appendSh_0, iY_appendSh_9, vY_appendSh, wps, x_cnd, reduceIte, Nat.reduceAdd, Nat.reduceSub, Nat.reduceEqDiff, Nat.reduceLeDiff, Nat.lt_irrefl, Nat.reduceLT, Int.cast_ofNat_Int, wq_c0, wq_c1, true_and, and_true, and_self, true_implies, forall_const, ne_eq, Decidable.not_not, not_true_eq_false, not_false_eq_true, List.map_nil, List.map_cons, List.sum_nil, List.sum_cons, List.length_cons, List.length_nil, Nat.le_refl, Nat.zero_le, reduceCtorEq, true_or, or_true, false_or, or_false, false_and, and_false, false_implies, Nat.zero_add, Nat.add_zero, Int.reduceEq, Int.reduceNe, Int.reduceLT, Int.reduceLE, Int.reduceNeg, Int.reduceToNat, Nat.not_lt_zero, Int.reduceAdd, s1, e4]
  simp (disch := omega) only [w32_of]
  refine k _ _ (R1.put rfl (K := K) (by omega) T.2.2.2.2.1 (fun x j x1 x2 => ?_) ?_ ?_ (fun j j1 j2 => ?_) (fun m hm => ?_)) (F1.tr r9 ⟨Nat.le_refl _, fun a a1 a2 a3 j => ?_, fun _ _ => ⟨rfl, rfl⟩, fun _ _ _ _ => rfl, Or.inl rfl⟩)
  · rw [w_ne x2, cp_ne x1]
  · rw [w_nj (by decide), cp_ne R1.ne]
    exact s3
  · rw [w_eq]
    push_cast
    omega
  · rw [w_ne R1.ne.symm]
    unfold x_cp
    rw [if_neg (fun e => j2 (by have := e.2; omega))]
  · rw [w_ne R1.ne.symm]
    unfold x_cp
    rw [if_pos ⟨rfl, by omega, by omega⟩, ← T1.2.2.2.1 m hm]
    congr 1
    omega
  · rw [w_ne a2, cp_ne a3]
theorem cQ_appendSh {s : Nat} {K : List Int} (T : stR K M h s) (R : sbR L M h b) (hne : hP h b 0 ≠ hP h s 0) (hl : L.length + K.length < 950) (k : ∀ M' h', sbR (L ++ K) M' h' b → sbF b M h M' h' → Φ (.inl (some (xA b))) M' h') : x_Cal zQ_appendS [xA b, xA s] M h Φ := by
  refine x_met0 kQ_appendS (Nat.le_of_ble_eq_true rfl) ?_
  simp only [wq_g3, wq_gc, wq_g, wq_g1, wq_g2, eQ_appendS, iQ_appendS_0, vQ_appendS, wps, x_cnd, reduceIte, Nat.reduceAdd, Nat.reduceSub, Nat.reduceEqDiff, Nat.reduceLeDiff, Nat.lt_irrefl, Nat.reduceLT, Int.cast_ofNat_Int, wq_c0, wq_c1, true_and, and_true, and_self, true_implies, forall_const, ne_eq, Decidable.not_not, not_true_eq_false, not_false_eq_true, List.map_nil, List.map_cons, List.sum_nil, List.sum_cons, List.length_cons, List.length_nil, Nat.le_refl, Nat.zero_le, reduceCtorEq, true_or, or_true, false_or, or_false, false_and, and_false, false_implies, Nat.zero_add, Nat.add_zero, Int.reduceEq, Int.reduceNe, Int.reduceLT, Int.reduceLE, Int.reduceNeg, Int.reduceToNat, Nat.not_lt_zero, Int.reduceAdd, wrc, R.1.1]
  (repeat refine ⟨by omega, ?_⟩)
  refine cY_appendSh T R hne hl (fun M' h' R' F' => ?_)
  simp only [wq_g3, wq_gc, wq_g, wq_g1, wq_g2, eQ_appendS, iQ_appendS_0, vQ_appendS, wps, x_cnd, reduceIte, Nat.reduceAdd, Nat.reduceSub, Nat.reduceEqDiff, Nat.reduceLeDiff, Nat.lt_irrefl, Nat.reduceLT, Int.cast_ofNat_Int, wq_c0, wq_c1, true_and, and_true, and_self, true_implies, forall_const, ne_eq, Decidable.not_not, not_true_eq_false, not_false_eq_true, List.map_nil, List.map_cons, List.sum_nil, List.sum_cons, List.length_cons, List.length_nil, Nat.le_refl, Nat.zero_le, reduceCtorEq, true_or, or_true, false_or, or_false, false_and, and_false, false_implies, Nat.zero_add, Nat.add_zero, Int.reduceEq, Int.reduceNe, Int.reduceLT, Int.reduceLE, Int.reduceNeg, Int.reduceToNat, Nat.not_lt_zero, Int.reduceAdd]
  exact k M' h' R' F'
theorem cQ_appendB {s : Nat} {K : List Int} (T : stR K M h s) (R : sbR L M h b) (hne : hP h b 0 ≠ hP h s 0) (hl : L.length + K.length < 950) (k : ∀ M' h', sbR (L ++ K) M' h' b → sbF b M h M' h' → Φ (.inl (some (xA b))) M' h') : x_Cal zQ_appendB [xA b, xA s] M h Φ := by
  refine x_met0 kQ_appendB (Nat.le_of_ble_eq_true rfl) ?_
  simp only [wq_g3, wq_gc, wq_g, wq_g1, wq_g2, eQ_appendB, iQ_appendB_0, vQ_appendB, wps, x_cnd, reduceIte, Nat.reduceAdd, Nat.reduceSub, Nat.reduceEqDiff, Nat.reduceLeDiff, Nat.lt_irrefl, Nat.reduceLT, Int.cast_ofNat_Int, wq_c0, wq_c1, true_and, and_true, and_self, true_implies, forall_const, ne_eq, Decidable.not_not, not_true_eq_false, not_false_eq_true, List.map_nil, List.map_cons, List.sum_nil, List.sum_cons, List.length_cons, List.length_nil, Nat.le_refl, Nat.zero_le, reduceCtorEq, true_or, or_true, false_or, or_false, false_and, and_false, false_implies, Nat.zero_add, Nat.add_zero, Int.reduceEq, Int.reduceNe, Int.reduceLT, Int.reduceLE, Int.reduceNeg, Int.reduceToNat, Nat.not_lt_zero, Int.reduceAdd, R.1.1]
  (repeat refine ⟨by omega, ?_⟩)
  refine cQ_appendSh T R hne hl (fun M' h' R' F' => ?_)
  simp only [wq_g3, wq_gc, wq_g, wq_g1, wq_g2, eQ_appendB, iQ_appendB_0, vQ_appendB, wps, x_cnd, reduceIte, Nat.reduceAdd, Nat.reduceSub, Nat.reduceEqDiff, Nat.reduceLeDiff, Nat.lt_irrefl, Nat.reduceLT, Int.cast_ofNat_Int, wq_c0, wq_c1, true_and, and_true, and_self, true_implies, forall_const, ne_eq, Decidable.not_not, not_true_eq_false, not_false_eq_true, List.map_nil, List.map_cons, List.sum_nil, List.sum_cons, List.length_cons, List.length_nil, Nat.le_refl, Nat.zero_le, reduceCtorEq, true_or, or_true, false_or, or_false, false_and, and_false, false_implies, Nat.zero_add, Nat.add_zero, Int.reduceEq, Int.reduceNe, Int.reduceLT, Int.reduceLE, Int.reduceNeg, Int.reduceToNat, Nat.not_lt_zero, Int.reduceAdd]
  exact k M' h' R' F'
end SB3
