/-! the law's small methods: the drawn number, a bar, the typed text -/
theorem x_div_of {a b : Int} (h : (0 ≤ a ∧ a < 2147483648) ∧ 0 < b ∧ b < 2147483648) : x_div a b = a / b := by
  obtain ⟨h1, h2⟩ := h
  have hb := Int.ediv_le_self b h1.1
  have hc := Int.ediv_nonneg h1.1 (show 0 ≤ b by omega)
  unfold x_div
  rw [Int32.toInt_div, i32_to ⟨by omega, by omega⟩, i32_to ⟨by omega, by omega⟩, Int.tdiv_eq_ediv_of_nonneg h1.1]
  have h3 : a / b ≤ a := Int.ediv_le_self b h1.1
  exact w32_of (x := a / b) (by omega)
theorem x_rem_of {a b : Int} (h : (0 ≤ a ∧ a < 2147483648) ∧ 0 < b ∧ b < 2147483648) : x_rem a b = a % b := by
  have hd := x_div_of h
  obtain ⟨h1, h2⟩ := h
  have h3 : a / b ≤ a := Int.ediv_le_self b h1.1
  have hc := Int.ediv_nonneg h1.1 (show 0 ≤ b by omega)
  have h4 := Int.mul_ediv_add_emod a b
  have h5 := Int.emod_nonneg a (show b ≠ 0 by omega)
  have h6 := Int.emod_lt_of_pos a (show 0 < b by omega)
  have h7 : a / b * b = b * (a / b) := Int.mul_comm _ _
  unfold x_div at hd
  unfold x_rem
  rw [Int32.toInt_sub, Int32.toInt_mul, hd, i32_to ⟨by omega, by omega⟩, i32_to ⟨by omega, by omega⟩]
  have e1 : (a / b * b).bmod (2 ^ 32) = a / b * b := w32_of (x := a / b * b) (by omega)
  rw [e1]
  have e2 : (a - a / b * b).bmod (2 ^ 32) = a - a / b * b := w32_of (x := a - a / b * b) (by omega)
  rw [e2]
  omega

theorem ushr9 (a : Int) : 0 ≤ x_ushr a 9 ∧ x_ushr a 9 < 8388608 := by
  unfold x_ushr
  generalize (Int32.ofInt a).toUInt32 = u
  rw [show (Int32.ofInt 9).toUInt32 &&& Int32.toUInt32 31 = 9 from by decide]
  have h1 : (u >>> 9).toNat = u.toNat / 512 := by
    rw [UInt32.toNat_shiftRight, Nat.shiftRight_eq_div_pow]
    rfl
  have h2 : u.toNat < 4294967296 := u.toNat_lt
  have e2 : (u >>> 9).toInt32.toInt = ((u >>> 9).toBitVec).toInt := rfl
  have e3 : (u >>> 9).toBitVec.toNat = u.toNat / 512 := h1
  rw [e2, BitVec.toInt_eq_toNat_cond, e3]
  split <;> omega
section LAW1
variable {A : xAb} {M M' : xM} {h h' : xH} {Φ : xO → xM → xH → Prop}
set_option maxHeartbeats 1000000
theorem w_w41 (M : xM) (r : Nat) (x y : Int) : x_w (x_w M r 0 x) r 0 y = x_w M r 0 y := by
  funext a i
  simp only [x_w]
  split <;> rfl
theorem cl_next {r : Nat} (hk : hK h r = 20) (hl : hL h r = 1) (k : ∀ y v : Int, 0 ≤ v → v < 8388608 → Φ (.inl (some (xI v))) (x_w M r 0 y) h) : x_Cal zL_next [xA r] M h Φ := by
  refine x_met0 kL_next (Nat.le_of_ble_eq_true rfl) ?_
  simp only [wq_g3, wq_gc, wq_g, wq_g1, wq_g2, eL_next, iL_next_0, vL_next, wps, x_cnd, reduceIte, Nat.reduceAdd, Nat.reduceSub, Nat.reduceEqDiff, Nat.reduceLeDiff, Nat.lt_irrefl, Nat.reduceLT, Int.cast_ofNat_Int, wq_c0, wq_c1, true_and, and_true, and_self, true_implies, forall_const, ne_eq, Decidable.not_not, not_true_eq_false, not_false_eq_true, List.map_nil, List.map_cons, List.sum_nil, List.sum_cons, List.length_cons, List.length_nil, Nat.le_refl, Nat.zero_le, reduceCtorEq, true_or, or_true, false_or, or_false, false_and, and_false, false_implies, Nat.zero_add, Nat.add_zero, Int.reduceEq, Int.reduceNe, Int.reduceLT, Int.reduceLE, Int.reduceNeg, Int.reduceToNat, Nat.not_lt_zero, Int.reduceAdd, hk, hl, w_w41]
  have h9 := ushr9
  (repeat' (first | apply And.intro | intro _)) <;> first | omega | exact k _ _ (ushr9 _).1 (ushr9 _).2
theorem CW.r41 (C : CW A M h) : hK h 41 = 20 ∧ hL h 41 = 1 := by
  have F := C.F
  simp only [fxs F, and_self]
theorem CW.y (C : CW A M h) (y : Int) : CW A (x_w M 41 0 y) h := C.same36 (fun a j ha => w_ne (by omega))
/-- the world stands while new things are made -/
theorem CW.grow (C : CW A M h) (hn' : hn h ≤ hn h') (e : ∀ a, a < hn h → (a ≠ 41 → ∀ j, M' a j = M a j) ∧ hK h' a = hK h a ∧ hL h' a = hL h a ∧ ∀ j, hP h' a j = hP h a j) : CW A M' h' := by
  obtain ⟨c1, c2, c3, c4, c5, c6, ⟨p4, p5, p6, p7⟩, p8, p9, p10⟩ := C
  have n58 := c1.n
  have em : ∀ a, a < hn h → a ≠ 41 → ∀ j, M' a j = M a j := fun a h1 h2 => (e a h1).1 h2
  refine ⟨c1.keep (fun a ha => ⟨(e a (by omega)).2.1, (e a (by omega)).2.2.1⟩) (fun a i hf => ?_) hn', c2.mv (fun a ha => ⟨(e a ha).2.1, (e a ha).2.2.1⟩) hn' (e 17 (by omega)).2.2.2 (e 27 (by omega)).2.2.2 (fun a j h1 h2 => em a (by omega) (by omega) j) (fun r h1 h2 h3 => ⟨(e r (by omega)).2.2.2, fun a j h4 h5 => em a (by omega) (by omega) j⟩), c3, c4.frame (fun a j ha => em a (by omega) (by omega) j), c5.mv (Int.le_refl _) (by omega) (fun a ha => ⟨(e a ha).2.1, (e a ha).2.2.1⟩) hn' (fun a i h1 h2 => (e a h1).2.2.2 i) (fun a j h1 h2 => em a h1 (by omega) j), ?_, ⟨?_, ?_, fun i hi => ?_, fun i => ?_⟩, ?_, p9, fun i hi => ?_⟩
  · by_cases ha : a < hn h
    · exact (e a ha).2.2.2 i
    · exact absurd (fR_big (by omega) i) hf
  · rw [em 1 (by omega) (by omega) 6]
    exact c6
  · rw [em 2 (by omega) (by omega) 3]
    exact p4
  · rw [em 2 (by omega) (by omega) 1, em 2 (by omega) (by omega) 2]
    exact p5
  · rw [em 14 (by omega) (by omega) i]
    exact p6 i hi
  · rw [(e 13 (by omega)).2.2.2 i]
    exact p7 i
  · rw [em 39 (by omega) (by omega) 1]
    exact p8
  · rw [em 40 (by omega) (by omega) i]
    exact p10 i hi
theorem cl_bar (C : CW A M h) (hN : 0 < sN (aS A)) (k : ∀ (y : Int) (p : Nat), p < sN (aS A) → Φ (.inl (some (xI (sI (aS A) p)))) (x_w M 41 0 y) h) : x_Cal zL_bar [xA 1, xA 41] M h Φ := by
  have hN2 := C.w.N
  refine x_met0 kL_bar (Nat.le_of_ble_eq_true rfl) ?_
  simp only [wq_g3, wq_gc, wq_g, wq_g1, wq_g2, eL_bar, iL_bar_0, vL_bar, wps, x_cnd, reduceIte, Nat.reduceAdd, Nat.reduceSub, Nat.reduceEqDiff, Nat.reduceLeDiff, Nat.lt_irrefl, Nat.reduceLT, Int.cast_ofNat_Int, wq_c0, wq_c1, true_and, and_true, and_self, true_implies, forall_const, ne_eq, Decidable.not_not, not_true_eq_false, not_false_eq_true, List.map_nil, List.map_cons, List.sum_nil, List.sum_cons, List.length_cons, List.length_nil, Nat.le_refl, Nat.zero_le, reduceCtorEq, true_or, or_true, false_or, or_false, false_and, and_false, false_implies, Nat.zero_add, Nat.add_zero, Int.reduceEq, Int.reduceNe, Int.reduceLT, Int.reduceLE, Int.reduceNeg, Int.reduceToNat, Nat.not_lt_zero, Int.reduceAdd]
  (repeat refine ⟨by omega, ?_⟩)
  refine cl_next C.r41.1 C.r41.2 (fun y v v1 v2 => ?_)
  have C1 := C.y y
  have k1 : hK h 1 = 7 := by
    have F := C.F
    simp only [fxs F]
  simp only [wq_g3, wq_gc, wq_g, wq_g1, wq_g2, eL_bar, iL_bar_0, vL_bar, wps, x_cnd, reduceIte, Nat.reduceAdd, Nat.reduceSub, Nat.reduceEqDiff, Nat.reduceLeDiff, Nat.lt_irrefl, Nat.reduceLT, Int.cast_ofNat_Int, wq_c0, wq_c1, true_and, and_true, and_self, true_implies, forall_const, ne_eq, Decidable.not_not, not_true_eq_false, not_false_eq_true, List.map_nil, List.map_cons, List.sum_nil, List.sum_cons, List.length_cons, List.length_nil, Nat.le_refl, Nat.zero_le, reduceCtorEq, true_or, or_true, false_or, or_false, false_and, and_false, false_implies, Nat.zero_add, Nat.add_zero, Int.reduceEq, Int.reduceNe, Int.reduceLT, Int.reduceLE, Int.reduceNeg, Int.reduceToNat, Nat.not_lt_zero, Int.reduceAdd, k1]
  (repeat refine ⟨by omega, ?_⟩)
  refine cP_bars C1 ?_
  simp only [wq_g3, wq_gc, wq_g, wq_g1, wq_g2, eL_bar, iL_bar_0, vL_bar, wps, x_cnd, reduceIte, Nat.reduceAdd, Nat.reduceSub, Nat.reduceEqDiff, Nat.reduceLeDiff, Nat.lt_irrefl, Nat.reduceLT, Int.cast_ofNat_Int, wq_c0, wq_c1, true_and, and_true, and_self, true_implies, forall_const, ne_eq, Decidable.not_not, not_true_eq_false, not_false_eq_true, List.map_nil, List.map_cons, List.sum_nil, List.sum_cons, List.length_cons, List.length_nil, Nat.le_refl, Nat.zero_le, reduceCtorEq, true_or, or_true, false_or, or_false, false_and, and_false, false_implies, Nat.zero_add, Nat.add_zero, Int.reduceEq, Int.reduceNe, Int.reduceLT, Int.reduceLE, Int.reduceNeg, Int.reduceToNat, Nat.not_lt_zero, Int.reduceAdd, k1]
  have e1 : x_rem v (sN (aS A)) = v % (sN (aS A)) := x_rem_of (by omega)
  have h5 := Int.emod_nonneg v (show ((sN (aS A) : Nat) : Int) ≠ 0 by omega)
  have h6 := Int.emod_lt_of_pos v (show (0 : Int) < (sN (aS A) : Nat) by omega)
  rw [e1]
  refine ⟨by omega, ?_⟩
  (repeat refine ⟨by omega, ?_⟩)
  refine cP_barAt C1 ?_
  unfold anBarAt
  rw [if_pos ⟨h5, h6⟩]
  simp only [wq_g3, wq_gc, wq_g, wq_g1, wq_g2, eL_bar, iL_bar_0, vL_bar, wps, x_cnd, reduceIte, Nat.reduceAdd, Nat.reduceSub, Nat.reduceEqDiff, Nat.reduceLeDiff, Nat.lt_irrefl, Nat.reduceLT, Int.cast_ofNat_Int, wq_c0, wq_c1, true_and, and_true, and_self, true_implies, forall_const, ne_eq, Decidable.not_not, not_true_eq_false, not_false_eq_true, List.map_nil, List.map_cons, List.sum_nil, List.sum_cons, List.length_cons, List.length_nil, Nat.le_refl, Nat.zero_le, reduceCtorEq, true_or, or_true, false_or, or_false, false_and, and_false, false_implies, Nat.zero_add, Nat.add_zero, Int.reduceEq, Int.reduceNe, Int.reduceLT, Int.reduceLE, Int.reduceNeg, Int.reduceToNat, Nat.not_lt_zero, Int.reduceAdd, k1, xo]
  have := k y (v % (sN (aS A))).toNat (by omega)
  rw [Int.toNat_of_nonneg h5] at this
  exact this
theorem cP_feedX (C : CW A M h) {v1 v2 v3 v4 v5 : Int} (h8 : aN A + 20 ≤ 800) (k : ∀ M', CW (dFeed A v1 v2 v3 v4 v5).2 M' h → (∀ a i, a ≠ 2 → a ≠ 14 → M' a i = M a i) → Φ (xo (dFeed A v1 v2 v3 v4 v5).1) M' h) : x_Cal zP_feed [xA 1, xI v1, xI v2, xI v3, xI v4, xI v5] M h Φ := by
  obtain ⟨⟨r1, r2⟩, r3, r4, r5⟩ := C.r
  have n58 := C.F.n
  unfold dFeed at k
  refine x_met0 kP_feed (Nat.le_of_ble_eq_true rfl) ?_
  simp only [wq_g3, wq_gc, wq_g, wq_g1, wq_g2, eP_feed, iP_feed_0, iP_feed_24, vP_feed, wps, x_cnd, reduceIte, Nat.reduceAdd, Nat.reduceSub, Nat.reduceEqDiff, Nat.reduceLeDiff, Nat.lt_irrefl, Nat.reduceLT, Int.cast_ofNat_Int, wq_c0, wq_c1, true_and, and_true, and_self, true_implies, forall_const, ne_eq, Decidable.not_not, not_true_eq_false, not_false_eq_true, List.map_nil, List.map_cons, List.sum_nil, List.sum_cons, List.length_cons, List.length_nil, Nat.le_refl, Nat.zero_le, reduceCtorEq, true_or, or_true, false_or, or_false, false_and, and_false, false_implies, Nat.zero_add, Nat.add_zero, Int.reduceEq, Int.reduceNe, Int.reduceLT, Int.reduceLE, Int.reduceNeg, Int.reduceToNat, Nat.not_lt_zero, Int.reduceAdd, fxs C.F, r1]
  simp (disch := omega) only [w32_of]
  refine ⟨fun c0 => ?_, fun c0 => ?_⟩
  · rw [if_neg (by omega)] at k
    refine cR_app C.F C.r (by omega) (fun M1 R1 f1 => ?_)
    simp only [wq_g3, wq_gc, wq_g, wq_g1, wq_g2, eP_feed, iP_feed_0, iP_feed_24, vP_feed, wps, x_cnd, reduceIte, Nat.reduceAdd, Nat.reduceSub, Nat.reduceEqDiff, Nat.reduceLeDiff, Nat.lt_irrefl, Nat.reduceLT, Int.cast_ofNat_Int, wq_c0, wq_c1, true_and, and_true, and_self, true_implies, forall_const, ne_eq, Decidable.not_not, not_true_eq_false, not_false_eq_true, List.map_nil, List.map_cons, List.sum_nil, List.sum_cons, List.length_cons, List.length_nil, Nat.le_refl, Nat.zero_le, reduceCtorEq, true_or, or_true, false_or, or_false, false_and, and_false, false_implies, Nat.zero_add, Nat.add_zero, Int.reduceEq, Int.reduceNe, Int.reduceLT, Int.reduceLE, Int.reduceNeg, Int.reduceToNat, Nat.not_lt_zero, Int.reduceAdd, fxs C.F]
    refine cR_app C.F R1 (by omega) (fun M2 R2 f2 => ?_)
    simp only [wq_g3, wq_gc, wq_g, wq_g1, wq_g2, eP_feed, iP_feed_0, iP_feed_24, vP_feed, wps, x_cnd, reduceIte, Nat.reduceAdd, Nat.reduceSub, Nat.reduceEqDiff, Nat.reduceLeDiff, Nat.lt_irrefl, Nat.reduceLT, Int.cast_ofNat_Int, wq_c0, wq_c1, true_and, and_true, and_self, true_implies, forall_const, ne_eq, Decidable.not_not, not_true_eq_false, not_false_eq_true, List.map_nil, List.map_cons, List.sum_nil, List.sum_cons, List.length_cons, List.length_nil, Nat.le_refl, Nat.zero_le, reduceCtorEq, true_or, or_true, false_or, or_false, false_and, and_false, false_implies, Nat.zero_add, Nat.add_zero, Int.reduceEq, Int.reduceNe, Int.reduceLT, Int.reduceLE, Int.reduceNeg, Int.reduceToNat, Nat.not_lt_zero, Int.reduceAdd, fxs C.F]
    refine cR_app C.F R2 (by omega) (fun M3 R3 f3 => ?_)
    simp only [wq_g3, wq_gc, wq_g, wq_g1, wq_g2, eP_feed, iP_feed_0, iP_feed_24, vP_feed, wps, x_cnd, reduceIte, Nat.reduceAdd, Nat.reduceSub, Nat.reduceEqDiff, Nat.reduceLeDiff, Nat.lt_irrefl, Nat.reduceLT, Int.cast_ofNat_Int, wq_c0, wq_c1, true_and, and_true, and_self, true_implies, forall_const, ne_eq, Decidable.not_not, not_true_eq_false, not_false_eq_true, List.map_nil, List.map_cons, List.sum_nil, List.sum_cons, List.length_cons, List.length_nil, Nat.le_refl, Nat.zero_le, reduceCtorEq, true_or, or_true, false_or, or_false, false_and, and_false, false_implies, Nat.zero_add, Nat.add_zero, Int.reduceEq, Int.reduceNe, Int.reduceLT, Int.reduceLE, Int.reduceNeg, Int.reduceToNat, Nat.not_lt_zero, Int.reduceAdd, fxs C.F]
    refine cR_app C.F R3 (by omega) (fun M4 R4 f4 => ?_)
    simp only [wq_g3, wq_gc, wq_g, wq_g1, wq_g2, eP_feed, iP_feed_0, iP_feed_24, vP_feed, wps, x_cnd, reduceIte, Nat.reduceAdd, Nat.reduceSub, Nat.reduceEqDiff, Nat.reduceLeDiff, Nat.lt_irrefl, Nat.reduceLT, Int.cast_ofNat_Int, wq_c0, wq_c1, true_and, and_true, and_self, true_implies, forall_const, ne_eq, Decidable.not_not, not_true_eq_false, not_false_eq_true, List.map_nil, List.map_cons, List.sum_nil, List.sum_cons, List.length_cons, List.length_nil, Nat.le_refl, Nat.zero_le, reduceCtorEq, true_or, or_true, false_or, or_false, false_and, and_false, false_implies, Nat.zero_add, Nat.add_zero, Int.reduceEq, Int.reduceNe, Int.reduceLT, Int.reduceLE, Int.reduceNeg, Int.reduceToNat, Nat.not_lt_zero, Int.reduceAdd, fxs C.F]
    refine cR_app C.F R4 (by omega) (fun M5 R5 f5 => ?_)
    have e := R5.1.1
    simp only [wq_g3, wq_gc, wq_g, wq_g1, wq_g2, eP_feed, iP_feed_0, iP_feed_24, vP_feed, wps, x_cnd, reduceIte, Nat.reduceAdd, Nat.reduceSub, Nat.reduceEqDiff, Nat.reduceLeDiff, Nat.lt_irrefl, Nat.reduceLT, Int.cast_ofNat_Int, wq_c0, wq_c1, true_and, and_true, and_self, true_implies, forall_const, ne_eq, Decidable.not_not, not_true_eq_false, not_false_eq_true, List.map_nil, List.map_cons, List.sum_nil, List.sum_cons, List.length_cons, List.length_nil, Nat.le_refl, Nat.zero_le, reduceCtorEq, true_or, or_true, false_or, or_false, false_and, and_false, false_implies, Nat.zero_add, Nat.add_zero, Int.reduceEq, Int.reduceNe, Int.reduceLT, Int.reduceLE, Int.reduceNeg, Int.reduceToNat, Nat.not_lt_zero, Int.reduceAdd, fxs C.F, e]
    have f : ∀ a i, a ≠ 2 → a ≠ 14 → M5 a i = M a i := fun a i h1 h2 => by rw [f5 a i (by omega) h2, f4 a i (by omega) h2, f3 a i (by omega) h2, f2 a i (by omega) h2, f1 a i (by omega) h2]
    refine k M5 ⟨C.F, C.R.frame (fun a j ha => f a j (by omega) (by omega)), C.w, C.V.frame (fun a j ha => f a j (by omega) (by omega)), HW.mv C.H (Int.le_refl _) (by omega) (fun _ _ => ⟨rfl, rfl⟩) (Nat.le_refl _) (fun _ _ _ _ => rfl) (fun a j _ h2 => f a j (by omega) (by omega)), ?_, R5, ?_, C.o.2.1, fun i hi => ?_⟩ f
    · rw [f 1 6 (by omega) (by omega)]
      exact C.i
    · rw [f 39 1 (by omega) (by omega)]
      exact C.o.1
    · rw [f 40 i (by omega) (by omega)]
      exact C.o.2.2 i hi
  · exact absurd c0 (by omega)
end LAW1
