/-! StringBuilder's constructors, toString -/
section SB4
variable {M : xM} {h : xH} {Φ : xO → xM → xH → Prop} {b : Nat} {L : List Int}
set_option maxHeartbeats 1000000
theorem w8_0 : w8 0 = 0 := by decide
/-- a fresh row at the builder -/
theorem sbR.fresh {n : Int} (hk : hK h b = 9) (hb : b < hn h) (hc : M b 3 = 0) (hn0 : 0 ≤ n ∧ n ≤ 2000) {M' : xM} (f1 : ∀ a j, a < hn h → a ≠ b → M' a j = M a j) (f2 : M' b 1 = 0) (f3 : M' b 3 = 0) (f4 : ∀ j, M' (hn h) j = 0) : sbR [] M' (x_pw (x_new h 21 n) b 0 (hn h)) b ∧ sbF b M h M' (x_pw (x_new h 21 n) b 0 (hn h)) := by
  have nb : ¬ (b = hn h) := by omega
  have ep : hP (x_pw (x_new h 21 n) b 0 (hn h)) b 0 = hn h := if_pos ⟨rfl, rfl⟩
  refine ⟨⟨⟨?_, ?_⟩, ⟨f2, f3⟩, ⟨?_, ?_⟩, fun i hi => absurd hi (Nat.not_lt_zero i), fun j j1 j2 => ?_, ?_, ?_⟩, ?_, fun a a1 a2 a3 j => f1 a j a1 a2, fun a a1 => ⟨?_, ?_⟩, fun a a1 a2 j => ?_, Or.inr ?_⟩
  · rw [hK_pw, hK_new, if_neg nb]; exact hk
  · rw [ep, hK_pw, hK_new, if_pos rfl]
  · rw [ep, hL_pw, hL_new, if_pos rfl]; exact hn0.1
  · rw [ep, hL_pw, hL_new, if_pos rfl]; exact hn0.2
  · rw [ep, f4]; omega
  · rw [hn_pw, hn_new]; omega
  · rw [ep, hn_pw, hn_new]; omega
  · rw [hn_pw, hn_new]; omega
  · rw [hK_pw, hK_new, if_neg (by omega)]
  · rw [hL_pw, hL_new, if_neg (by omega)]
  · rw [hP_pw, if_neg (fun e => a2 e.1), hP_new, if_neg (by omega)]
  · rw [ep]; exact Nat.le_refl _
theorem cY_initI (hk : hK h b = 9) (hb : b < hn h) (hc : M b 3 = 0) (k : ∀ M' h', sbR [] M' h' b → sbF b M h M' h' → (hn h ≤ hP h' b 0 ∧ ∀ a j, a < hn h → a ≠ b → M' a j = M a j) → Φ (.inl none) M' h') : x_Cal zY_initI [xA b, xI 16] M h Φ := by
  have nb : ¬ (b = hn h) := by omega
  refine x_met0 kY_initI (Nat.le_of_ble_eq_true rfl) ?_
  simp only [wq_g3, wq_gc, wq_g, wq_g1, wq_g2, eY_initI, iY_initI_0, iY_initI_38, vY_initI, wps, x_cnd, reduceIte, Nat.reduceAdd, Nat.reduceSub, Nat.reduceEqDiff, Nat.reduceLeDiff, Nat.lt_irrefl, Nat.reduceLT, Int.cast_ofNat_Int, wq_c0, wq_c1, true_and, and_true, and_self, true_implies, forall_const, ne_eq, Decidable.not_not, not_true_eq_false, not_false_eq_true, List.map_nil, List.map_cons, List.sum_nil, List.sum_cons, List.length_cons, List.length_nil, Nat.le_refl, Nat.zero_le, reduceCtorEq, true_or, or_true, false_or, or_false, false_and, and_false, false_implies, Nat.zero_add, Nat.add_zero, Int.reduceEq, Int.reduceNe, Int.reduceLT, Int.reduceLE, Int.reduceNeg, Int.reduceToNat, Nat.not_lt_zero, Int.reduceAdd, hk, hK_new, hK_pw, nb, w8_0, Int.reduceEq]
  obtain ⟨R, F⟩ := sbR.fresh (n := 16) hk hb hc (by decide) (M' := x_w (x_z M h) b 1 0) (fun a j a1 a2 => by rw [w_ne a2, x_z_at, if_neg (by omega)]) w_eq (by rw [w_nj (by decide), x_z_at, if_neg nb]; exact hc) (fun j => by rw [w_ne (fun e => nb e.symm), x_z_at, if_pos rfl])
  (repeat' (first | apply And.intro | intro _)) <;> first | omega | exact k _ _ R F ⟨Nat.le_of_eq (if_pos ⟨rfl, rfl⟩ : hP (x_pw (x_new h 21 16) b 0 (hn h)) b 0 = hn h).symm, fun a j a1 a2 => by rw [w_ne a2, x_z_at, if_neg (by omega)]⟩
theorem cQ_init (hk : hK h b = 9) (hb : b < hn h) (hc : M b 3 = 0) (k : ∀ M' h', sbR [] M' h' b → sbF b M h M' h' → (hn h ≤ hP h' b 0 ∧ ∀ a j, a < hn h → a ≠ b → M' a j = M a j) → Φ (.inl none) M' h') : x_Cal zQ_init [xA b] M h Φ := by
  refine x_met0 kQ_init (Nat.le_of_ble_eq_true rfl) ?_
  simp only [wq_g3, wq_gc, wq_g, wq_g1, wq_g2, eQ_init, iQ_init_0, vQ_init, wps, x_cnd, reduceIte, Nat.reduceAdd, Nat.reduceSub, Nat.reduceEqDiff, Nat.reduceLeDiff, Nat.lt_irrefl, Nat.reduceLT, Int.cast_ofNat_Int, wq_c0, wq_c1, true_and, and_true, and_self, true_implies, forall_const, ne_eq, Decidable.not_not, not_true_eq_false, not_false_eq_true, List.map_nil, List.map_cons, List.sum_nil, List.sum_cons, List.length_cons, List.length_nil, Nat.le_refl, Nat.zero_le, reduceCtorEq, true_or, or_true, false_or, or_false, false_and, and_false, false_implies, Nat.zero_add, Nat.add_zero, Int.reduceEq, Int.reduceNe, Int.reduceLT, Int.reduceLE, Int.reduceNeg, Int.reduceToNat, Nat.not_lt_zero, Int.reduceAdd, hk]
  (repeat refine ⟨by omega, ?_⟩)
  refine cY_initI hk hb hc (fun M' h' R F g => ?_)
  simp only [wq_g3, wq_gc, wq_g, wq_g1, wq_g2, eQ_init, iQ_init_0, vQ_init, wps, x_cnd, reduceIte, Nat.reduceAdd, Nat.reduceSub, Nat.reduceEqDiff, Nat.reduceLeDiff, Nat.lt_irrefl, Nat.reduceLT, Int.cast_ofNat_Int, wq_c0, wq_c1, true_and, and_true, and_self, true_implies, forall_const, ne_eq, Decidable.not_not, not_true_eq_false, not_false_eq_true, List.map_nil, List.map_cons, List.sum_nil, List.sum_cons, List.length_cons, List.length_nil, Nat.le_refl, Nat.zero_le, reduceCtorEq, true_or, or_true, false_or, or_false, false_and, and_false, false_implies, Nat.zero_add, Nat.add_zero, Int.reduceEq, Int.reduceNe, Int.reduceLT, Int.reduceLE, Int.reduceNeg, Int.reduceToNat, Nat.not_lt_zero, Int.reduceAdd, hk]
  exact k M' h' R F g
theorem cY_initS {s : Nat} {K : List Int} (hk : hK h b = 9) (hb : b < hn h) (hc : M b 3 = 0) (T : stR K M h s) (hl : K.length ≤ 24) (k : ∀ M' h', sbR K M' h' b → sbF b M h M' h' → (hn h ≤ hP h' b 0 ∧ ∀ a j, a < hn h → a ≠ b → M' a j = M a j) → Φ (.inl none) M' h') : x_Cal zY_initS [xA b, xA s] M h Φ := by
  have nb : ¬ (b = hn h) := by omega
  have nsb : s ≠ b := fun e => by have := T.1.1; rw [e, hk] at this; exact absurd this (by decide)
  have hs : s < hn h := T.2.2.2.2.2.1
  have hs2 : hP h s 0 < hn h := T.2.2.2.2.2.2.1
  have np : hP h s 0 ≠ b := fun e => by have := T.1.2; rw [e, hk] at this; exact absurd this (by decide)
  refine x_met0 kY_initS (Nat.le_of_ble_eq_true rfl) ?_
  simp only [wq_g3, wq_gc, wq_g, wq_g1, wq_g2, eY_initS, iY_initS_0, iY_initS_24, iY_initS_53, vY_initS, wps, x_cnd, reduceIte, Nat.reduceAdd, Nat.reduceSub, Nat.reduceEqDiff, Nat.reduceLeDiff, Nat.lt_irrefl, Nat.reduceLT, Int.cast_ofNat_Int, wq_c0, wq_c1, true_and, and_true, and_self, true_implies, forall_const, ne_eq, Decidable.not_not, not_true_eq_false, not_false_eq_true, List.map_nil, List.map_cons, List.sum_nil, List.sum_cons, List.length_cons, List.length_nil, Nat.le_refl, Nat.zero_le, reduceCtorEq, true_or, or_true, false_or, or_false, false_and, and_false, false_implies, Nat.zero_add, Nat.add_zero, Int.reduceEq, Int.reduceNe, Int.reduceLT, Int.reduceLE, Int.reduceNeg, Int.reduceToNat, Nat.not_lt_zero, Int.reduceAdd, hk, T.1.1]
  (repeat refine ⟨by omega, ?_⟩)
  refine cTh_length T (by omega) ?_
  simp only [wq_g3, wq_gc, wq_g, wq_g1, wq_g2, eY_initS, iY_initS_0, iY_initS_24, iY_initS_53, vY_initS, wps, x_cnd, reduceIte, Nat.reduceAdd, Nat.reduceSub, Nat.reduceEqDiff, Nat.reduceLeDiff, Nat.lt_irrefl, Nat.reduceLT, Int.cast_ofNat_Int, wq_c0, wq_c1, true_and, and_true, and_self, true_implies, forall_const, ne_eq, Decidable.not_not, not_true_eq_false, not_false_eq_true, List.map_nil, List.map_cons, List.sum_nil, List.sum_cons, List.length_cons, List.length_nil, Nat.le_refl, Nat.zero_le, reduceCtorEq, true_or, or_true, false_or, or_false, false_and, and_false, false_implies, Nat.zero_add, Nat.add_zero, Int.reduceEq, Int.reduceNe, Int.reduceLT, Int.reduceLE, Int.reduceNeg, Int.reduceToNat, Nat.not_lt_zero, Int.reduceAdd, hk, T.1.1]
  simp (disch := omega) only [w32_of]
  refine ⟨fun c0 => absurd c0 (by omega), fun _ => ?_⟩
  (repeat refine ⟨by omega, ?_⟩)
  refine cTh_coder T.1.1 T.2.1 ?_
  obtain ⟨R, F⟩ := sbR.fresh (n := (K.length : Nat) + 16) hk hb hc (by omega) (M' := x_z (x_w M b 1 0) h) (fun a j a1 a2 => by rw [x_z_at, if_neg (by omega), w_ne a2]) (by rw [x_z_at, if_neg nb, w_eq]) (by rw [x_z_at, if_neg nb, w_nj (by decide)]; exact hc) (fun j => by rw [x_z_at, if_pos rfl])
  have T' : stR K (x_z (x_w M b 1 0) h) (x_pw (x_new h 21 ((K.length : Nat) + 16)) b 0 (hn h)) s := by
    obtain ⟨⟨t1, t2⟩, t3, t4, t5, t6, t7, t8, t9⟩ := T
    have ep : hP (x_pw (x_new h 21 ((K.length : Nat) + 16)) b 0 (hn h)) s 0 = hP h s 0 := by
      rw [hP_pw, if_neg (fun e => nsb e.1), hP_new, if_neg (by omega)]
    refine ⟨⟨?_, ?_⟩, ?_, ?_, fun i hi => ?_, t6, ?_, ?_, t9⟩
    · rw [hK_pw, hK_new, if_neg (by omega)]; exact t1
    · rw [ep, hK_pw, hK_new, if_neg (by omega)]; exact t2
    · rw [x_z_at, if_neg (by omega), w_ne nsb]; exact t3
    · rw [ep, hL_pw, hL_new, if_neg (by omega)]; exact t4
    · rw [ep, x_z_at, if_neg (by omega), w_ne np]; exact t5 i hi
    · rw [hn_pw, hn_new]; omega
    · rw [ep, hn_pw, hn_new]; omega
  have ek : hK (x_pw (x_new h 21 ((K.length : Nat) + 16)) b 0 (hn h)) b = 9 := R.1.1
  simp only [wq_g3, wq_gc, wq_g, wq_g1, wq_g2, eY_initS, iY_initS_0, iY_initS_24, iY_initS_53, vY_initS, wps, x_cnd, reduceIte, Nat.reduceAdd, Nat.reduceSub, Nat.reduceEqDiff, Nat.reduceLeDiff, Nat.lt_irrefl, Nat.reduceLT, Int.cast_ofNat_Int, wq_c0, wq_c1, true_and, and_true, and_self, true_implies, forall_const, ne_eq, Decidable.not_not, not_true_eq_false, not_false_eq_true, List.map_nil, List.map_cons, List.sum_nil, List.sum_cons, List.length_cons, List.length_nil, Nat.le_refl, Nat.zero_le, reduceCtorEq, true_or, or_true, false_or, or_false, false_and, and_false, false_implies, Nat.zero_add, Nat.add_zero, Int.reduceEq, Int.reduceNe, Int.reduceLT, Int.reduceLE, Int.reduceNeg, Int.reduceToNat, Nat.not_lt_zero, Int.reduceAdd, hk, T.1.1, w8_0, hK_new, nb, Int.reduceEq, ek, wrc]
  (repeat refine ⟨by omega, ?_⟩)
  refine cQ_appendB T' R ?_ (by simp; omega) (fun M' h' R' F' => ?_)
  · have ep : hP (x_pw (x_new h 21 ((K.length : Nat) + 16)) b 0 (hn h)) b 0 = hn h := if_pos ⟨rfl, rfl⟩
    have ep2 : hP (x_pw (x_new h 21 ((K.length : Nat) + 16)) b 0 (hn h)) s 0 = hP h s 0 := by
      rw [hP_pw, if_neg (fun e => nsb e.1), hP_new, if_neg (by omega)]
    rw [ep, ep2]
    omega
  simp only [wq_g3, wq_gc, wq_g, wq_g1, wq_g2, eY_initS, iY_initS_0, iY_initS_24, iY_initS_53, vY_initS, wps, x_cnd, reduceIte, Nat.reduceAdd, Nat.reduceSub, Nat.reduceEqDiff, Nat.reduceLeDiff, Nat.lt_irrefl, Nat.reduceLT, Int.cast_ofNat_Int, wq_c0, wq_c1, true_and, and_true, and_self, true_implies, forall_const, ne_eq, Decidable.not_not, not_true_eq_false, not_false_eq_true, List.map_nil, List.map_cons, List.sum_nil, List.sum_cons, List.length_cons, List.length_nil, Nat.le_refl, Nat.zero_le, reduceCtorEq, true_or, or_true, false_or, or_false, false_and, and_false, false_implies, Nat.zero_add, Nat.add_zero, Int.reduceEq, Int.reduceNe, Int.reduceLT, Int.reduceLE, Int.reduceNeg, Int.reduceToNat, Nat.not_lt_zero, Int.reduceAdd, hk]
  have ep : hP (x_pw (x_new h 21 ((K.length : Nat) + 16)) b 0 (hn h)) b 0 = hn h := if_pos ⟨rfl, rfl⟩
  refine k M' h' R' (F.tr hb F') ⟨?_, fun a j a1 a2 => ?_⟩
  rotate_left
  · rw [F'.2.1 a (by rw [hn_pw, hn_new]; omega) a2 (by rw [ep]; omega) j, x_z_at, if_neg (by omega), w_ne a2]
  rcases F'.2.2.2.2 with f5 | f5
  · rw [f5, ep]; exact Nat.le_refl _
  · rw [hn_pw, hn_new] at f5; omega
theorem cQ_initS {s : Nat} {K : List Int} (hk : hK h b = 9) (hb : b < hn h) (hc : M b 3 = 0) (T : stR K M h s) (hl : K.length ≤ 24) (k : ∀ M' h', sbR K M' h' b → sbF b M h M' h' → (hn h ≤ hP h' b 0 ∧ ∀ a j, a < hn h → a ≠ b → M' a j = M a j) → Φ (.inl none) M' h') : x_Cal zQ_initS [xA b, xA s] M h Φ := by
  refine x_met0 kQ_initS (Nat.le_of_ble_eq_true rfl) ?_
  simp only [wq_g3, wq_gc, wq_g, wq_g1, wq_g2, eQ_initS, iQ_initS_0, vQ_initS, wps, x_cnd, reduceIte, Nat.reduceAdd, Nat.reduceSub, Nat.reduceEqDiff, Nat.reduceLeDiff, Nat.lt_irrefl, Nat.reduceLT, Int.cast_ofNat_Int, wq_c0, wq_c1, true_and, and_true, and_self, true_implies, forall_const, ne_eq, Decidable.not_not, not_true_eq_false, not_false_eq_true, List.map_nil, List.map_cons, List.sum_nil, List.sum_cons, List.length_cons, List.length_nil, Nat.le_refl, Nat.zero_le, reduceCtorEq, true_or, or_true, false_or, or_false, false_and, and_false, false_implies, Nat.zero_add, Nat.add_zero, Int.reduceEq, Int.reduceNe, Int.reduceLT, Int.reduceLE, Int.reduceNeg, Int.reduceToNat, Nat.not_lt_zero, Int.reduceAdd, hk]
  (repeat refine ⟨by omega, ?_⟩)
  refine cY_initS hk hb hc T hl (fun M' h' R F g => ?_)
  simp only [wq_g3, wq_gc, wq_g, wq_g1, wq_g2, eQ_initS, iQ_initS_0, vQ_initS, wps, x_cnd, reduceIte, Nat.reduceAdd, Nat.reduceSub, Nat.reduceEqDiff, Nat.reduceLeDiff, Nat.lt_irrefl, Nat.reduceLT, Int.cast_ofNat_Int, wq_c0, wq_c1, true_and, and_true, and_self, true_implies, forall_const, ne_eq, Decidable.not_not, not_true_eq_false, not_false_eq_true, List.map_nil, List.map_cons, List.sum_nil, List.sum_cons, List.length_cons, List.length_nil, Nat.le_refl, Nat.zero_le, reduceCtorEq, true_or, or_true, false_or, or_false, false_and, and_false, false_implies, Nat.zero_add, Nat.add_zero, Int.reduceEq, Int.reduceNe, Int.reduceLT, Int.reduceLE, Int.reduceNeg, Int.reduceToNat, Nat.not_lt_zero, Int.reduceAdd, hk]
  exact k M' h' R F g
/-- what a call leaves of all that stood -/
def nwF (M : xM) (h : xH) (M' : xM) (h' : xH) : Prop := hn h ≤ hn h' ∧ ∀ a, a < hn h → (∀ j, M' a j = M a j) ∧ hK h' a = hK h a ∧ hL h' a = hL h a ∧ ∀ j, hP h' a j = hP h a j
theorem cT_initY {s : Nat} (hk : hK h s = 8) (hs : s < hn h ∧ s ≠ 0) (R : sbR L M h b) (hl : L.length ≤ 1000) (k : ∀ M' h', stR L M' h' s → hn h ≤ hP h' s 0 → hn h ≤ hn h' → (∀ a, a < hn h → a ≠ s → (∀ j, M' a j = M a j) ∧ hK h' a = hK h a ∧ hL h' a = hL h a ∧ ∀ j, hP h' a j = hP h a j) → Φ (.inl none) M' h') : x_Cal zT_initY [xA s, xA b, xA 0] M h Φ := by
  obtain ⟨⟨r1, r2⟩, ⟨r3, r4⟩, ⟨r5, r6⟩, r7, r8, r9, r10⟩ := id R
  have nsb : b ≠ s := fun e => by rw [e, hk] at r1; exact absurd r1 (by decide)
  have nsa : hP h b 0 ≠ s := fun e => by rw [e, hk] at r2; exact absurd r2 (by decide)
  have ns : ¬ (s = hn h) := by omega
  have hs8 : hK h s < 25 := by omega
  refine x_met0 kT_initY (Nat.le_of_ble_eq_true rfl) ?_
  simp only [wq_g3, wq_gc, wq_g, wq_g1, wq_g2, eT_initY, iT_initY_0, iT_initY_97, vT_initY, wps, x_cnd, reduceIte, Nat.reduceAdd, Nat.reduceSub, Nat.reduceEqDiff, Nat.reduceLeDiff, Nat.lt_irrefl, Nat.reduceLT, Int.cast_ofNat_Int, wq_c0, wq_c1, true_and, and_true, and_self, true_implies, forall_const, ne_eq, Decidable.not_not, not_true_eq_false, not_false_eq_true, List.map_nil, List.map_cons, List.sum_nil, List.sum_cons, List.length_cons, List.length_nil, Nat.le_refl, Nat.zero_le, reduceCtorEq, true_or, or_true, false_or, or_false, false_and, and_false, false_implies, Nat.zero_add, Nat.add_zero, Int.reduceEq, Int.reduceNe, Int.reduceLT, Int.reduceLE, Int.reduceNeg, Int.reduceToNat, Nat.not_lt_zero, Int.reduceAdd, r1, hs8]
  (repeat refine ⟨by omega, ?_⟩)
  refine cY_getValue r1 ?_
  simp only [wq_g3, wq_gc, wq_g, wq_g1, wq_g2, eT_initY, iT_initY_0, iT_initY_97, vT_initY, wps, x_cnd, reduceIte, Nat.reduceAdd, Nat.reduceSub, Nat.reduceEqDiff, Nat.reduceLeDiff, Nat.lt_irrefl, Nat.reduceLT, Int.cast_ofNat_Int, wq_c0, wq_c1, true_and, and_true, and_self, true_implies, forall_const, ne_eq, Decidable.not_not, not_true_eq_false, not_false_eq_true, List.map_nil, List.map_cons, List.sum_nil, List.sum_cons, List.length_cons, List.length_nil, Nat.le_refl, Nat.zero_le, reduceCtorEq, true_or, or_true, false_or, or_false, false_and, and_false, false_implies, Nat.zero_add, Nat.add_zero, Int.reduceEq, Int.reduceNe, Int.reduceLT, Int.reduceLE, Int.reduceNeg, Int.reduceToNat, Nat.not_lt_zero, Int.reduceAdd, r1, wrc]
  (repeat refine ⟨by omega, ?_⟩)
  refine cQ_length r1 ?_
  simp only [wq_g3, wq_gc, wq_g, wq_g1, wq_g2, eT_initY, iT_initY_0, iT_initY_97, vT_initY, wps, x_cnd, reduceIte, Nat.reduceAdd, Nat.reduceSub, Nat.reduceEqDiff, Nat.reduceLeDiff, Nat.lt_irrefl, Nat.reduceLT, Int.cast_ofNat_Int, wq_c0, wq_c1, true_and, and_true, and_self, true_implies, forall_const, ne_eq, Decidable.not_not, not_true_eq_false, not_false_eq_true, List.map_nil, List.map_cons, List.sum_nil, List.sum_cons, List.length_cons, List.length_nil, Nat.le_refl, Nat.zero_le, reduceCtorEq, true_or, or_true, false_or, or_false, false_and, and_false, false_implies, Nat.zero_add, Nat.add_zero, Int.reduceEq, Int.reduceNe, Int.reduceLT, Int.reduceLE, Int.reduceNeg, Int.reduceToNat, Nat.not_lt_zero, Int.reduceAdd, r1, r4]
  (repeat refine ⟨by omega, ?_⟩)
  refine cY_isLatin1 r1 r3 ?_
  simp only [wq_g3, wq_gc, wq_g, wq_g1, wq_g2, eT_initY, iT_initY_0, iT_initY_97, vT_initY, wps, x_cnd, reduceIte, Nat.reduceAdd, Nat.reduceSub, Nat.reduceEqDiff, Nat.reduceLeDiff, Nat.lt_irrefl, Nat.reduceLT, Int.cast_ofNat_Int, wq_c0, wq_c1, true_and, and_true, and_self, true_implies, forall_const, ne_eq, Decidable.not_not, not_true_eq_false, not_false_eq_true, List.map_nil, List.map_cons, List.sum_nil, List.sum_cons, List.length_cons, List.length_nil, Nat.le_refl, Nat.zero_le, reduceCtorEq, true_or, or_true, false_or, or_false, false_and, and_false, false_implies, Nat.zero_add, Nat.add_zero, Int.reduceEq, Int.reduceNe, Int.reduceLT, Int.reduceLE, Int.reduceNeg, Int.reduceToNat, Nat.not_lt_zero, Int.reduceAdd, hk, w8_0, Int.reduceEq]
  (repeat refine ⟨by omega, ?_⟩)
  refine cA_copyOfRange r2 ⟨by omega, r5⟩ (by omega) (fun j j1 j2 => ?_) r10 r6 (fun M' g1 g2 => ?_)
  · have h9 := r8 j j1 j2
    rw [w_ne nsa]
    omega
  simp only [wq_g3, wq_gc, wq_g, wq_g1, wq_g2, eT_initY, iT_initY_0, iT_initY_97, vT_initY, wps, x_cnd, reduceIte, Nat.reduceAdd, Nat.reduceSub, Nat.reduceEqDiff, Nat.reduceLeDiff, Nat.lt_irrefl, Nat.reduceLT, Int.cast_ofNat_Int, wq_c0, wq_c1, true_and, and_true, and_self, true_implies, forall_const, ne_eq, Decidable.not_not, not_true_eq_false, not_false_eq_true, List.map_nil, List.map_cons, List.sum_nil, List.sum_cons, List.length_cons, List.length_nil, Nat.le_refl, Nat.zero_le, reduceCtorEq, true_or, or_true, false_or, or_false, false_and, and_false, false_implies, Nat.zero_add, Nat.add_zero, Int.reduceEq, Int.reduceNe, Int.reduceLT, Int.reduceLE, Int.reduceNeg, Int.reduceToNat, Nat.not_lt_zero, Int.reduceAdd, hk, hK_new, ns]
  have ep : hP (x_pw (x_new h 21 (L.length : Nat)) s 0 (hn h)) s 0 = hn h := if_pos ⟨rfl, rfl⟩
  refine k _ _ ⟨⟨?_, ?_⟩, ?_, ?_, fun i hi => ?_, fun x hx => ?_, ?_, ?_, hs.2⟩ (Nat.le_of_eq ep.symm) ?_ (fun a a1 a2 => ⟨fun j => ?_, ?_, ?_, fun j => ?_⟩)
  · rw [hK_pw, hK_new, if_neg ns]; exact hk
  · rw [ep, hK_pw, hK_new, if_pos rfl]
  · rw [g1 s 1 hs.1, w_eq]
  · rw [ep, hL_pw, hL_new, if_pos rfl]
  · rw [ep, g2 i (by omega) (by omega), w_ne nsa]
    exact r7 i hi
  · obtain ⟨m, hm, rfl⟩ := List.getElem_of_mem hx
    have h9 := r7 m hm
    rw [List.getD_eq_getElem?_getD, List.getElem?_eq_getElem hm] at h9
    have h8 := r8 m (by omega) (by omega)
    rw [h9] at h8
    exact h8
  · rw [hn_pw, hn_new]; omega
  · rw [ep, hn_pw, hn_new]; omega
  · rw [hn_pw, hn_new]; omega
  · rw [g1 a j a1, w_ne a2]
  · rw [hK_pw, hK_new, if_neg (by omega)]
  · rw [hL_pw, hL_new, if_neg (by omega)]
  · rw [hP_pw, if_neg (fun e => a2 e.1), hP_new, if_neg (by omega)]
theorem cT_initQ {s : Nat} (hk : hK h s = 8) (hs : s < hn h ∧ s ≠ 0) (R : sbR L M h b) (hl : L.length ≤ 1000) (k : ∀ M' h', stR L M' h' s → hn h ≤ hP h' s 0 → hn h ≤ hn h' → (∀ a, a < hn h → a ≠ s → (∀ j, M' a j = M a j) ∧ hK h' a = hK h a ∧ hL h' a = hL h a ∧ ∀ j, hP h' a j = hP h a j) → Φ (.inl none) M' h') : x_Cal zT_initQ [xA s, xA b] M h Φ := by
  refine x_met0 kT_initQ (Nat.le_of_ble_eq_true rfl) ?_
  simp only [wq_g3, wq_gc, wq_g, wq_g1, wq_g2, eT_initQ, iT_initQ_0, vT_initQ, wps, x_cnd, reduceIte, Nat.reduceAdd, Nat.reduceSub, Nat.reduceEqDiff, Nat.reduceLeDiff, Nat.lt_irrefl, Nat.reduceLT, Int.cast_ofNat_Int, wq_c0, wq_c1, true_and, and_true, and_self, true_implies, forall_const, ne_eq, Decidable.not_not, not_true_eq_false, not_false_eq_true, List.map_nil, List.map_cons, List.sum_nil, List.sum_cons, List.length_cons, List.length_nil, Nat.le_refl, Nat.zero_le, reduceCtorEq, true_or, or_true, false_or, or_false, false_and, and_false, false_implies, Nat.zero_add, Nat.add_zero, Int.reduceEq, Int.reduceNe, Int.reduceLT, Int.reduceLE, Int.reduceNeg, Int.reduceToNat, Nat.not_lt_zero, Int.reduceAdd, hk]
  (repeat refine ⟨by omega, ?_⟩)
  refine cT_initY hk hs R hl (fun M' h' T g0 g1 g2 => ?_)
  simp only [wq_g3, wq_gc, wq_g, wq_g1, wq_g2, eT_initQ, iT_initQ_0, vT_initQ, wps, x_cnd, reduceIte, Nat.reduceAdd, Nat.reduceSub, Nat.reduceEqDiff, Nat.reduceLeDiff, Nat.lt_irrefl, Nat.reduceLT, Int.cast_ofNat_Int, wq_c0, wq_c1, true_and, and_true, and_self, true_implies, forall_const, ne_eq, Decidable.not_not, not_true_eq_false, not_false_eq_true, List.map_nil, List.map_cons, List.sum_nil, List.sum_cons, List.length_cons, List.length_nil, Nat.le_refl, Nat.zero_le, reduceCtorEq, true_or, or_true, false_or, or_false, false_and, and_false, false_implies, Nat.zero_add, Nat.add_zero, Int.reduceEq, Int.reduceNe, Int.reduceLT, Int.reduceLE, Int.reduceNeg, Int.reduceToNat, Nat.not_lt_zero, Int.reduceAdd, hk]
  exact k M' h' T g0 g1 g2
theorem cQ_toString (R : sbR L M h b) (hl : L.length ≤ 1000) (k : ∀ M' h', stR L M' h' (hn h) → nwF M h M' h' → hn h ≤ hP h' (hn h) 0 → Φ (.inl (some (xA (hn h)))) M' h') : x_Cal zQ_toString [xA b] M h Φ := by
  obtain ⟨⟨r1, r2⟩, ⟨r3, r4⟩, ⟨r5, r6⟩, r7, r8, r9, r10⟩ := id R
  have n1 : ¬ (b = hn h) := by omega
  have n2 : ¬ (hP h b 0 = hn h) := by omega
  refine x_met0 kQ_toString (Nat.le_of_ble_eq_true rfl) ?_
  simp only [wq_g3, wq_gc, wq_g, wq_g1, wq_g2, eQ_toString, iQ_toString_0, vQ_toString, wps, x_cnd, reduceIte, Nat.reduceAdd, Nat.reduceSub, Nat.reduceEqDiff, Nat.reduceLeDiff, Nat.lt_irrefl, Nat.reduceLT, Int.cast_ofNat_Int, wq_c0, wq_c1, true_and, and_true, and_self, true_implies, forall_const, ne_eq, Decidable.not_not, not_true_eq_false, not_false_eq_true, List.map_nil, List.map_cons, List.sum_nil, List.sum_cons, List.length_cons, List.length_nil, Nat.le_refl, Nat.zero_le, reduceCtorEq, true_or, or_true, false_or, or_false, false_and, and_false, false_implies, Nat.zero_add, Nat.add_zero, Int.reduceEq, Int.reduceNe, Int.reduceLT, Int.reduceLE, Int.reduceNeg, Int.reduceToNat, Nat.not_lt_zero, Int.reduceAdd, hK_new]
  (repeat refine ⟨by omega, ?_⟩)
  have R1 : sbR L (x_z M h) (x_new h 8 0) b := by
    have ep : hP (x_new h 8 0) b 0 = hP h b 0 := by rw [hP_new, if_neg n1]
    refine ⟨⟨?_, ?_⟩, ⟨?_, ?_⟩, ⟨?_, ?_⟩, fun i hi => ?_, fun j j1 j2 => ?_, ?_, ?_⟩
    · rw [hK_new, if_neg n1]; exact r1
    · rw [ep, hK_new, if_neg n2]; exact r2
    · rw [x_z_at, if_neg n1]; exact r3
    · rw [x_z_at, if_neg n1]; exact r4
    · rw [ep, hL_new, if_neg n2]; exact r5
    · rw [ep, hL_new, if_neg n2]; exact r6
    · rw [ep, x_z_at, if_neg n2]; exact r7 i hi
    · rw [ep, hL_new, if_neg n2] at j2
      rw [ep, x_z_at, if_neg n2]; exact r8 j j1 j2
    · rw [hn_new]; omega
    · rw [ep, hn_new]; omega
  refine ⟨by decide, by decide, ?_⟩
  refine cT_initQ (by rw [hK_new, if_pos rfl]) ⟨by rw [hn_new]; omega, by omega⟩ R1 hl (fun M' h' T g0 g1 g2 => ?_)
  simp only [wq_g3, wq_gc, wq_g, wq_g1, wq_g2, eQ_toString, iQ_toString_0, vQ_toString, wps, x_cnd, reduceIte, Nat.reduceAdd, Nat.reduceSub, Nat.reduceEqDiff, Nat.reduceLeDiff, Nat.lt_irrefl, Nat.reduceLT, Int.cast_ofNat_Int, wq_c0, wq_c1, true_and, and_true, and_self, true_implies, forall_const, ne_eq, Decidable.not_not, not_true_eq_false, not_false_eq_true, List.map_nil, List.map_cons, List.sum_nil, List.sum_cons, List.length_cons, List.length_nil, Nat.le_refl, Nat.zero_le, reduceCtorEq, true_or, or_true, false_or, or_false, false_and, and_false, false_implies, Nat.zero_add, Nat.add_zero, Int.reduceEq, Int.reduceNe, Int.reduceLT, Int.reduceLE, Int.reduceNeg, Int.reduceToNat, Nat.not_lt_zero, Int.reduceAdd, hK_new]
  rw [hn_new] at g1 g0
  refine k M' h' T ⟨by omega, fun a a1 => ?_⟩ (by omega)
  obtain ⟨h1, h2, h3, h4⟩ := g2 a (by rw [hn_new]; omega) (by omega)
  refine ⟨fun j => ?_, ?_, ?_, fun j => ?_⟩
  · rw [h1 j, x_z_at, if_neg (by omega)]
  · rw [h2, hK_new, if_neg (by omega)]
  · rw [h3, hL_new, if_neg (by omega)]
  · rw [h4 j, hP_new, if_neg (by omega)]
end SB4
