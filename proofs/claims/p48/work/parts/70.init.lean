/-! the constructors -/
section INIT
variable {A : xAb} {M M' : xM} {h h' : xH} {Φ : xO → xM → xH → Prop}
set_option maxHeartbeats 1000000
theorem CW.fm (C : CW A M h) (f : ∀ a j, (a < 41 ∨ 41 < a) → M' a j = M a j) : CW A M' h := C.same36 (fun a j ha => f a j (by omega))
/-- what was there before b stands as it was -/
def HE (h h' : xH) (b : Nat) : Prop := ∀ a, a < b → hK h' a = hK h a ∧ hL h' a = hL h a ∧ ∀ i, hP h' a i = hP h a i
theorem cR_init (hr : hn h = 3) (hk : hK h 2 = 5) (k : ∀ M' h', (∀ a j, a < 2 → M' a j = M a j) → HE h h' 2 → hn h' = 16 → (M' 2 1 = 0 ∧ M' 2 2 = -1 ∧ M' 2 3 = 0) → scA h' 3 → (hK h' 2 = 5 ∧ hK h' 14 = 21 ∧ hK h' 15 = 20 ∧ hL h' 14 = 800 ∧ hL h' 15 = 6 ∧ hP h' 2 0 = 3 ∧ hP h' 2 4 = 14 ∧ hP h' 2 7 = 15) → (∀ i, hP h' 13 i = 0) → Φ (.inl none) M' h') : x_Cal zR_init [xA 2] M h Φ := by
  refine x_met0 kR_init (Nat.le_of_ble_eq_true rfl) ?_
  simp only [wq_g3, wq_gc, wq_g, wq_g1, wq_g2, eR_init, iR_init_0, vR_init, wps, x_cnd, reduceIte, Nat.reduceAdd, Nat.reduceSub, Nat.reduceEqDiff, Nat.reduceLeDiff, Nat.lt_irrefl, Nat.reduceLT, Int.cast_ofNat_Int, wq_c0, wq_c1, true_and, and_true, and_self, true_implies, forall_const, ne_eq, Decidable.not_not, not_true_eq_false, not_false_eq_true, List.map_nil, List.map_cons, List.sum_nil, List.sum_cons, List.length_cons, List.length_nil, Nat.le_refl, Nat.zero_le, reduceCtorEq, true_or, or_true, false_or, or_false, false_and, and_false, false_implies, Nat.zero_add, Nat.add_zero, Int.reduceEq, Int.reduceNe, Int.reduceLT, Int.reduceLE, Int.reduceNeg, Int.reduceToNat, Nat.not_lt_zero, Int.reduceAdd, hk, hn_new, hn_pw, hr, hK_new, hK_pw, Nat.reduceAdd]
  refine ⟨by decide, by decide, cS_init (b := 3) (by simp only [hn_new, hr]) (by simp only [hK_new, hr, if_true]) (fun M1 h1 f1 z1 z2 z3 z4 A1 n1 e1 p1 => ?_)⟩
  have k2 : hK h1 2 = 5 := (e1 2 (by decide)).1.trans (by simp only [hK_new, hr]; exact hk)
  simp only [wq_g3, wq_gc, wq_g, wq_g1, wq_g2, eR_init, iR_init_0, vR_init, wps, x_cnd, reduceIte, Nat.reduceAdd, Nat.reduceSub, Nat.reduceEqDiff, Nat.reduceLeDiff, Nat.lt_irrefl, Nat.reduceLT, Int.cast_ofNat_Int, wq_c0, wq_c1, true_and, and_true, and_self, true_implies, forall_const, ne_eq, Decidable.not_not, not_true_eq_false, not_false_eq_true, List.map_nil, List.map_cons, List.sum_nil, List.sum_cons, List.length_cons, List.length_nil, Nat.le_refl, Nat.zero_le, reduceCtorEq, true_or, or_true, false_or, or_false, false_and, and_false, false_implies, Nat.zero_add, Nat.add_zero, Int.reduceEq, Int.reduceNe, Int.reduceLT, Int.reduceLE, Int.reduceNeg, Int.reduceToNat, Nat.not_lt_zero, Int.reduceAdd, k2, hn_new, hn_pw, n1, hK_new, hK_pw, Nat.reduceAdd]
  have L2 : ∀ a, a < 16 → a ≠ 14 → a ≠ 15 → hK (x_pw (x_new (x_pw (x_new (x_pw h1 2 0 3) 21 800) 2 4 14) 20 6) 2 7 15) a = hK h1 a ∧ hL (x_pw (x_new (x_pw (x_new (x_pw h1 2 0 3) 21 800) 2 4 14) 20 6) 2 7 15) a = hL h1 a := fun a _ h1 h2 => by
    simp only [hK_pw, hL_pw, hK_new, hL_new, hn_pw, hn_new, n1, Nat.reduceAdd, h1, h2, if_false, and_self]
  have P2 : ∀ a i, a ≠ 2 → a ≠ 14 → a ≠ 15 → hP (x_pw (x_new (x_pw (x_new (x_pw h1 2 0 3) 21 800) 2 4 14) 20 6) 2 7 15) a i = hP h1 a i := fun a i h0 h1 h2 => by
    simp only [hP_pw, hP_new, hn_pw, hn_new, n1, Nat.reduceAdd, h0, h1, h2, if_false, false_and]
  refine ⟨by decide, by decide, k _ _ (fun a j ha => ?_) (fun a ha => ⟨?_, ?_, fun i => ?_⟩) ?_ ⟨?_, ?_, ?_⟩ ?_ ⟨?_, ?_, ?_, ?_, ?_, ?_, ?_, ?_⟩ (fun i => ?_)⟩
  · have q2 : a ≠ 2 := by omega
    have q14 : a ≠ 14 := by omega
    have q15 : a ≠ 15 := by omega
    simp only [x_w, x_z_at, hn_pw, hn_new, n1, Nat.reduceAdd, q2, q14, q15, false_and, if_false]
    rw [f1 a j (by omega), x_z_at, hr, if_neg (by omega)]
  · rw [(L2 a (by omega) (by omega) (by omega)).1, (e1 a (by omega)).1, hK_new, hr, if_neg (by omega)]
  · rw [(L2 a (by omega) (by omega) (by omega)).2, (e1 a (by omega)).2.1, hL_new, hr, if_neg (by omega)]
  · rw [P2 a i (by omega) (by omega) (by omega), (e1 a (by omega)).2.2 i, hP_new, hr, if_neg (by omega)]
  · simp only [hn_pw, hn_new, n1, Nat.reduceAdd]
  · simp [x_w, x_z_at, hn_pw, hn_new, n1]
  · simp [x_w, x_z_at, hn_pw, hn_new, n1]
  · simp [x_w, x_z_at, hn_pw, hn_new, n1]
  · unfold scA at A1 ⊢
    simp only [Nat.reduceAdd] at A1 ⊢
    rw [(L2 3 (by decide) (by decide) (by decide)).1, (L2 4 (by decide) (by decide) (by decide)).1, (L2 5 (by decide) (by decide) (by decide)).1, (L2 6 (by decide) (by decide) (by decide)).1, (L2 7 (by decide) (by decide) (by decide)).1, (L2 8 (by decide) (by decide) (by decide)).1, (L2 9 (by decide) (by decide) (by decide)).1, (L2 10 (by decide) (by decide) (by decide)).1, (L2 11 (by decide) (by decide) (by decide)).1, (L2 12 (by decide) (by decide) (by decide)).1, (L2 13 (by decide) (by decide) (by decide)).1, (L2 4 (by decide) (by decide) (by decide)).2, (L2 5 (by decide) (by decide) (by decide)).2, (L2 6 (by decide) (by decide) (by decide)).2, (L2 7 (by decide) (by decide) (by decide)).2, (L2 8 (by decide) (by decide) (by decide)).2, (L2 9 (by decide) (by decide) (by decide)).2, (L2 10 (by decide) (by decide) (by decide)).2, (L2 11 (by decide) (by decide) (by decide)).2, (L2 12 (by decide) (by decide) (by decide)).2, (L2 13 (by decide) (by decide) (by decide)).2]
    simp only [P2 3 _ (by decide) (by decide) (by decide)]
    exact A1
  · rw [(L2 2 (by decide) (by decide) (by decide)).1]
    exact k2
  · simp [hK_pw, hK_new, hn_pw, hn_new, n1]
  · simp [hK_pw, hK_new, hn_pw, hn_new, n1]
  · simp [hL_pw, hL_new, hn_pw, hn_new, n1]
  · simp [hL_pw, hL_new, hn_pw, hn_new, n1]
  · simp [hP_pw, hP_new, hn_pw, hn_new, n1]
  · simp [hP_pw, hP_new, hn_pw, hn_new, n1]
  · simp [hP_pw, hP_new, hn_pw, hn_new, n1]
  · rw [P2 13 i (by decide) (by decide) (by decide)]
    exact p1 i
def vwH1 (h1 : xH) : xH := x_pw (x_new (x_pw (x_new (x_pw (x_new (x_pw (x_new (x_pw h1 16 0 17) 20 150) 16 2 28) 20 150) 16 3 29) 20 150) 16 4 30) 20 150) 16 5 31
def vwH (h1 : xH) : xH := x_pw (x_new (x_pw (x_new (x_pw (x_new (x_pw (x_new (vwH1 h1) 20 150) 16 6 32) 20 150) 16 7 33) 20 150) 16 8 34) 20 150) 16 9 35
def vwZ (M : xM) (h1 : xH) : xM := x_z (x_z (x_z (x_z (x_z (x_z (x_z (x_z (M) (x_pw h1 16 0 17)) (x_pw (x_new (x_pw h1 16 0 17) 20 150) 16 2 28)) (x_pw (x_new (x_pw (x_new (x_pw h1 16 0 17) 20 150) 16 2 28) 20 150) 16 3 29)) (x_pw (x_new (x_pw (x_new (x_pw (x_new (x_pw h1 16 0 17) 20 150) 16 2 28) 20 150) 16 3 29) 20 150) 16 4 30)) (x_pw (x_new (x_pw (x_new (x_pw (x_new (x_pw (x_new (x_pw h1 16 0 17) 20 150) 16 2 28) 20 150) 16 3 29) 20 150) 16 4 30) 20 150) 16 5 31)) (x_pw (x_new (x_pw (x_new (x_pw (x_new (x_pw (x_new (x_pw (x_new (x_pw h1 16 0 17) 20 150) 16 2 28) 20 150) 16 3 29) 20 150) 16 4 30) 20 150) 16 5 31) 20 150) 16 6 32)) (x_pw (x_new (x_pw (x_new (x_pw (x_new (x_pw (x_new (x_pw (x_new (x_pw (x_new (x_pw h1 16 0 17) 20 150) 16 2 28) 20 150) 16 3 29) 20 150) 16 4 30) 20 150) 16 5 31) 20 150) 16 6 32) 20 150) 16 7 33)) (x_pw (x_new (x_pw (x_new (x_pw (x_new (x_pw (x_new (x_pw (x_new (x_pw (x_new (x_pw (x_new (x_pw h1 16 0 17) 20 150) 16 2 28) 20 150) 16 3 29) 20 150) 16 4 30) 20 150) 16 5 31) 20 150) 16 6 32) 20 150) 16 7 33) 20 150) 16 8 34)
theorem vwH1_n {h1 : xH} (e : hn h1 = 28) : hn (vwH1 h1) = 32 := by
  simp only [vwH1, hn_pw, hn_new, e, Nat.reduceAdd]
theorem vwH_n {h1 : xH} (e : hn h1 = 28) : hn (vwH h1) = 36 := by
  simp only [vwH, hn_pw, hn_new, vwH1_n e, Nat.reduceAdd]
theorem vwH1_K {h1 : xH} (e : hn h1 = 28) (a : Nat) : hK (vwH1 h1) a = if 28 ≤ a ∧ a ≤ 31 then 20 else hK h1 a := by
  simp only [vwH1, hK_pw, hK_new, hn_pw, hn_new, e, Nat.reduceAdd]
  (repeat' split) <;> first | rfl | (exfalso; omega)
theorem vwH_K {h1 : xH} (e : hn h1 = 28) (a : Nat) : hK (vwH h1) a = if 28 ≤ a ∧ a ≤ 35 then 20 else hK h1 a := by
  simp only [vwH, hK_pw, hK_new, hn_pw, hn_new, vwH1_n e, vwH1_K e, Nat.reduceAdd]
  (repeat' split) <;> first | rfl | (exfalso; omega)
theorem vwH1_L {h1 : xH} (e : hn h1 = 28) (a : Nat) : hL (vwH1 h1) a = if 28 ≤ a ∧ a ≤ 31 then 150 else hL h1 a := by
  simp only [vwH1, hL_pw, hL_new, hn_pw, hn_new, e, Nat.reduceAdd]
  (repeat' split) <;> first | rfl | (exfalso; omega)
theorem vwH_L {h1 : xH} (e : hn h1 = 28) (a : Nat) : hL (vwH h1) a = if 28 ≤ a ∧ a ≤ 35 then 150 else hL h1 a := by
  simp only [vwH, hL_pw, hL_new, hn_pw, hn_new, vwH1_n e, vwH1_L e, Nat.reduceAdd]
  (repeat' split) <;> first | rfl | (exfalso; omega)
theorem vwH1_P {h1 : xH} (e : hn h1 = 28) (a : Nat) (j : Int) : hP (vwH1 h1) a j = if a = 16 ∧ j = 0 then 17 else if a = 16 ∧ 2 ≤ j ∧ j ≤ 5 then 26 + j.toNat else if 28 ≤ a ∧ a ≤ 31 then 0 else hP h1 a j := by
  simp only [vwH1, hP_pw, hP_new, hn_pw, hn_new, e, Nat.reduceAdd]
  (repeat' split) <;> first | rfl | (exfalso; omega) | omega
theorem vwH_P {h1 : xH} (e : hn h1 = 28) (a : Nat) (j : Int) : hP (vwH h1) a j = if a = 16 ∧ j = 0 then 17 else if a = 16 ∧ 2 ≤ j ∧ j ≤ 9 then 26 + j.toNat else if 28 ≤ a ∧ a ≤ 35 then 0 else hP h1 a j := by
  simp only [vwH, hP_pw, hP_new, hn_pw, hn_new, vwH1_n e, vwH1_P e, Nat.reduceAdd]
  (repeat' split) <;> first | rfl | (exfalso; omega) | omega
theorem vwZ_at {h1 : xH} (e : hn h1 = 28) (a : Nat) (j : Int) : vwZ M h1 a j = if 28 ≤ a ∧ a ≤ 35 then 0 else M a j := by
  simp only [vwZ, x_z_at, hn_pw, hn_new, e, Nat.reduceAdd]
  (repeat' split) <;> first | rfl | (exfalso; omega)
theorem cV_init (hr : hn h = 17) (hk : hK h 16 = 6) (k : ∀ M' h', (∀ a j, a < 16 → M' a j = M a j) → HE h h' 16 → hn h' = 36 → M' 16 1 = 0 → (M' 17 0 = 0 ∧ M' 17 1 = 0 ∧ M' 17 2 = 0) → (∀ j, 0 ≤ j → j < 41 → M' 24 j = -1) → (∀ j, 0 ≤ j → j < 10 → M' 25 j = -1 ∧ M' 26 j = -1) → scA h' 17 → (∀ a, 28 ≤ a → a < 36 → hK h' a = 20 ∧ hL h' a = 150 ∧ hP h' 16 ((a : Int) - 26) = a) → (hK h' 16 = 6 ∧ hP h' 16 0 = 17) → (∀ i, hP h' 27 i = 0) → Φ (.inl none) M' h') : x_Cal zV_init [xA 16] M h Φ := by
  refine x_met0 kV_init (Nat.le_of_ble_eq_true rfl) ?_
  simp only [wq_g3, wq_gc, wq_g, wq_g1, wq_g2, eV_init, iV_init_0, vV_init, wps, x_cnd, reduceIte, Nat.reduceAdd, Nat.reduceSub, Nat.reduceEqDiff, Nat.reduceLeDiff, Nat.lt_irrefl, Nat.reduceLT, Int.cast_ofNat_Int, wq_c0, wq_c1, true_and, and_true, and_self, true_implies, forall_const, ne_eq, Decidable.not_not, not_true_eq_false, not_false_eq_true, List.map_nil, List.map_cons, List.sum_nil, List.sum_cons, List.length_cons, List.length_nil, Nat.le_refl, Nat.zero_le, reduceCtorEq, true_or, or_true, false_or, or_false, false_and, and_false, false_implies, Nat.zero_add, Nat.add_zero, Int.reduceEq, Int.reduceNe, Int.reduceLT, Int.reduceLE, Int.reduceNeg, Int.reduceToNat, Nat.not_lt_zero, Int.reduceAdd, hk, hn_new, hn_pw, hr, hK_new, hK_pw, Nat.reduceAdd]
  refine ⟨by decide, by decide, cS_init (b := 17) (by simp only [hn_new, hr]) (by simp only [hK_new, hr, if_true]) (fun M1 h1 f1 z1 z2 z3 z4 A1 n1 e1 p1 => ?_)⟩
  have k2 : hK h1 16 = 6 := (e1 16 (by decide)).1.trans (by simp only [hK_new, hr]; exact hk)
  simp only [wq_g3, wq_gc, wq_g, wq_g1, wq_g2, eV_init, iV_init_0, vV_init, wps, x_cnd, reduceIte, Nat.reduceAdd, Nat.reduceSub, Nat.reduceEqDiff, Nat.reduceLeDiff, Nat.lt_irrefl, Nat.reduceLT, Int.cast_ofNat_Int, wq_c0, wq_c1, true_and, and_true, and_self, true_implies, forall_const, ne_eq, Decidable.not_not, not_true_eq_false, not_false_eq_true, List.map_nil, List.map_cons, List.sum_nil, List.sum_cons, List.length_cons, List.length_nil, Nat.le_refl, Nat.zero_le, reduceCtorEq, true_or, or_true, false_or, or_false, false_and, and_false, false_implies, Nat.zero_add, Nat.add_zero, Int.reduceEq, Int.reduceNe, Int.reduceLT, Int.reduceLE, Int.reduceNeg, Int.reduceToNat, Nat.not_lt_zero, Int.reduceAdd, k2, hn_new, hn_pw, n1, hK_new, hK_pw, Nat.reduceAdd]
  refine ⟨by decide, by decide, by decide, by decide, by decide, by decide, by decide, by decide, ?_⟩
  have L2 : ∀ a, a < 28 → hK (vwH h1) a = hK h1 a ∧ hL (vwH h1) a = hL h1 a := fun a h1 => by
    rw [vwH_K n1, vwH_L n1, if_neg (by omega), if_neg (by omega)]
    exact ⟨rfl, rfl⟩
  have P2 : ∀ a i, a < 28 → a ≠ 16 → hP (vwH h1) a i = hP h1 a i := fun a i h1 h0 => by
    rw [vwH_P n1, if_neg (by omega), if_neg (by omega), if_neg (by omega)]
  have Z2 : ∀ a j, a < 28 → ¬ (a = 16 ∧ j = 1) → vwZ (x_w M1 16 1 0) h1 a j = M1 a j := fun a j h1 h0 => by
    rw [vwZ_at n1, if_neg (by omega), x_w, if_neg h0]
  refine k (vwZ (x_w M1 16 1 0) h1) (vwH h1) (fun a j ha => ?_) (fun a ha => ⟨?_, ?_, fun i => ?_⟩) (vwH_n n1) ?_ ⟨?_, ?_, ?_⟩ (fun j h1 h2 => ?_) (fun j h1 h2 => ?_) ?_ (fun a h1 h2 => ?_) ⟨?_, ?_⟩ (fun i => ?_)
  · rw [Z2 a j (by omega) (by omega), f1 a j (by omega), x_z_at, hr, if_neg (by omega)]
  · rw [(L2 a (by omega)).1, (e1 a (by omega)).1, hK_new, hr, if_neg (by omega)]
  · rw [(L2 a (by omega)).2, (e1 a (by omega)).2.1, hL_new, hr, if_neg (by omega)]
  · rw [P2 a i (by omega) (by omega), (e1 a (by omega)).2.2 i, hP_new, hr, if_neg (by omega)]
  · rw [vwZ_at n1, if_neg (by decide), w_eq]
  · rw [Z2 17 0 (by decide) (by decide)]; exact z1.1
  · rw [Z2 17 1 (by decide) (by decide)]; exact z1.2.1
  · rw [Z2 17 2 (by decide) (by decide)]; exact z1.2.2
  · rw [Z2 24 j (by decide) (by omega)]; exact z3 j h1 h2
  · rw [Z2 25 j (by decide) (by omega), Z2 26 j (by decide) (by omega)]; exact z4 j h1 h2
  · unfold scA at A1 ⊢
    simp only [Nat.reduceAdd] at A1 ⊢
    rw [(L2 17 (by decide)).1, (L2 18 (by decide)).1, (L2 19 (by decide)).1, (L2 20 (by decide)).1, (L2 21 (by decide)).1, (L2 22 (by decide)).1, (L2 23 (by decide)).1, (L2 24 (by decide)).1, (L2 25 (by decide)).1, (L2 26 (by decide)).1, (L2 27 (by decide)).1, (L2 18 (by decide)).2, (L2 19 (by decide)).2, (L2 20 (by decide)).2, (L2 21 (by decide)).2, (L2 22 (by decide)).2, (L2 23 (by decide)).2, (L2 24 (by decide)).2, (L2 25 (by decide)).2, (L2 26 (by decide)).2, (L2 27 (by decide)).2]
    simp only [P2 17 _ (by decide) (by decide)]
    exact A1
  · rw [vwH_K n1, vwH_L n1, vwH_P n1, if_pos (by omega), if_pos (by omega), if_neg (by omega), if_pos (by omega)]
    exact ⟨rfl, rfl, by omega⟩
  · rw [(L2 16 (by decide)).1]
    exact k2
  · rw [vwH_P n1, if_pos (by decide)]
  · rw [P2 27 i (by decide) (by decide)]
    exact p1 i
end INIT
