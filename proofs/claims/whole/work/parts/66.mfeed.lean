/-! the model's feed -/
section MFEED
variable {A : xAb} {M M' : xM} {h : xH} {Φ : xO → xM → xH → Prop} {S : xSr} {nid : Int}
set_option maxHeartbeats 1000000
theorem x_and_255 {a : Int} (h : x_i32 a) : x_and a 255 = a % 256 := by
  unfold x_i32 at h
  have e : a % 256 = ((a % 256).toNat : Int) := by omega
  rw [e]
  unfold x_and
  show ((Int32.ofInt a).toBitVec &&& (Int32.ofInt 255).toBitVec : BitVec 32).toInt = _
  refine i32_ofbv ?_ (by omega)
  rw [BitVec.toNat_and]
  show (BitVec.ofInt 32 a).toNat &&& 255 = _
  rw [BitVec.toNat_ofInt, show (255 : Nat) = 2 ^ 8 - 1 from rfl, Nat.and_two_pow_sub_one_eq_mod]
  omega
theorem shr_32 {v : Int} (h : x_i32 v) {k : Nat} (hk : k = 24 ∨ k = 16 ∨ k = 8 ∨ k = 0) : x_i32 (x_shr v k) := by
  rw [x_shr_int (by omega) h]
  unfold x_i32 at h ⊢
  rcases hk with rfl | rfl | rfl | rfl
  · rw [show ((2 ^ 24 : Nat) : Int) = 16777216 from rfl]; omega
  · rw [show ((2 ^ 16 : Nat) : Int) = 65536 from rfl]; omega
  · rw [show ((2 ^ 8 : Nat) : Int) = 256 from rfl]; omega
  · rw [show ((2 ^ 0 : Nat) : Int) = 1 from rfl]; omega
theorem cM_lays (F : Fx h) {n : Nat} {B : Int → Int} {v : Int} (hv : x_i32 v) (e0 : M 41 8 = n) (hn : n + 4 ≤ 800) (hB : ∀ i : Nat, i < n → M 46 i = B i ∧ 0 ≤ B i ∧ B i < 256) (k : ∀ M', M' 41 8 = ((n + 4 : Nat) : Int) → (∀ i : Nat, i < n + 4 → M' 46 i = fdB n B v i ∧ 0 ≤ fdB n B v i ∧ fdB n B v i < 256) → (∀ a j, a ≠ 46 → ¬ (a = 41 ∧ j = 8) → M' a j = M a j) → Φ (.inl none) M' h) : x_Cal zM_lays [xA 41, xI v] M h Φ := by
  refine x_metI kM_lays (Nat.le_of_ble_eq_true rfl) (fun t m ls st M' h' c2 n2 => t = 3 ∧ st = [] ∧ h' = h ∧ c2 = 0 ∧ n2 = 0 ∧ ls 0 = some (xA 41) ∧ ls 1 = some (xI v) ∧ ∃ p : Nat, p ≤ 4 ∧ m = 4 - p ∧ ls 2 = some (xI (24 - 8 * (p : Int))) ∧ M' 41 8 = ((n + p : Nat) : Int) ∧ (∀ i : Nat, i < n + p → M' 46 i = fdB n B v i) ∧ ∀ a j, a ≠ 46 → ¬ (a = 41 ∧ j = 8) → M' a j = M a j) 20 ?_ ?_
  · simp only [wq_g3, wq_gc, wq_g, wq_g1, wq_g2, eM_lays, iM_lays_0, iM_lays_3, iM_lays_41, vM_lays, wps, x_cnd, reduceIte, Nat.reduceAdd, Nat.reduceSub, Nat.reduceEqDiff, Nat.reduceLeDiff, Nat.lt_irrefl, Nat.reduceLT, Int.cast_ofNat_Int, wq_c0, wq_c1, true_and, and_true, and_self, true_implies, forall_const, ne_eq, Decidable.not_not, not_true_eq_false, not_false_eq_true, List.map_nil, List.map_cons, List.sum_nil, List.sum_cons, List.length_cons, List.length_nil, Nat.le_refl, Nat.zero_le, reduceCtorEq, true_or, or_true, false_or, or_false, false_and, and_false, false_implies, Nat.zero_add, Nat.add_zero, Int.reduceEq, Int.reduceNe, Int.reduceLT, Int.reduceLE, Int.reduceNeg, Int.reduceToNat, Nat.not_lt_zero, Int.reduceAdd, fxs F]
    refine ⟨4 - 0, 0, by omega, rfl, by simp, e0, fun i hi => ?_, fun _ _ _ _ => trivial⟩
    unfold fdB
    rw [if_neg (by omega)]
    exact (hB i hi).1
  · rintro t m ls st M1 h' c2 n2 ⟨rfl, rfl, rfl, rfl, rfl, l0, l1, p, q1, q2, l2, y1, y2, y3⟩
    simp only [wq_g3, wq_gc, wq_g, wq_g1, wq_g2, eM_lays, iM_lays_0, iM_lays_3, iM_lays_41, vM_lays, wps, x_cnd, reduceIte, Nat.reduceAdd, Nat.reduceSub, Nat.reduceEqDiff, Nat.reduceLeDiff, Nat.lt_irrefl, Nat.reduceLT, Int.cast_ofNat_Int, wq_c0, wq_c1, true_and, and_true, and_self, true_implies, forall_const, ne_eq, Decidable.not_not, not_true_eq_false, not_false_eq_true, List.map_nil, List.map_cons, List.sum_nil, List.sum_cons, List.length_cons, List.length_nil, Nat.le_refl, Nat.zero_le, reduceCtorEq, true_or, or_true, false_or, or_false, false_and, and_false, false_implies, Nat.zero_add, Nat.add_zero, Int.reduceEq, Int.reduceNe, Int.reduceLT, Int.reduceLE, Int.reduceNeg, Int.reduceToNat, Nat.not_lt_zero, Int.reduceAdd, fxs F, l0, l1, l2, y1]
    refine ⟨fun c0 => ?_, fun c0 => ⟨by omega, ?_⟩⟩
    · have hp : p = 4 := by omega
      subst hp
      refine k M1 y1 (fun i hi => ⟨y2 i hi, ?_⟩) y3
      unfold fdB
      by_cases hi2 : (n : Int) ≤ i ∧ (i : Int) < n + 4
      · rw [if_pos hi2]
        unfold by4
        omega
      · rw [if_neg hi2]
        exact (hB i (by omega)).2
    · simp (disch := decide) only [w_ne, w_eq, w_nj]
      rw [y1]
      have hk4 : ((24 - 8 * p : Nat) = 24 ∨ (24 - 8 * p : Nat) = 16 ∨ (24 - 8 * p : Nat) = 8 ∨ (24 - 8 * p : Nat) = 0) := by omega
      have hby : x_and (x_shr v (24 - 8 * (p : Int))) 255 = by4 v p := by
        rw [show (24 : Int) - 8 * p = ((24 - 8 * p : Nat) : Int) by omega, x_and_255 (shr_32 hv hk4)]
        rfl
      rw [hby]
      simp (disch := omega) only [w32_of]
      refine ⟨4 - (p + 1), by omega, p + 1, by omega, rfl, congrArg (fun z => some (xI z)) (by omega), by omega, fun i hi => ?_, fun a j h1 h2 => (if_neg h2).trans ((w_ne h1).trans (y3 a j h1 h2))⟩
      by_cases hip : i = n + p
      · subst hip
        rw [w_eq]
        unfold fdB
        rw [if_pos (by omega), show (((n + p : Nat) : Int) - n).toNat = p by omega]
      · rw [w_nj (by omega)]
        exact y2 i (by omega)
theorem cM_feed (W : MW A M h) {v1 v2 v3 v4 v5 : Int} (h1 : x_i32 v1) (h2 : x_i32 v2) (h3 : x_i32 v3) (h4 : x_i32 v4) (h5 : x_i32 v5) (k : ∀ u M', MW (dFeed A v1 v2 v3 v4 v5).2 M' h → FM M M' → MA (xk [0]) (dFeed A v1 v2 v3 v4 v5).1 u M' → Φ (.inl (some (xI u))) M' h) : x_Cal zM_feed [xA 41, xI v1, xI v2, xI v3, xI v4, xI v5] M h Φ := by
  have F := W.F
  have W0 := W
  obtain ⟨w1, w2, w3, w4, w5, ⟨f1, f2, f3, f4, f5⟩, w7⟩ := W
  unfold dFeed at k
  refine x_met0 kM_feed (Nat.le_of_ble_eq_true rfl) ?_
  simp only [wq_g3, wq_gc, wq_g, wq_g1, wq_g2, eM_feed, iM_feed_0, iM_feed_24, vM_feed, wps, x_cnd, reduceIte, Nat.reduceAdd, Nat.reduceSub, Nat.reduceEqDiff, Nat.reduceLeDiff, Nat.lt_irrefl, Nat.reduceLT, Int.cast_ofNat_Int, wq_c0, wq_c1, true_and, and_true, and_self, true_implies, forall_const, ne_eq, Decidable.not_not, not_true_eq_false, not_false_eq_true, List.map_nil, List.map_cons, List.sum_nil, List.sum_cons, List.length_cons, List.length_nil, Nat.le_refl, Nat.zero_le, reduceCtorEq, true_or, or_true, false_or, or_false, false_and, and_false, false_implies, Nat.zero_add, Nat.add_zero, Int.reduceEq, Int.reduceNe, Int.reduceLT, Int.reduceLE, Int.reduceNeg, Int.reduceToNat, Nat.not_lt_zero, Int.reduceAdd, fxs F]
  simp (disch := decide) only [w_ne, w_eq, w_nj]
  rw [f1]
  simp (disch := omega) only [w32_of]
  refine ⟨fun c0 => ?_, fun c0 => ?_⟩
  · rw [if_neg (by omega)] at k
    have e0 : x_w M 41 0 0 41 8 = aN A := (w_nj (by decide)).trans f1
    refine cM_lays F h1 (n := aN A) (B := aB A) e0 (by omega) (fun i hi => ⟨(w_ne (by decide)).trans (f3 i hi).1, (f3 i hi).2⟩) (fun M1 a1 b1 g1 => ?_)
    simp only [wq_g3, wq_gc, wq_g, wq_g1, wq_g2, eM_feed, iM_feed_0, iM_feed_24, vM_feed, wps, x_cnd, reduceIte, Nat.reduceAdd, Nat.reduceSub, Nat.reduceEqDiff, Nat.reduceLeDiff, Nat.lt_irrefl, Nat.reduceLT, Int.cast_ofNat_Int, wq_c0, wq_c1, true_and, and_true, and_self, true_implies, forall_const, ne_eq, Decidable.not_not, not_true_eq_false, not_false_eq_true, List.map_nil, List.map_cons, List.sum_nil, List.sum_cons, List.length_cons, List.length_nil, Nat.le_refl, Nat.zero_le, reduceCtorEq, true_or, or_true, false_or, or_false, false_and, and_false, false_implies, Nat.zero_add, Nat.add_zero, Int.reduceEq, Int.reduceNe, Int.reduceLT, Int.reduceLE, Int.reduceNeg, Int.reduceToNat, Nat.not_lt_zero, Int.reduceAdd, fxs F]
    refine cM_lays F h2 (n := aN A + 4) (B := fdB (aN A) (aB A) v1) a1 (by omega) b1 (fun M2 a2 b2 g2 => ?_)
    simp only [wq_g3, wq_gc, wq_g, wq_g1, wq_g2, eM_feed, iM_feed_0, iM_feed_24, vM_feed, wps, x_cnd, reduceIte, Nat.reduceAdd, Nat.reduceSub, Nat.reduceEqDiff, Nat.reduceLeDiff, Nat.lt_irrefl, Nat.reduceLT, Int.cast_ofNat_Int, wq_c0, wq_c1, true_and, and_true, and_self, true_implies, forall_const, ne_eq, Decidable.not_not, not_true_eq_false, not_false_eq_true, List.map_nil, List.map_cons, List.sum_nil, List.sum_cons, List.length_cons, List.length_nil, Nat.le_refl, Nat.zero_le, reduceCtorEq, true_or, or_true, false_or, or_false, false_and, and_false, false_implies, Nat.zero_add, Nat.add_zero, Int.reduceEq, Int.reduceNe, Int.reduceLT, Int.reduceLE, Int.reduceNeg, Int.reduceToNat, Nat.not_lt_zero, Int.reduceAdd, fxs F]
    refine cM_lays F h3 (n := aN A + 8) (B := fdB (aN A + 4) (fdB (aN A) (aB A) v1) v2) a2 (by omega) b2 (fun M3 a3 b3 g3 => ?_)
    simp only [wq_g3, wq_gc, wq_g, wq_g1, wq_g2, eM_feed, iM_feed_0, iM_feed_24, vM_feed, wps, x_cnd, reduceIte, Nat.reduceAdd, Nat.reduceSub, Nat.reduceEqDiff, Nat.reduceLeDiff, Nat.lt_irrefl, Nat.reduceLT, Int.cast_ofNat_Int, wq_c0, wq_c1, true_and, and_true, and_self, true_implies, forall_const, ne_eq, Decidable.not_not, not_true_eq_false, not_false_eq_true, List.map_nil, List.map_cons, List.sum_nil, List.sum_cons, List.length_cons, List.length_nil, Nat.le_refl, Nat.zero_le, reduceCtorEq, true_or, or_true, false_or, or_false, false_and, and_false, false_implies, Nat.zero_add, Nat.add_zero, Int.reduceEq, Int.reduceNe, Int.reduceLT, Int.reduceLE, Int.reduceNeg, Int.reduceToNat, Nat.not_lt_zero, Int.reduceAdd, fxs F]
    refine cM_lays F h4 (n := aN A + 12) (B := fdB (aN A + 8) (fdB (aN A + 4) (fdB (aN A) (aB A) v1) v2) v3) a3 (by omega) b3 (fun M4 a4 b4 g4 => ?_)
    simp only [wq_g3, wq_gc, wq_g, wq_g1, wq_g2, eM_feed, iM_feed_0, iM_feed_24, vM_feed, wps, x_cnd, reduceIte, Nat.reduceAdd, Nat.reduceSub, Nat.reduceEqDiff, Nat.reduceLeDiff, Nat.lt_irrefl, Nat.reduceLT, Int.cast_ofNat_Int, wq_c0, wq_c1, true_and, and_true, and_self, true_implies, forall_const, ne_eq, Decidable.not_not, not_true_eq_false, not_false_eq_true, List.map_nil, List.map_cons, List.sum_nil, List.sum_cons, List.length_cons, List.length_nil, Nat.le_refl, Nat.zero_le, reduceCtorEq, true_or, or_true, false_or, or_false, false_and, and_false, false_implies, Nat.zero_add, Nat.add_zero, Int.reduceEq, Int.reduceNe, Int.reduceLT, Int.reduceLE, Int.reduceNeg, Int.reduceToNat, Nat.not_lt_zero, Int.reduceAdd, fxs F]
    refine cM_lays F h5 (n := aN A + 16) (B := fdB (aN A + 12) (fdB (aN A + 8) (fdB (aN A + 4) (fdB (aN A) (aB A) v1) v2) v3) v4) a4 (by omega) b4 (fun M5 a5 b5 g5 => ?_)
    simp only [wq_g3, wq_gc, wq_g, wq_g1, wq_g2, eM_feed, iM_feed_0, iM_feed_24, vM_feed, wps, x_cnd, reduceIte, Nat.reduceAdd, Nat.reduceSub, Nat.reduceEqDiff, Nat.reduceLeDiff, Nat.lt_irrefl, Nat.reduceLT, Int.cast_ofNat_Int, wq_c0, wq_c1, true_and, and_true, and_self, true_implies, forall_const, ne_eq, Decidable.not_not, not_true_eq_false, not_false_eq_true, List.map_nil, List.map_cons, List.sum_nil, List.sum_cons, List.length_cons, List.length_nil, Nat.le_refl, Nat.zero_le, reduceCtorEq, true_or, or_true, false_or, or_false, false_and, and_false, false_implies, Nat.zero_add, Nat.add_zero, Int.reduceEq, Int.reduceNe, Int.reduceLT, Int.reduceLE, Int.reduceNeg, Int.reduceToNat, Nat.not_lt_zero, Int.reduceAdd, fxs F, a5]
    have g : ∀ a j, a ≠ 46 → ¬ (a = 41 ∧ j = 8) → ¬ (a = 41 ∧ j = 0) → M5 a j = M a j := fun a j z1 z2 z3 => by rw [g5 a j z1 z2, g4 a j z1 z2, g3 a j z1 z2, g2 a j z1 z2, g1 a j z1 z2, x_w, if_neg z3]
    have e42 : M5 42 = M 42 := funext (fun j => g 42 j (by decide) (by omega) (by omega))
    have e44 : M5 44 = M 44 := funext (fun j => g 44 j (by decide) (by omega) (by omega))
    refine k _ M5 ⟨F, by rw [e42]; exact w2, w3, ⟨(g 41 5 (by decide) (by decide) (by decide)).trans w4.1, w4.2.1, fun i hi => ?_⟩, ⟨(g 41 6 (by decide) (by decide) (by decide)).trans w5.1, w5.2⟩, ⟨a5, by show aN A + 20 ≤ 800; omega, b5, (g 41 15 (by decide) (by decide) (by decide)).trans f4, (g 41 16 (by decide) (by decide) (by decide)).trans f5⟩, (g 41 33 (by decide) (by decide) (by decide)).trans w7.1, w7.2.1, fun i hi => (g 56 i (by decide) (by omega) (by omega)).trans (w7.2.2 i hi)⟩ (fun a j ha => g a j (by omega) (by omega) (by omega)) (ma_v ?_ rfl)
    · rw [e44]
      exact w4.2.2 i hi
    · rw [g5 41 0 (by decide) (by decide), g4 41 0 (by decide) (by decide), g3 41 0 (by decide) (by decide), g2 41 0 (by decide) (by decide), g1 41 0 (by decide) (by decide), w_eq]
  · rw [if_pos (by omega)] at k
    refine cM_refuse F ?_
    simp only [wq_g3, wq_gc, wq_g, wq_g1, wq_g2, eM_feed, iM_feed_0, iM_feed_24, vM_feed, wps, x_cnd, reduceIte, Nat.reduceAdd, Nat.reduceSub, Nat.reduceEqDiff, Nat.reduceLeDiff, Nat.lt_irrefl, Nat.reduceLT, Int.cast_ofNat_Int, wq_c0, wq_c1, true_and, and_true, and_self, true_implies, forall_const, ne_eq, Decidable.not_not, not_true_eq_false, not_false_eq_true, List.map_nil, List.map_cons, List.sum_nil, List.sum_cons, List.length_cons, List.length_nil, Nat.le_refl, Nat.zero_le, reduceCtorEq, true_or, or_true, false_or, or_false, false_and, and_false, false_implies, Nat.zero_add, Nat.add_zero, Int.reduceEq, Int.reduceNe, Int.reduceLT, Int.reduceLE, Int.reduceNeg, Int.reduceToNat, Nat.not_lt_zero, Int.reduceAdd, fxs F]
    exact k _ _ (MW.thr (MW.thr W0)) ((FM.r.w (by decide)).w (by decide)) (ma_e w_eq rfl rfl)
end MFEED
