/-! feed -/
/-- the j-th byte of a word, the high one first -/
def by4 (v : Int) (j : Nat) : Int := (x_shr v ((24 - 8 * j : Nat) : Int)) % 256
section FEED
variable {A : xAb} {M : xM} {h : xH} {Φ : xO → xM → xH → Prop} {S : xSr} {nid : Int}
set_option maxHeartbeats 1000000
theorem w8_w8 (x : Int) : w8 (w8 x) = w8 x := by
  unfold w8
  exact Int.bmod_bmod
theorem cR_append (F : Fx h) {n : Nat} {v : Int} (hn0 : M 2 3 = n) (hn1 : n + 4 ≤ 800) (k : ∀ M', M' 2 3 = ((n + 4 : Nat) : Int) → (∀ j : Nat, j < 4 → M' 14 ((n + j : Nat) : Int) = w8 (x_shr v ((24 - 8 * j : Nat) : Int))) → (∀ a i, ¬ (a = 2 ∧ i = 3) → ¬ (a = 14 ∧ (n : Int) ≤ i ∧ i < n + 4) → M' a i = M a i) → Φ (.inl none) M' h) : x_Cal zR_appendBytes [xA 2, xI v] M h Φ := by
  refine x_metI kR_appendBytes (Nat.le_of_ble_eq_true rfl) (fun t m ls st M' h' c n2 => t = 3 ∧ st = [] ∧ h' = h ∧ c = 0 ∧ n2 = 0 ∧ ls 0 = some (xA 2) ∧ ls 1 = some (xI v) ∧ ∃ p : Nat, p ≤ 4 ∧ m = 4 - p ∧ ls 2 = some (xI (24 - 8 * (p : Int))) ∧ M' 2 3 = ((n + p : Nat) : Int) ∧ (∀ j : Nat, j < p → M' 14 ((n + j : Nat) : Int) = w8 (x_shr v ((24 - 8 * j : Nat) : Int))) ∧ ∀ a i, ¬ (a = 2 ∧ i = 3) → ¬ (a = 14 ∧ (n : Int) ≤ i ∧ i < n + p) → M' a i = M a i) 20 ?_ ?_
  · simp only [wq_g3, wq_gc, wq_g, wq_g1, wq_g2, eR_appendBytes, iR_appendBytes_0, iR_appendBytes_3, iR_appendBytes_48, vR_appendBytes, wps, x_cnd, reduceIte, Nat.reduceAdd, Nat.reduceSub, Nat.reduceEqDiff, Nat.reduceLeDiff, Nat.lt_irrefl, Nat.reduceLT, Int.cast_ofNat_Int, wq_c0, wq_c1, true_and, and_true, and_self, true_implies, forall_const, ne_eq, Decidable.not_not, not_true_eq_false, not_false_eq_true, List.map_nil, List.map_cons, List.sum_nil, List.sum_cons, List.length_cons, List.length_nil, Nat.le_refl, Nat.zero_le, reduceCtorEq, true_or, or_true, false_or, or_false, false_and, and_false, false_implies, Nat.zero_add, Nat.add_zero, Int.reduceEq, Int.reduceNe, Int.reduceLT, Int.reduceLE, Int.reduceNeg, Int.reduceToNat, Nat.not_lt_zero, Int.reduceAdd, fxs F]
    exact ⟨4, 0, by omega, rfl, by simp, hn0, fun j hj => by omega, fun _ _ _ _ => trivial⟩
  · rintro t m ls st M' h' c n2 ⟨rfl, rfl, rfl, rfl, rfl, l0, l1, p, q1, q2, l2, e1, e2, e3⟩
    simp only [wq_g3, wq_gc, wq_g, wq_g1, wq_g2, eR_appendBytes, iR_appendBytes_0, iR_appendBytes_3, iR_appendBytes_48, vR_appendBytes, wps, x_cnd, reduceIte, Nat.reduceAdd, Nat.reduceSub, Nat.reduceEqDiff, Nat.reduceLeDiff, Nat.lt_irrefl, Nat.reduceLT, Int.cast_ofNat_Int, wq_c0, wq_c1, true_and, and_true, and_self, true_implies, forall_const, ne_eq, Decidable.not_not, not_true_eq_false, not_false_eq_true, List.map_nil, List.map_cons, List.sum_nil, List.sum_cons, List.length_cons, List.length_nil, Nat.le_refl, Nat.zero_le, reduceCtorEq, true_or, or_true, false_or, or_false, false_and, and_false, false_implies, Nat.zero_add, Nat.add_zero, Int.reduceEq, Int.reduceNe, Int.reduceLT, Int.reduceLE, Int.reduceNeg, Int.reduceToNat, Nat.not_lt_zero, Int.reduceAdd, fxs F, l0, l1, l2, e1]
    refine ⟨fun c0 => ?_, fun c0 => ⟨fun c1 => by omega, fun c1 => ⟨by omega, ?_⟩⟩⟩
    · have hp : p = 4 := by omega
      subst hp
      exact k M' e1 e2 e3
    · have e9 : ∀ v', x_w M' 14 ((n + p : Nat) : Int) v' 2 3 = ((n + p : Nat) : Int) := fun v' => (w_ne (by decide)).trans e1
      simp only [w8_w8, e9]
      simp (disch := omega) only [w32_of]
      refine ⟨4 - (p + 1), by omega, p + 1, by omega, rfl, by rw [show (24 : Int) - 8 * p + -8 = 24 - 8 * ((p + 1 : Nat) : Int) by omega], ?_, fun j hj => ?_, fun a i h1 h2 => ?_⟩
      · rw [w_eq]
        omega
      · rw [w_ne (by decide)]
        by_cases hjp : j = p
        · subst hjp
          rw [w_eq, show (24 : Int) - 8 * j = ((24 - 8 * j : Nat) : Int) by omega]
        · rw [w_nj (by omega)]
          exact e2 j (by omega)
      · unfold x_w
        rw [if_neg h1, if_neg (by omega)]
        exact e3 a i h1 (by omega)
def fdB (n : Nat) (B : Int → Int) (v : Int) : Int → Int := fun i => if (n : Int) ≤ i ∧ i < n + 4 then by4 v (i - n).toNat else B i
theorem w8_em (x : Int) : w8 (x % 256) = w8 x := by
  unfold w8
  exact Int.emod_bmod x 256
theorem cR_app {B : Int → Int} {e p : Int} (F : Fx h) {n : Nat} {v : Int} (R : RW n B e p M h) (hn1 : n + 4 ≤ 800) (k : ∀ M', RW (n + 4) (fdB n B v) e p M' h → (∀ a i, ¬ (a = 2 ∧ i = 3) → a ≠ 14 → M' a i = M a i) → Φ (.inl none) M' h) : x_Cal zR_appendBytes [xA 2, xI v] M h Φ := by
  obtain ⟨⟨r1, r2⟩, r3, r4, r5⟩ := R
  refine cR_append F r1 hn1 (fun M' e1 e2 e3 => k M' ⟨⟨e1, hn1⟩, ?_, fun i hi => ?_, r5⟩ (fun a i h1 h2 => e3 a i h1 (fun q => h2 q.1)))
  · rw [e3 2 1 (by omega) (by omega), e3 2 2 (by omega) (by omega)]
    exact r3
  · unfold fdB
    by_cases hc : i < n
    · rw [if_neg (by omega), e3 14 i (by omega) (by omega)]
      exact r4 i hc
    · rw [if_pos (by omega)]
      have e4 := e2 (i - n) (by omega)
      rw [show n + (i - n) = i by omega] at e4
      rw [show ((i : Int) - n).toNat = i - n by omega, e4]
      unfold by4
      rw [w8_em]
      exact ⟨rfl, Int.emod_nonneg _ (by decide), Int.emod_lt_of_pos _ (by decide)⟩
def dFeed (A : xAb) (v1 v2 v3 v4 v5 : Int) : xAn × xAb :=
  if 800 < aN A + 20 then (.inr 0, A)
  else (.inl ((aN A + 20 : Nat) : Int), (aS A, aI A, aH A, aG A, aN A + 20, fdB (aN A + 16) (fdB (aN A + 12) (fdB (aN A + 8) (fdB (aN A + 4) (fdB (aN A) (aB A) v1) v2) v3) v4) v5, aE A, aP A, aO A))
theorem cP_feed (C : CW A M h) {v1 v2 v3 v4 v5 : Int} (k : ∀ M' h', CW (dFeed A v1 v2 v3 v4 v5).2 M' h' → Fr M h M' h' → Φ (xo (dFeed A v1 v2 v3 v4 v5).1) M' h') : x_Cal zP_feed [xA 1, xI v1, xI v2, xI v3, xI v4, xI v5] M h Φ := by
  obtain ⟨⟨r1, r2⟩, r3, r4, r5⟩ := C.r
  have n58 := C.F.n
  unfold dFeed at k
  refine x_met0 kP_feed (Nat.le_of_ble_eq_true rfl) ?_
  simp only [wq_g3, wq_gc, wq_g, wq_g1, wq_g2, eP_feed, iP_feed_0, iP_feed_24, vP_feed, wps, x_cnd, reduceIte, Nat.reduceAdd, Nat.reduceSub, Nat.reduceEqDiff, Nat.reduceLeDiff, Nat.lt_irrefl, Nat.reduceLT, Int.cast_ofNat_Int, wq_c0, wq_c1, true_and, and_true, and_self, true_implies, forall_const, ne_eq, Decidable.not_not, not_true_eq_false, not_false_eq_true, List.map_nil, List.map_cons, List.sum_nil, List.sum_cons, List.length_cons, List.length_nil, Nat.le_refl, Nat.zero_le, reduceCtorEq, true_or, or_true, false_or, or_false, false_and, and_false, false_implies, Nat.zero_add, Nat.add_zero, Int.reduceEq, Int.reduceNe, Int.reduceLT, Int.reduceLE, Int.reduceNeg, Int.reduceToNat, Nat.not_lt_zero, Int.reduceAdd, fxs C.F, r1]
  simp (disch := omega) only [w32_of]
  refine ⟨fun c0 => ?_, fun c0 => ?_⟩
  · rw [if_neg (by omega)] at k
    refine cR_app C.F C.r (by omega) (fun M1 R1 f1 => ?_)
    simp only [wq_g3, wq_gc, wq_g, wq_g1, wq_g2, eP_feed, iP_feed_0, iP_feed_24, vP_feed, wps, x_cnd, reduceIte, Nat.reduceAdd, Nat.reduceSub, Nat.reduceEqDiff, Nat.reduceLeDiff, Nat.lt_irrefl, Nat.reduceLT, Int.cast_ofNat_Int, wq_c0, wq_c1, true_and, and_true, and_self, true_implies, forall_const, ne_eq, Decidable.not_not, not_true_eq_false, not_false_eq_true, List.map_nil, List.map_cons, List.sum_nil, List.sum_cons, List.length_cons, List.length_nil, Nat.le_refl, Nat.zero_le, reduceCtorEq, true_or, or_true, false_or, or_false, false_and, and_false, false_implies, Nat.zero_add, Nat.add_zero, Int.reduceEq, Int.reduceNe, Int.reduceLT, Int.reduceLE, Int.reduceNeg, Int.reduceToNat, Nat.not_lt_zero, Int.reduceAdd, fxs C.F]
    refine cR_app C.F R1 (by omega) (fun M2 R2 f2 => ?_)
    simp only [wq_g3, wq_gc, wq_g, wq_g1, wq_g2, eP_feed, iP_feed_0, iP_feed_24, vP_feed, wps, x_cnd, reduceIte, Nat.reduceAdd, Nat.reduceSub, Nat.reduceEqDiff, Nat.reduceLeDiff, Nat.lt_irrefl, Nat.reduceLT, Int.cast_ofNat_Int, wq_c0, wq_c1, true_and, and_true, and_self, true_implies, forall_const, ne_eq, Decidable.not_not, not_true_eq_false, not_false_eq_true, List.map_nil, List.map_cons, List.sum_nil, List.sum_cons, List.length_cons, List.length_nil, Nat.le_refl, Nat.zero_le, reduceCtorEq, true_or, or_true, false_or, or_false, false_and, and_false, false_implies, Nat.zero_add, Nat.add_zero, Int.reduceEq, Int.reduceNe, Int.reduceLT, Int.reduceLE, Int.reduceNeg, Int.reduceToNat, Nat.not_lt_zero, Int.reduceAdd, fxs C.F]
    refine cR_app C.F R2 (by omega) (fun M3 R3 f3 => ?_)
    simp only [wq_g3, wq_gc, wq_g, wq_g1, wq_g2, eP_feed, iP_feed_0, iP_feed_24, vP_feed, wps, x_cnd, reduceIte, Nat.reduceAdd, Nat.reduceSub, Nat.reduceEqDiff, Nat.reduceLeDiff, Nat.lt_irrefl, Nat.reduceLT, Int.cast_ofNat_Int, wq_c0, wq_c1, true_and, and_true, and_self, true_implies, forall_const, ne_eq, Decidable.not_not, not_true_eq_false, not_false_eq_true, List.map_nil, List.map_cons, List.sum_nil, List.sum_cons, List.length_cons, List.length_nil, Nat.le_refl, Nat.zero_le, reduceCtorEq, true_or, or_true, false_or, or_false, false_and, and_false, false_implies, Nat.zero_add, Nat.add_zero, Int.reduceEq, Int.reduceNe, Int.reduceLT, Int.reduceLE, Int.reduceNeg, Int.reduceToNat, Nat.not_lt_zero, Int.reduceAdd, fxs C.F]
    refine cR_app C.F R3 (by omega) (fun M4 R4 f4 => ?_)
    simp only [wq_g3, wq_gc, wq_g, wq_g1, wq_g2, eP_feed, iP_feed_0, iP_feed_24, vP_feed, wps, x_cnd, reduceIte, Nat.reduceAdd, Nat.reduceSub, Nat.reduceEqDiff, Nat.reduceLeDiff, Nat.lt_irrefl, Nat.reduceLT, Int.cast_ofNat_Int, wq_c0, wq_c1, true_and, and_true, and_self, true_implies, forall_const, ne_eq, Decidable.not_not, not_true_eq_false, not_false_eq_true, List.map_nil, List.map_cons, List.sum_nil, List.sum_cons, List.length_cons, List.length_nil, Nat.le_refl, Nat.zero_le, reduceCtorEq, true_or, or_true, false_or, or_false, false_and, and_false, false_implies, Nat.zero_add, Nat.add_zero, Int.reduceEq, Int.reduceNe, Int.reduceLT, Int.reduceLE, Int.reduceNeg, Int.reduceToNat, Nat.not_lt_zero, Int.reduceAdd, fxs C.F]
    refine cR_app C.F R4 (by omega) (fun M5 R5 f5 => ?_)
    have e := R5.1.1
    simp only [wq_g3, wq_gc, wq_g, wq_g1, wq_g2, eP_feed, iP_feed_0, iP_feed_24, vP_feed, wps, x_cnd, reduceIte, Nat.reduceAdd, Nat.reduceSub, Nat.reduceEqDiff, Nat.reduceLeDiff, Nat.lt_irrefl, Nat.reduceLT, Int.cast_ofNat_Int, wq_c0, wq_c1, true_and, and_true, and_self, true_implies, forall_const, ne_eq, Decidable.not_not, not_true_eq_false, not_false_eq_true, List.map_nil, List.map_cons, List.sum_nil, List.sum_cons, List.length_cons, List.length_nil, Nat.le_refl, Nat.zero_le, reduceCtorEq, true_or, or_true, false_or, or_false, false_and, and_false, false_implies, Nat.zero_add, Nat.add_zero, Int.reduceEq, Int.reduceNe, Int.reduceLT, Int.reduceLE, Int.reduceNeg, Int.reduceToNat, Nat.not_lt_zero, Int.reduceAdd, fxs C.F, e]
    have f : ∀ a i, a ≠ 2 → a ≠ 14 → M5 a i = M a i := fun a i h1 h2 => by rw [f5 a i (by omega) h2, f4 a i (by omega) h2, f3 a i (by omega) h2, f2 a i (by omega) h2, f1 a i (by omega) h2]
    refine k M5 h ⟨C.F, C.R.frame (fun a j ha => f a j (by omega) (by omega)), C.w, C.V.frame (fun a j ha => f a j (by omega) (by omega)), HW.mv C.H (Int.le_refl _) (by omega) (fun _ _ => ⟨rfl, rfl⟩) (Nat.le_refl _) (fun _ _ _ _ => rfl) (fun a j _ h2 => f a j (by omega) (by omega)), ?_, R5, ?_, C.o.2.1, fun i hi => ?_⟩ ⟨fun a j z1 z2 => f a j (by omega) (by omega), Nat.le_refl _⟩
    · rw [f 1 6 (by omega) (by omega)]
      exact C.i
    · rw [f 39 1 (by omega) (by omega)]
      exact C.o.1
    · rw [f 40 i (by omega) (by omega)]
      exact C.o.2.2 i hi
  · rw [if_pos (by omega)] at k
    exact k M h C ⟨fun _ _ _ _ => rfl, Nat.le_refl _⟩
end FEED
