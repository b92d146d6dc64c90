/-! feed -/
/-- the j-th byte of a word, the high one first -/
def by4 (v : Int) (j : Nat) : Int := (x_shr v ((24 - 8 * j : Nat) : Int)) % 256
section FEED
variable {A : xAb} {M : xM} {h : xH} {Φ : xO → xM → xH → Prop} {S : xSr} {nid : Int}
set_option maxHeartbeats 1000000
theorem w8_w8 (x : Int) : w8 (w8 x) = w8 x := by
  unfold w8
  exact Int.bmod_bmod
theorem cR_append (F : Fx h) {n : Nat} {v : Int} (hn0 : M 2 3 = n) (hn1 : n + 4 ≤ 800) (k : ∀ M', M' 2 3 = ((n + 4 : Nat) : Int) → (∀ j : Nat, j < 4 → M' 14 ((n + j : Nat) : Int) = w8 (x_shr v ((24 - 8 * j : Nat) : Int))) → (∀ a i, ¬ (a = 2 ∧ i = 3) → ¬ (a = 14 ∧ (n : Int) ≤ i ∧ i < n + 4) → M' a i = M a i) → Φ (.inl none) M' h) : x_Cal zR_appendBytes [xA 2, xI v] M h Φ := by
  refine x_metI kR_appendBytes (Nat.le_of_ble_eq_true rfl) (fun t m ls st M' h' c n2 => t = 3 ∧ st = [] ∧ h' = h ∧ c = 0 ∧ n2 = 0 ∧ ls 0 = some (xA 2) ∧ ls 1 = some (xI v) ∧ ∃ p : Nat, p ≤ 4 ∧ m = 4 - p ∧ ls 2 = some (xI (24 - 8 * (p : Int))) ∧ M' 2 3 = ((n + p : Nat) : Int) ∧ (∀ j : Nat, j < p → M' 14 ((n + j : Nat) : Int) = w8 (x_shr v ((24 - 8 * j : Nat) : Int))) ∧ ∀ a i, ¬ (a = 2 ∧ i = 3) → ¬ (a = 14 ∧ (n : Int) ≤ i ∧ i < n + p) → M' a i = M a i) 20 ?_ ?_
  · simp only [wq_g3, wq_gc, wq_g, wq_g1, wq_g2, eR_appendBytes, iR_appendBytes_0, iR_appendBytes_3, iR_appendBytes_48, vR_appendBytes, wps, x_cnd, reduceIte, Nat.reduceAdd, Nat.reduceSub, Nat.reduceEqDiff, Nat.reduceLeDiff, Nat.lt_irrefl, Nat.reduceLT, Int.cast_ofNat_Int, wq_c0, wq_c1, true_and, and_true, and_self, true_implies, forall_const, ne_eq, Decidable.not_not, not_true_eq_false, not_false_eq_true, List.map_nil, List.map_cons, List.sum_nil, List.sum_cons, List.length_cons, List.length_nil, Nat.le_refl, Nat.zero_le, reduceCtorEq, true_or, or_true, false_or, or_false, false_and, and_false, false_implies, Nat.zero_add, Nat.add_zero, Int.reduceEq, Int.reduceNe, Int.reduceLT, Int.reduceLE, Int.reduceNeg, Int.reduceToNat, Nat.not_lt_zero, Int.reduceAdd, fxs F]
    exact ⟨4, 0, by omega, rfl, by simp, hn0, fun j hj => by omega, fun _ _ _ _ => trivial⟩
  · rintro t m ls st M' h' c n2 ⟨rfl, rfl, rfl, rfl, rfl, l0, l1, p, q1, q2, l2, e1, e2, e3⟩
    simp only [wq_g3, wq_gc, wq_g, wq_g1, wq_g2, eR_appendBytes, iR_appendBytes_0, iR_appendBytes_3, iR_appendBytes_48, vR_appendBytes, wps, x_cnd, reduceIte, Nat.reduceAdd, Nat.reduceSub, Nat.reduceEqDiff, Nat.reduceLeDiff, Nat.lt_irrefl, Nat.reduceLT, Int.cast_ofNat_Int, wq_c0, wq_c1, true_and, and_true, and_self, true_implies, forall_const, ne_eq, Decidable.not_not, not_true_eq_false, not_false_eq_true, List.map_nil, List.map_cons, List.sum_nil, List.sum_cons, List.length_cons, List.length_nil, Nat.le_refl, Nat.zero_le, reduceCtorEq, true_or, or_true, false_or, or_false, false_and, and_false, false_implies, Nat.zero_add, Nat.add_zero, Int.reduceEq, Int.reduceNe, Int.reduceLT, Int.reduceLE, Int.reduceNeg, Int.reduceToNat, Nat.not_lt_zero, Int.reduceAdd, fxs F, l0, l1, l2, e1]
    refine ⟨fun c0 => ?_, fun c0 => ⟨fun c1 => by omega, fun c1 => ⟨by omega, ?_⟩⟩⟩
    · have hp : p = 4 := by omega
      subst hp
      exact k M' e1 e2 e3
    · have e9 : ∀ v', x_w M' 14 ((n + p : Nat) : Int) v' 2 3 = ((n + p : Nat) : Int) := fun v' => (w_ne (by decide)).trans e1
      simp only [w8_w8, e9]
      simp (disch := omega) only [w32_of]
      refine ⟨4 - (p + 1), by omega, p + 1, by omega, rfl, by rw [show (24 : Int) - 8 * p + -8 = 24 - 8 * ((p + 1 : Nat) : Int) by omega], ?_, fun j hj => ?_, fun a i h1 h2 => ?_⟩
      · rw [w_eq]
        omega
      · rw [w_ne (by decide)]
        by_cases hjp : j = p
        · subst hjp
          rw [w_eq, show (24 : Int) - 8 * j = ((24 - 8 * j : Nat) : Int) by omega]
        · rw [w_nj (by omega)]
          exact e2 j (by omega)
      · unfold x_w
        rw [if_neg h1, if_neg (by omega)]
        exact e3 a i h1 (by omega)
def fdB (n : Nat) (B : Int → Int) (v : Int) : Int → Int := fun i => if (n : Int) ≤ i ∧ i < n + 4 then by4 v (i - n).toNat else B i
theorem w8_em (x : Int) : w8 (x % 256) = w8 x := by
  unfold w8
  exact Int.emod_bmod x 256
theorem cR_app {B : Int → Int} {e p : Int} (F : Fx h) {n : Nat} {v : Int} (R : RW n B e p M h) (hn1 : n + 4 ≤ 800) (k : ∀ M', RW (n + 4) (fdB n B v) e p M' h → (∀ a i, ¬ (a = 2 ∧ i = 3) → a ≠ 14 → M' a i = M a i) → Φ (.inl none) M' h) : x_Cal zR_appendBytes [xA 2, xI v] M h Φ := by
  obtain ⟨⟨r1, r2⟩, r3, r4, r5⟩ := R
  refine cR_append F r1 hn1 (fun M' e1 e2 e3 => k M' ⟨⟨e1, hn1⟩, ?_, fun i hi => ?_, r5⟩ (fun a i h1 h2 => e3 a i h1 (fun q => h2 q.1)))
  · rw [e3 2 1 (by omega) (by omega), e3 2 2 (by omega) (by omega)]
    exact r3
  · unfold fdB
    by_cases hc : i < n
    · rw [if_neg (by omega), e3 14 i (by omega) (by omega)]
      exact r4 i hc
    · rw [if_pos (by omega)]
      have e4 := e2 (i - n) (by omega)
      rw [show n + (i - n) = i by omega] at e4
      rw [show ((i : Int) - n).toNat = i - n by omega, e4]
      unfold by4
      rw [w8_em]
      exact ⟨rfl, Int.emod_nonneg _ (by decide), Int.emod_lt_of_pos _ (by decide)⟩
end FEED
