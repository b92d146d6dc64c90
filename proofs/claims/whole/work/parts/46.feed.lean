/-! feed -/
/-- the j-th byte of a word, the high one first -/
def by4 (v : Int) (j : Nat) : Int := (x_shr v ((24 - 8 * j : Nat) : Int)) % 256
section FEED
variable {A : xAb} {M : xM} {h : xH} {Φ : xO → xM → xH → Prop} {S : xSr} {nid : Int}
set_option maxHeartbeats 1000000
theorem cR_append (F : Fx h) {n : Nat} {v : Int} (hn0 : M 2 3 = n) (hn1 : n + 4 ≤ 800) (k : ∀ M', M' 2 3 = (n + 4 : Nat) → (∀ j : Nat, j < 4 → M' 14 (n + j : Nat) = w8 (x_shr v ((24 - 8 * j : Nat) : Int))) → (∀ a i, ¬ (a = 2 ∧ i = 3) → ¬ (a = 14 ∧ (n : Int) ≤ i ∧ i < n + 4) → M' a i = M a i) → Φ (.inl none) M' h) : x_Cal zR_appendBytes [xA 2, xI v] M h Φ := by
  refine x_metI kR_appendBytes (Nat.le_of_ble_eq_true rfl) (fun t m ls st M' h' c n2 => t = 3 ∧ st = [] ∧ h' = h ∧ c = 0 ∧ n2 = 0 ∧ ls 0 = some (xA 2) ∧ ls 1 = some (xI v) ∧ ∃ p : Nat, p ≤ 4 ∧ m = 4 - p ∧ ls 2 = some (xI (24 - 8 * (p : Int))) ∧ M' 2 3 = (n + p : Nat) ∧ (∀ j : Nat, j < p → M' 14 (n + j : Nat) = w8 (x_shr v ((24 - 8 * j : Nat) : Int))) ∧ ∀ a i, ¬ (a = 2 ∧ i = 3) → ¬ (a = 14 ∧ (n : Int) ≤ i ∧ i < n + p) → M' a i = M a i) 20 ?_ ?_
  · simp only [wq_g3, wq_gc, wq_g, wq_g1, wq_g2, eR_appendBytes, iR_appendBytes_0, iR_appendBytes_3, iR_appendBytes_48, vR_appendBytes, wps, x_cnd, reduceIte, Nat.reduceAdd, Nat.reduceSub, Nat.reduceEqDiff, Nat.reduceLeDiff, Nat.lt_irrefl, Nat.reduceLT, Int.cast_ofNat_Int, wq_c0, wq_c1, true_and, and_true, and_self, true_implies, forall_const, ne_eq, Decidable.not_not, not_true_eq_false, not_false_eq_true, List.map_nil, List.map_cons, List.sum_nil, List.sum_cons, List.length_cons, List.length_nil, Nat.le_refl, Nat.zero_le, reduceCtorEq, true_or, or_true, false_or, or_false, false_and, and_false, false_implies, Nat.zero_add, Nat.add_zero, Int.reduceEq, Int.reduceNe, Int.reduceLT, Int.reduceLE, Int.reduceNeg, Int.reduceToNat, Nat.not_lt_zero, Int.reduceAdd, fxs F]
    exact ⟨4, 0, by omega, rfl, rfl, hn0, fun j hj => by omega, fun _ _ _ _ => rfl⟩
  · rintro t m ls st M' h' c n2 ⟨rfl, rfl, rfl, rfl, rfl, l0, l1, p, q1, q2, l2, e1, e2, e3⟩
    simp only [wq_g3, wq_gc, wq_g, wq_g1, wq_g2, eR_appendBytes, iR_appendBytes_0, iR_appendBytes_3, iR_appendBytes_48, vR_appendBytes, wps, x_cnd, reduceIte, Nat.reduceAdd, Nat.reduceSub, Nat.reduceEqDiff, Nat.reduceLeDiff, Nat.lt_irrefl, Nat.reduceLT, Int.cast_ofNat_Int, wq_c0, wq_c1, true_and, and_true, and_self, true_implies, forall_const, ne_eq, Decidable.not_not, not_true_eq_false, not_false_eq_true, List.map_nil, List.map_cons, List.sum_nil, List.sum_cons, List.length_cons, List.length_nil, Nat.le_refl, Nat.zero_le, reduceCtorEq, true_or, or_true, false_or, or_false, false_and, and_false, false_implies, Nat.zero_add, Nat.add_zero, Int.reduceEq, Int.reduceNe, Int.reduceLT, Int.reduceLE, Int.reduceNeg, Int.reduceToNat, Nat.not_lt_zero, Int.reduceAdd, fxs F, l0, l1, l2, e1]
    trace_state
    sorry
end FEED
