/-! the law's begin -/
section BEGIN
variable {b L : Nat} {f : Int → Int}
set_option maxHeartbeats 4000000
def lM : xM := fun _ _ => 0
def lH : xH := (fun _ _ => 0, fun _ => 25, fun _ => 0, 1)
theorem L_ok : x_ok lM lH := ⟨Nat.le_refl _, fun id h => absurd (show (25 : Nat) < 25 from h) (by decide), fun id h1 h2 => absurd h2 (Nat.not_lt.mpr h1), fun id => ⟨Int.le_refl _, show (0 : Int) < 2147483648 by decide⟩, fun id i h => absurd (show (25 : Nat) < 25 from h) (by decide), fun id i => Nat.zero_lt_one⟩
theorem L_start : wpG x_Cal (lE b L f) bL_law (fun t ls st M h c n => ∃ m, LIv b t m ls st M h c n) LPh 30 0 (x_ent [xE b] 0) [] lM lH 0 0 := by
  have e1 : hn (x_new lH 7 0) = 2 := rfl
  have e2 : hK (x_new lH 7 0) 1 = 7 := rfl
  have e3 : hn lH = 1 := rfl
  have n7 : x_N 7 ≤ 20 := by decide
  have n8 : ∀ k : Nat, k ≤ 20 → k + 8056 + 1 ≤ 20000 := fun k hk => by omega
  simp only [wq_g3, wq_gc, wq_g, wq_g1, wq_g2, eL_law, iL_law_0, iL_law_24, iL_law_27, iL_law_34, iL_law_62, iL_law_63, iL_law_104, iL_law_105, iL_law_117, iL_law_172, iL_law_176, iL_law_199, iL_law_200, iL_law_251, iL_law_252, iL_law_253, iL_law_268, iL_law_269, iL_law_273, iL_law_305, iL_law_306, iL_law_313, iL_law_380, iL_law_381, iL_law_386, iL_law_431, iL_law_435, iL_law_436, iL_law_443, iL_law_449, vL_law, wps, x_cnd, reduceIte, Nat.reduceAdd, Nat.reduceSub, Nat.reduceEqDiff, Nat.reduceLeDiff, Nat.lt_irrefl, Nat.reduceLT, Int.cast_ofNat_Int, wq_c0, wq_c1, true_and, and_true, and_self, true_implies, forall_const, ne_eq, Decidable.not_not, not_true_eq_false, not_false_eq_true, List.map_nil, List.map_cons, List.sum_nil, List.sum_cons, List.length_cons, List.length_nil, Nat.le_refl, Nat.zero_le, reduceCtorEq, true_or, or_true, false_or, or_false, false_and, and_false, false_implies, Nat.zero_add, Nat.add_zero, Int.reduceEq, Int.reduceNe, Int.reduceLT, Int.reduceLE, Int.reduceNeg, Int.reduceToNat, Nat.not_lt_zero, Int.reduceAdd, lE_1, lE_2, lE_3, lE_4, lE_5, lE_6, e1, e2, e3]
  (repeat refine ⟨by omega, ?_⟩)
  refine cP_init e1 e2 (fun M1 h1 P1 n1 => ?_)
  have k41 : hK (x_new h1 20 1) 41 = 20 := by rw [hK_new, n1, if_pos rfl]
  have l41 : hL (x_new h1 20 1) 41 = 1 := by rw [hL_new, n1, if_pos rfl]
  have n42 : hn (x_new h1 20 1) = 42 := by rw [hn_new, n1]
  have P2 : ∀ z : Int, PI (x_w (x_z M1 h1) 41 0 z) (x_new h1 20 1) := fun z => P1.mv (HE_n (by omega)) (fun a j ha => by rw [w_ne (by omega), x_z_at, n1, if_neg (by omega)])
  have F2 : Fx (x_new h1 20 1) := St_Fx (P2 0) k41 l41 (by omega)
  have CC : ∀ z : Int, CW A0 (x_w (x_z M1 h1) 41 0 z) (x_new h1 20 1) := fun z => St_CW (P2 z) F2
  simp only [wq_g3, wq_gc, wq_g, wq_g1, wq_g2, eL_law, iL_law_0, iL_law_24, iL_law_27, iL_law_34, iL_law_62, iL_law_63, iL_law_104, iL_law_105, iL_law_117, iL_law_172, iL_law_176, iL_law_199, iL_law_200, iL_law_251, iL_law_252, iL_law_253, iL_law_268, iL_law_269, iL_law_273, iL_law_305, iL_law_306, iL_law_313, iL_law_380, iL_law_381, iL_law_386, iL_law_431, iL_law_435, iL_law_436, iL_law_443, iL_law_449, vL_law, wps, x_cnd, reduceIte, Nat.reduceAdd, Nat.reduceSub, Nat.reduceEqDiff, Nat.reduceLeDiff, Nat.lt_irrefl, Nat.reduceLT, Int.cast_ofNat_Int, wq_c0, wq_c1, true_and, and_true, and_self, true_implies, forall_const, ne_eq, Decidable.not_not, not_true_eq_false, not_false_eq_true, List.map_nil, List.map_cons, List.sum_nil, List.sum_cons, List.length_cons, List.length_nil, Nat.le_refl, Nat.zero_le, reduceCtorEq, true_or, or_true, false_or, or_false, false_and, and_false, false_implies, Nat.zero_add, Nat.add_zero, Int.reduceEq, Int.reduceNe, Int.reduceLT, Int.reduceLE, Int.reduceNeg, Int.reduceToNat, Nat.not_lt_zero, Int.reduceAdd, lE_1, lE_2, lE_3, lE_4, lE_5, lE_6, n1, k41, l41]
  refine ⟨by omega, by omega, fun c0 => ⟨by omega, ?_⟩, fun c0 => ?_⟩
  · exact ⟨10000 * (10 - 0), A0, 0, rfl, CC _, by omega, rfl, (by simp [wq_up, wq_ent, wq_ent0, x_nl, x_cat]), (by simp [wq_up, wq_ent, wq_ent0, x_nl, x_cat]), (by simp [wq_up, wq_ent, wq_ent0, x_nl, x_cat]), (by simp [wq_up, wq_ent, wq_ent0, x_nl, x_cat]), (by simp [wq_up, wq_ent, wq_ent0, x_nl, x_cat]), Or.inl ⟨rfl, rfl, Nat.le_add_right_of_le (by omega), Nat.le_add_right_of_le (n8 _ n7)⟩⟩
  · exact ⟨10000 * (10 - 0), A0, 0, rfl, CC _, by omega, rfl, (by simp [wq_up, wq_ent, wq_ent0, x_nl, x_cat]), (by simp [wq_up, wq_ent, wq_ent0, x_nl, x_cat]), (by simp [wq_up, wq_ent, wq_ent0, x_nl, x_cat]), (by simp [wq_up, wq_ent, wq_ent0, x_nl, x_cat]), (by simp [wq_up, wq_ent, wq_ent0, x_nl, x_cat]), Or.inl ⟨rfl, rfl, Nat.le_add_right_of_le (by omega), Nat.le_add_right_of_le (n8 _ n7)⟩⟩
end BEGIN
