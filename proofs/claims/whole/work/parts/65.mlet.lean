/-! the model's changes: reletter, print -/
section MLET
variable {A : xAb} {M M' : xM} {h : xH} {Φ : xO → xM → xH → Prop} {S : xSr} {nid : Int}
set_option maxHeartbeats 1000000
theorem SG.marks {f f' : Int → Int} {S' : xSr} (G : SG S f) (s1 : sN S' = sN S) (hN : sN S ≤ 150) (s2 : sP S' = sP S) (s3 : sI S' = sI S) (s9 : ∀ q, pkw S' q = pkw S q) (s5 : sF S' = sF S) (s6 : sL S' = sL S) (s7 : sQ S' = sQ S) (s8 : sR S' = sR S) (hl : ∀ l : Nat, 1 ≤ l → l ≤ 40 → f' (324 + l) = sM S' l) (hf : ∀ k : Int, ¬ (325 ≤ k ∧ k < 365) → f' k = f k) : SG S' f' := by
  obtain ⟨⟨a1, a2, a3, a4⟩, b, c, d, n⟩ := G
  have hh : hasC S' = hasC S := by unfold hasC; rw [s5]
  unfold SG
  rw [s1, s2, s3, s5, s6, s7, s8, hh]
  refine ⟨⟨(hf 0 (by omega)).trans a1, (hf 1 (by omega)).trans a2, (hf 2 (by omega)).trans a3, (hf 3 (by omega)).trans a4⟩, fun p hp => ?_, fun c' hc hne => ⟨(hf _ (by omega)).trans (c c' hc hne).1, (hf _ (by omega)).trans (c c' hc hne).2⟩, hl, fun part h6 hq => ?_⟩
  · rw [hf _ (by omega), hf _ (by omega), s9]
    exact b p hp
  · obtain ⟨K, k1, k2, k3, k4⟩ := n part h6 hq
    refine ⟨K, k1, (hf _ (by omega)).trans k2, fun k hk => ?_, fun id hid => ?_⟩
    · rw [hf _ (by omega), hf _ (by omega)]
      exact k3 k hk
    · obtain ⟨k, hk, hk2⟩ := k4 id hid
      exact ⟨k, hk, (hf _ (by omega)).trans hk2⟩
theorem rl_20 (w : wfS S nid) {p : Nat} (hp : p ≤ sN S) : rl S p ≤ 20 := by
  have h1 := rl_cn w hp
  have h2 := cn_mono (P := fun q => sit S q != 0) hp
  have h3 := mk_N w
  have h4 := w.m20
  omega
theorem cM_reletter (W : MW A M h) (k : ∀ u M', MW (dLet A).2 M' h → FM M M' → MA (xk []) (dLet A).1 u M' → Φ (.inl (some (xI u))) M' h) : x_Cal zM_reletter [xA 41] M h Φ := by
  have F := W.F
  have hN := W.w.N
  refine x_metI kM_reletter (Nat.le_of_ble_eq_true rfl) (fun t m ls st M' h' c2 n2 => st = [] ∧ h' = h ∧ c2 = 0 ∧ n2 = 0 ∧ ls 0 = some (xA 41) ∧ MP (aKeep A (aS A) (aI A)) M' h ∧ FM M M' ∧ M' 41 0 = 0 ∧ ((t = 15 ∧ M' 42 = M 42 ∧ ∃ p : Nat, p ≤ sN (aS A) ∧ m = 100 + (sN (aS A) - p) ∧ ls 1 = some (xI (rl (aS A) p)) ∧ ls 2 = some (xI (ro (aS A) p)) ∧ ls 3 = some (xI p) ∧ ∀ l : Nat, 1 ≤ l → (l : Int) ≤ rl (aS A) p → M' 55 l = reM (aS A) p l) ∨ (t = 78 ∧ ∃ l : Nat, 1 ≤ l ∧ l ≤ 41 ∧ m = 41 - l ∧ ls 1 = some (xI (rl (aS A) (sN (aS A)))) ∧ ls 2 = some (xI (ro (aS A) (sN (aS A)))) ∧ ls 3 = some (xI l) ∧ (∀ l : Nat, 1 ≤ l → (l : Int) ≤ rl (aS A) (sN (aS A)) → M' 55 l = reM (aS A) (sN (aS A)) l) ∧ (∀ k : Nat, 1 ≤ k → k < l → M' 42 (324 + k) = reM (aS A) (sN (aS A)) k) ∧ ∀ j : Int, ¬ (325 ≤ j ∧ j < 365) → M' 42 j = M 42 j))) 20 ?_ ?_
  · simp only [wq_g3, wq_gc, wq_g, wq_g1, wq_g2, eM_reletter, iM_reletter_0, iM_reletter_15, iM_reletter_66, iM_reletter_69, iM_reletter_70, iM_reletter_76, iM_reletter_78, iM_reletter_107, iM_reletter_108, iM_reletter_115, vM_reletter, wps, x_cnd, reduceIte, Nat.reduceAdd, Nat.reduceSub, Nat.reduceEqDiff, Nat.reduceLeDiff, Nat.lt_irrefl, Nat.reduceLT, Int.cast_ofNat_Int, wq_c0, wq_c1, true_and, and_true, and_self, true_implies, forall_const, ne_eq, Decidable.not_not, not_true_eq_false, not_false_eq_true, List.map_nil, List.map_cons, List.sum_nil, List.sum_cons, List.length_cons, List.length_nil, Nat.le_refl, Nat.zero_le, reduceCtorEq, true_or, or_true, false_or, or_false, false_and, and_false, false_implies, Nat.zero_add, Nat.add_zero, Int.reduceEq, Int.reduceNe, Int.reduceLT, Int.reduceLE, Int.reduceNeg, Int.reduceToNat, Nat.not_lt_zero, Int.reduceAdd, fxs F]
    refine cM_remembers W.thr (fun M2 P2 f2 => ?_)
    have e42 : M2 42 = M 42 := funext (fun j => (f2 42 j (by decide) (by omega)).trans (w_ne (by decide)))
    simp only [wq_g3, wq_gc, wq_g, wq_g1, wq_g2, eM_reletter, iM_reletter_0, iM_reletter_15, iM_reletter_66, iM_reletter_69, iM_reletter_70, iM_reletter_76, iM_reletter_78, iM_reletter_107, iM_reletter_108, iM_reletter_115, vM_reletter, wps, x_cnd, reduceIte, Nat.reduceAdd, Nat.reduceSub, Nat.reduceEqDiff, Nat.reduceLeDiff, Nat.lt_irrefl, Nat.reduceLT, Int.cast_ofNat_Int, wq_c0, wq_c1, true_and, and_true, and_self, true_implies, forall_const, ne_eq, Decidable.not_not, not_true_eq_false, not_false_eq_true, List.map_nil, List.map_cons, List.sum_nil, List.sum_cons, List.length_cons, List.length_nil, Nat.le_refl, Nat.zero_le, reduceCtorEq, true_or, or_true, false_or, or_false, false_and, and_false, false_implies, Nat.zero_add, Nat.add_zero, Int.reduceEq, Int.reduceNe, Int.reduceLT, Int.reduceLE, Int.reduceNeg, Int.reduceToNat, Nat.not_lt_zero, Int.reduceAdd, fxs F]
    refine ⟨100 + (sN (aS A) - 0), P2, fun a j ha => ?_, ?_, e42, 0, by omega, rfl, rfl, rfl, by rw [Int.natCast_zero], fun l h1 h2 => ?_⟩
    · rw [f2 a j (by omega) (by omega), w_ne (by omega)]
    · rw [f2 41 0 (by decide) (by decide), w_eq]
    · have : rl (aS A) 0 = 0 := rfl
      omega
  · rintro t m ls st M1 h' c2 n2 ⟨rfl, rfl, rfl, rfl, l0, P1, f1, t1, ⟨rfl, e42, p, y1, y2, l1, l2, l3, y3⟩ | ⟨rfl, l, y1, y2, y3, l1, l2, l3, y4, y5, y6⟩⟩
    · have G1 : SG (aS A) (M1 42) := by rw [e42]; exact W.G
      have e0 := G1.n
      simp only [wq_g3, wq_gc, wq_g, wq_g1, wq_g2, eM_reletter, iM_reletter_0, iM_reletter_15, iM_reletter_66, iM_reletter_69, iM_reletter_70, iM_reletter_76, iM_reletter_78, iM_reletter_107, iM_reletter_108, iM_reletter_115, vM_reletter, wps, x_cnd, reduceIte, Nat.reduceAdd, Nat.reduceSub, Nat.reduceEqDiff, Nat.reduceLeDiff, Nat.lt_irrefl, Nat.reduceLT, Int.cast_ofNat_Int, wq_c0, wq_c1, true_and, and_true, and_self, true_implies, forall_const, ne_eq, Decidable.not_not, not_true_eq_false, not_false_eq_true, List.map_nil, List.map_cons, List.sum_nil, List.sum_cons, List.length_cons, List.length_nil, Nat.le_refl, Nat.zero_le, reduceCtorEq, true_or, or_true, false_or, or_false, false_and, and_false, false_implies, Nat.zero_add, Nat.add_zero, Int.reduceEq, Int.reduceNe, Int.reduceLT, Int.reduceLE, Int.reduceNeg, Int.reduceToNat, Nat.not_lt_zero, Int.reduceAdd, fxs F, l0, l1, l2, l3, e0]
      refine ⟨fun c0 => ?_, fun c0 => cM_idAt F (by omega) ?_⟩
      · have hp : p = sN (aS A) := by omega
        subst hp
        exact ⟨41 - 1, by omega, P1, f1, t1, 1, by omega, by omega, rfl, rfl, rfl, rfl, y3, fun k k1 k2 => by omega, fun j _ => by rw [e42]⟩
      · have hp : p < sN (aS A) := by omega
        have hs := sit_rng (S := aS A) (p := p)
        have hrr := rl_rng (S := aS A) (p := p)
        have hor := ro_rng (S := aS A) (p := p)
        have h20 := rl_20 W.w (p := p) (by omega)
        rw [G1.id hp]
        simp only [wq_g3, wq_gc, wq_g, wq_g1, wq_g2, eM_reletter, iM_reletter_0, iM_reletter_15, iM_reletter_66, iM_reletter_69, iM_reletter_70, iM_reletter_76, iM_reletter_78, iM_reletter_107, iM_reletter_108, iM_reletter_115, vM_reletter, wps, x_cnd, reduceIte, Nat.reduceAdd, Nat.reduceSub, Nat.reduceEqDiff, Nat.reduceLeDiff, Nat.lt_irrefl, Nat.reduceLT, Int.cast_ofNat_Int, wq_c0, wq_c1, true_and, and_true, and_self, true_implies, forall_const, ne_eq, Decidable.not_not, not_true_eq_false, not_false_eq_true, List.map_nil, List.map_cons, List.sum_nil, List.sum_cons, List.length_cons, List.length_nil, Nat.le_refl, Nat.zero_le, reduceCtorEq, true_or, or_true, false_or, or_false, false_and, and_false, false_implies, Nat.zero_add, Nat.add_zero, Int.reduceEq, Int.reduceNe, Int.reduceLT, Int.reduceLE, Int.reduceNeg, Int.reduceToNat, Nat.not_lt_zero, Int.reduceAdd, fxs F, l0, l1, l2, l3]
        refine cM_letterOn F G1 ?_
        rw [lOn_sit W.w hp]
        simp only [wq_g3, wq_gc, wq_g, wq_g1, wq_g2, eM_reletter, iM_reletter_0, iM_reletter_15, iM_reletter_66, iM_reletter_69, iM_reletter_70, iM_reletter_76, iM_reletter_78, iM_reletter_107, iM_reletter_108, iM_reletter_115, vM_reletter, wps, x_cnd, reduceIte, Nat.reduceAdd, Nat.reduceSub, Nat.reduceEqDiff, Nat.reduceLeDiff, Nat.lt_irrefl, Nat.reduceLT, Int.cast_ofNat_Int, wq_c0, wq_c1, true_and, and_true, and_self, true_implies, forall_const, ne_eq, Decidable.not_not, not_true_eq_false, not_false_eq_true, List.map_nil, List.map_cons, List.sum_nil, List.sum_cons, List.length_cons, List.length_nil, Nat.le_refl, Nat.zero_le, reduceCtorEq, true_or, or_true, false_or, or_false, false_and, and_false, false_implies, Nat.zero_add, Nat.add_zero, Int.reduceEq, Int.reduceNe, Int.reduceLT, Int.reduceLE, Int.reduceNeg, Int.reduceToNat, Nat.not_lt_zero, Int.reduceAdd, fxs F, l0, l1, l2, l3]
        simp (disch := omega) only [w32_of]
        refine ⟨fun c1 => ?_, fun c1 => cM_idAt F (by omega) ?_⟩
        · obtain ⟨z1, z2, z3⟩ := rl_s0 (S := aS A) (p := p) (fun q => q.1 (by omega))
          exact ⟨100 + (sN (aS A) - (p + 1)), by omega, P1, f1, t1, e42, p + 1, by omega, rfl, by rw [z1], by rw [z3], congrArg (fun z => some (xI z)) (by omega), fun l h1 h2 => by rw [z2]; exact y3 l h1 (by omega)⟩
        · obtain ⟨z1, z2, z3⟩ := rl_s1 (S := aS A) (p := p) ⟨by omega, by omega⟩
          rw [G1.id hp]
          simp only [wq_g3, wq_gc, wq_g, wq_g1, wq_g2, eM_reletter, iM_reletter_0, iM_reletter_15, iM_reletter_66, iM_reletter_69, iM_reletter_70, iM_reletter_76, iM_reletter_78, iM_reletter_107, iM_reletter_108, iM_reletter_115, vM_reletter, wps, x_cnd, reduceIte, Nat.reduceAdd, Nat.reduceSub, Nat.reduceEqDiff, Nat.reduceLeDiff, Nat.lt_irrefl, Nat.reduceLT, Int.cast_ofNat_Int, wq_c0, wq_c1, true_and, and_true, and_self, true_implies, forall_const, ne_eq, Decidable.not_not, not_true_eq_false, not_false_eq_true, List.map_nil, List.map_cons, List.sum_nil, List.sum_cons, List.length_cons, List.length_nil, Nat.le_refl, Nat.zero_le, reduceCtorEq, true_or, or_true, false_or, or_false, false_and, and_false, false_implies, Nat.zero_add, Nat.add_zero, Int.reduceEq, Int.reduceNe, Int.reduceLT, Int.reduceLE, Int.reduceNeg, Int.reduceToNat, Nat.not_lt_zero, Int.reduceAdd, fxs F, l0, l1, l2, l3]
          simp (disch := omega) only [w32_of]
          have go : ∀ u : Int, u = ro (aS A) (p + 1) → ∃ m2, m2 < m ∧ MP (aKeep A (aS A) (aI A)) (x_w M1 55 (rl (aS A) p + 1) (sI (aS A) p)) h' ∧ FM M (x_w M1 55 (rl (aS A) p + 1) (sI (aS A) p)) ∧ x_w M1 55 (rl (aS A) p + 1) (sI (aS A) p) 41 0 = 0 ∧ x_w M1 55 (rl (aS A) p + 1) (sI (aS A) p) 42 = M 42 ∧ ∃ p_1 : Nat, p_1 ≤ sN (aS A) ∧ m2 = 100 + (sN (aS A) - p_1) ∧ some (xI (rl (aS A) p + 1)) = some (xI (rl (aS A) p_1)) ∧ some (xI u) = some (xI (ro (aS A) p_1)) ∧ some (xI ((p : Int) + 1)) = some (xI p_1) ∧ ∀ l : Nat, 1 ≤ l → (l : Int) ≤ rl (aS A) p_1 → x_w M1 55 (rl (aS A) p + 1) (sI (aS A) p) 55 l = reM (aS A) p_1 l := fun u hu => by
            refine ⟨100 + (sN (aS A) - (p + 1)), by omega, P1.frame (fun a j ha => w_ne (by omega)) (fun j _ => w_ne (by omega)), f1.w (by decide), (w_ne (by decide)).trans t1, e42, p + 1, by omega, rfl, by rw [z1], by rw [hu], congrArg (fun z => some (xI z)) (by omega), fun l h1 h2 => ?_⟩
            rw [z1] at h2
            rw [z2]
            by_cases hl : (l : Int) = rl (aS A) p + 1
            · rw [hl, w_eq, up_1]
            · rw [w_nj hl, up_2 hl]
              exact y3 l h1 (by omega)
          exact ⟨by omega, fun c3 => go _ (by rw [z3, if_neg c3]), fun c3 => go _ (by rw [z3, if_pos c3]; omega)⟩
    · simp only [wq_g3, wq_gc, wq_g, wq_g1, wq_g2, eM_reletter, iM_reletter_0, iM_reletter_15, iM_reletter_66, iM_reletter_69, iM_reletter_70, iM_reletter_76, iM_reletter_78, iM_reletter_107, iM_reletter_108, iM_reletter_115, vM_reletter, wps, x_cnd, reduceIte, Nat.reduceAdd, Nat.reduceSub, Nat.reduceEqDiff, Nat.reduceLeDiff, Nat.lt_irrefl, Nat.reduceLT, Int.cast_ofNat_Int, wq_c0, wq_c1, true_and, and_true, and_self, true_implies, forall_const, ne_eq, Decidable.not_not, not_true_eq_false, not_false_eq_true, List.map_nil, List.map_cons, List.sum_nil, List.sum_cons, List.length_cons, List.length_nil, Nat.le_refl, Nat.zero_le, reduceCtorEq, true_or, or_true, false_or, or_false, false_and, and_false, false_implies, Nat.zero_add, Nat.add_zero, Int.reduceEq, Int.reduceNe, Int.reduceLT, Int.reduceLE, Int.reduceNeg, Int.reduceToNat, Nat.not_lt_zero, Int.reduceAdd, fxs F, l0, l1, l2, l3]
      simp (disch := omega) only [w32_of]
      have go : l ≤ 40 → ∀ v : Int, v = reM (aS A) (sN (aS A)) l → ∃ m2, m2 < m ∧ MP (aKeep A (aS A) (aI A)) (x_w M1 42 (324 + l) v) h' ∧ FM M (x_w M1 42 (324 + l) v) ∧ x_w M1 42 (324 + l) v 41 0 = 0 ∧ ∃ l_1 : Nat, 1 ≤ l_1 ∧ l_1 ≤ 41 ∧ m2 = 41 - l_1 ∧ some (xI ((l : Int) + 1)) = some (xI l_1) ∧ (∀ l_2 : Nat, 1 ≤ l_2 → (l_2 : Int) ≤ rl (aS A) (sN (aS A)) → x_w M1 42 (324 + l) v 55 l_2 = reM (aS A) (sN (aS A)) l_2) ∧ (∀ k : Nat, 1 ≤ k → k < l_1 → x_w M1 42 (324 + l) v 42 (324 + k) = reM (aS A) (sN (aS A)) k) ∧ ∀ j : Int, ¬ (325 ≤ j ∧ j < 365) → x_w M1 42 (324 + l) v 42 j = M 42 j := fun hl v hv => by
        refine ⟨41 - (l + 1), by omega, P1.w42, f1.w (by decide), (w_ne (by decide)).trans t1, l + 1, by omega, by omega, rfl, congrArg (fun z => some (xI z)) (by omega), fun k h1 h2 => (w_ne (by decide)).trans (y4 k h1 h2), fun k k1 k2 => ?_, fun j hj => (w_nj (by omega)).trans (y6 j hj)⟩
        by_cases hk : k = l
        · subst hk
          rw [w_eq, hv]
        · rw [w_nj (by omega)]
          exact y5 k k1 (by omega)
      have hre := (reM_at W.w (Nat.le_refl (sN (aS A))) l).1
      refine ⟨fun c0 => ?_, fun c0 => ⟨fun c1 => ⟨by omega, go (by omega) _ (hre (Or.inr c1)).symm⟩, fun c1 => ⟨by omega, by omega, go (by omega) _ (y4 l y1 (by omega))⟩⟩⟩
      have hl : l = 41 := by omega
      subst hl
      exact k _ M1 (P1.chg (W.G.marks rfl hN rfl rfl (fun _ => rfl) rfl rfl rfl rfl (fun k k1 k2 => y5 k k1 (by omega)) y6) W.w.letS) f1 (ma_v t1 rfl)
end MLET
