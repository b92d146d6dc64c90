/-! the model's changes: reletter, print -/
section MLET
variable {A : xAb} {M M' : xM} {h : xH} {Φ : xO → xM → xH → Prop} {S : xSr} {nid : Int}
set_option maxHeartbeats 1000000
theorem SG.marks {f f' : Int → Int} {S' : xSr} (G : SG S f) (s1 : sN S' = sN S) (hN : sN S ≤ 150) (s2 : sP S' = sP S) (s3 : sI S' = sI S) (s9 : ∀ q, pkw S' q = pkw S q) (s5 : sF S' = sF S) (s6 : sL S' = sL S) (s7 : sQ S' = sQ S) (s8 : sR S' = sR S) (hl : ∀ l : Nat, 1 ≤ l → l ≤ 40 → f' (324 + l) = sM S' l) (hf : ∀ k : Int, ¬ (325 ≤ k ∧ k < 365) → f' k = f k) : SG S' f' := by
  obtain ⟨⟨a1, a2, a3, a4⟩, b, c, d, n⟩ := G
  have hh : hasC S' = hasC S := by unfold hasC; rw [s5]
  unfold SG
  rw [s1, s2, s3, s5, s6, s7, s8, hh]
  refine ⟨⟨(hf 0 (by omega)).trans a1, (hf 1 (by omega)).trans a2, (hf 2 (by omega)).trans a3, (hf 3 (by omega)).trans a4⟩, fun p hp => ?_, fun c' hc hne => ⟨(hf _ (by omega)).trans (c c' hc hne).1, (hf _ (by omega)).trans (c c' hc hne).2⟩, hl, fun part h6 hq => ?_⟩
  · rw [hf _ (by omega), hf _ (by omega), s9]
    exact b p hp
  · obtain ⟨K, k1, k2, k3, k4⟩ := n part h6 hq
    refine ⟨K, k1, (hf _ (by omega)).trans k2, fun k hk => ?_, fun id hid => ?_⟩
    · rw [hf _ (by omega), hf _ (by omega)]
      exact k3 k hk
    · obtain ⟨k, hk, hk2⟩ := k4 id hid
      exact ⟨k, hk, (hf _ (by omega)).trans hk2⟩
theorem rl_20 (w : wfS S nid) {p : Nat} (hp : p ≤ sN S) : rl S p ≤ 20 := by
  have h1 := rl_cn w hp
  have h2 := cn_mono (P := fun q => sit S q != 0) hp
  have h3 := mk_N w
  have h4 := w.m20
  omega
theorem cM_reletter (W : MW A M h) (k : ∀ u M', MW (dLet A).2 M' h → FM M M' → MA (xk []) (dLet A).1 u M' → Φ (.inl (some (xI u))) M' h) : x_Cal zM_reletter [xA 41] M h Φ := by
  have F := W.F
  have hN := W.w.N
  refine x_metI kM_reletter (Nat.le_of_ble_eq_true rfl) (fun t m ls st M' h' c2 n2 => st = [] ∧ h' = h ∧ c2 = 0 ∧ n2 = 0 ∧ ls 0 = some (xA 41) ∧ MP (aKeep A (aS A) (aI A)) M' h ∧ FM M M' ∧ M' 41 0 = 0 ∧ ((t = 15 ∧ M' 42 = M 42 ∧ ∃ p : Nat, p ≤ sN (aS A) ∧ m = 100 + (sN (aS A) - p) ∧ ls 1 = some (xI (rl (aS A) p)) ∧ ls 2 = some (xI (ro (aS A) p)) ∧ ls 3 = some (xI p) ∧ ∀ l : Nat, 1 ≤ l → (l : Int) ≤ rl (aS A) p → M' 55 l = reM (aS A) p l) ∨ (t = 78 ∧ ∃ l : Nat, 1 ≤ l ∧ l ≤ 41 ∧ m = 41 - l ∧ ls 1 = some (xI (rl (aS A) (sN (aS A)))) ∧ ls 2 = some (xI (ro (aS A) (sN (aS A)))) ∧ ls 3 = some (xI l) ∧ (∀ l : Nat, 1 ≤ l → (l : Int) ≤ rl (aS A) (sN (aS A)) → M' 55 l = reM (aS A) (sN (aS A)) l) ∧ (∀ k : Nat, 1 ≤ k → k < l → M' 42 (324 + k) = reM (aS A) (sN (aS A)) k) ∧ ∀ j : Int, ¬ (325 ≤ j ∧ j < 365) → M' 42 j = M 42 j))) 20 ?_ ?_
  · simp only [wq_g3, wq_gc, wq_g, wq_g1, wq_g2, eM_reletter, iM_reletter_0, iM_reletter_15, iM_reletter_66, iM_reletter_69, iM_reletter_70, iM_reletter_76, iM_reletter_78, iM_reletter_107, iM_reletter_108, iM_reletter_115, vM_reletter, wps, x_cnd, reduceIte, Nat.reduceAdd, Nat.reduceSub, Nat.reduceEqDiff, Nat.reduceLeDiff, Nat.lt_irrefl, Nat.reduceLT, Int.cast_ofNat_Int, wq_c0, wq_c1, true_and, and_true, and_self, true_implies, forall_const, ne_eq, Decidable.not_not, not_true_eq_false, not_false_eq_true, List.map_nil, List.map_cons, List.sum_nil, List.sum_cons, List.length_cons, List.length_nil, Nat.le_refl, Nat.zero_le, reduceCtorEq, true_or, or_true, false_or, or_false, false_and, and_false, false_implies, Nat.zero_add, Nat.add_zero, Int.reduceEq, Int.reduceNe, Int.reduceLT, Int.reduceLE, Int.reduceNeg, Int.reduceToNat, Nat.not_lt_zero, Int.reduceAdd, fxs F]
    refine cM_remembers W.thr (fun M2 P2 f2 => ?_)
    have e42 : M2 42 = M 42 := funext (fun j => (f2 42 j (by decide) (by omega)).trans (w_ne (by decide)))
    simp only [wq_g3, wq_gc, wq_g, wq_g1, wq_g2, eM_reletter, iM_reletter_0, iM_reletter_15, iM_reletter_66, iM_reletter_69, iM_reletter_70, iM_reletter_76, iM_reletter_78, iM_reletter_107, iM_reletter_108, iM_reletter_115, vM_reletter, wps, x_cnd, reduceIte, Nat.reduceAdd, Nat.reduceSub, Nat.reduceEqDiff, Nat.reduceLeDiff, Nat.lt_irrefl, Nat.reduceLT, Int.cast_ofNat_Int, wq_c0, wq_c1, true_and, and_true, and_self, true_implies, forall_const, ne_eq, Decidable.not_not, not_true_eq_false, not_false_eq_true, List.map_nil, List.map_cons, List.sum_nil, List.sum_cons, List.length_cons, List.length_nil, Nat.le_refl, Nat.zero_le, reduceCtorEq, true_or, or_true, false_or, or_false, false_and, and_false, false_implies, Nat.zero_add, Nat.add_zero, Int.reduceEq, Int.reduceNe, Int.reduceLT, Int.reduceLE, Int.reduceNeg, Int.reduceToNat, Nat.not_lt_zero, Int.reduceAdd, fxs F]
    refine ⟨100 + (sN (aS A) - 0), P2, fun a j ha => ?_, ?_, e42, 0, by omega, rfl, rfl, rfl, by rw [Int.natCast_zero], fun l h1 h2 => ?_⟩
    · rw [f2 a j (by omega) (by omega), w_ne (by omega)]
    · rw [f2 41 0 (by decide) (by decide), w_eq]
    · have : rl (aS A) 0 = 0 := rfl
      omega
  · rintro t m ls st M1 h' c2 n2 ⟨rfl, rfl, rfl, rfl, l0, P1, f1, t1, ⟨rfl, e42, p, y1, y2, l1, l2, l3, y3⟩ | ⟨rfl, l, y1, y2, y3, l1, l2, l3, y4, y5, y6⟩⟩
    · have G1 : SG (aS A) (M1 42) := by rw [e42]; exact W.G
      have e0 := G1.n
      simp only [wq_g3, wq_gc, wq_g, wq_g1, wq_g2, eM_reletter, iM_reletter_0, iM_reletter_15, iM_reletter_66, iM_reletter_69, iM_reletter_70, iM_reletter_76, iM_reletter_78, iM_reletter_107, iM_reletter_108, iM_reletter_115, vM_reletter, wps, x_cnd, reduceIte, Nat.reduceAdd, Nat.reduceSub, Nat.reduceEqDiff, Nat.reduceLeDiff, Nat.lt_irrefl, Nat.reduceLT, Int.cast_ofNat_Int, wq_c0, wq_c1, true_and, and_true, and_self, true_implies, forall_const, ne_eq, Decidable.not_not, not_true_eq_false, not_false_eq_true, List.map_nil, List.map_cons, List.sum_nil, List.sum_cons, List.length_cons, List.length_nil, Nat.le_refl, Nat.zero_le, reduceCtorEq, true_or, or_true, false_or, or_false, false_and, and_false, false_implies, Nat.zero_add, Nat.add_zero, Int.reduceEq, Int.reduceNe, Int.reduceLT, Int.reduceLE, Int.reduceNeg, Int.reduceToNat, Nat.not_lt_zero, Int.reduceAdd, fxs F, l0, l1, l2, l3, e0]
      refine ⟨fun c0 => ?_, fun c0 => cM_idAt F (by omega) ?_⟩
      · have hp : p = sN (aS A) := by omega
        subst hp
        exact ⟨41 - 1, by omega, P1, f1, t1, 1, by omega, by omega, rfl, rfl, rfl, rfl, y3, fun k k1 k2 => by omega, fun j _ => by rw [e42]⟩
      · have hp : p < sN (aS A) := by omega
        have hs := sit_rng (S := aS A) (p := p)
        have hrr := rl_rng (S := aS A) (p := p)
        have hor := ro_rng (S := aS A) (p := p)
        have h20 := rl_20 W.w (p := p) (by omega)
        rw [G1.id hp]
        simp only [wq_g3, wq_gc, wq_g, wq_g1, wq_g2, eM_reletter, iM_reletter_0, iM_reletter_15, iM_reletter_66, iM_reletter_69, iM_reletter_70, iM_reletter_76, iM_reletter_78, iM_reletter_107, iM_reletter_108, iM_reletter_115, vM_reletter, wps, x_cnd, reduceIte, Nat.reduceAdd, Nat.reduceSub, Nat.reduceEqDiff, Nat.reduceLeDiff, Nat.lt_irrefl, Nat.reduceLT, Int.cast_ofNat_Int, wq_c0, wq_c1, true_and, and_true, and_self, true_implies, forall_const, ne_eq, Decidable.not_not, not_true_eq_false, not_false_eq_true, List.map_nil, List.map_cons, List.sum_nil, List.sum_cons, List.length_cons, List.length_nil, Nat.le_refl, Nat.zero_le, reduceCtorEq, true_or, or_true, false_or, or_false, false_and, and_false, false_implies, Nat.zero_add, Nat.add_zero, Int.reduceEq, Int.reduceNe, Int.reduceLT, Int.reduceLE, Int.reduceNeg, Int.reduceToNat, Nat.not_lt_zero, Int.reduceAdd, fxs F, l0, l1, l2, l3]
        refine cM_letterOn F G1 ?_
        rw [lOn_sit W.w hp]
        simp only [wq_g3, wq_gc, wq_g, wq_g1, wq_g2, eM_reletter, iM_reletter_0, iM_reletter_15, iM_reletter_66, iM_reletter_69, iM_reletter_70, iM_reletter_76, iM_reletter_78, iM_reletter_107, iM_reletter_108, iM_reletter_115, vM_reletter, wps, x_cnd, reduceIte, Nat.reduceAdd, Nat.reduceSub, Nat.reduceEqDiff, Nat.reduceLeDiff, Nat.lt_irrefl, Nat.reduceLT, Int.cast_ofNat_Int, wq_c0, wq_c1, true_and, and_true, and_self, true_implies, forall_const, ne_eq, Decidable.not_not, not_true_eq_false, not_false_eq_true, List.map_nil, List.map_cons, List.sum_nil, List.sum_cons, List.length_cons, List.length_nil, Nat.le_refl, Nat.zero_le, reduceCtorEq, true_or, or_true, false_or, or_false, false_and, and_false, false_implies, Nat.zero_add, Nat.add_zero, Int.reduceEq, Int.reduceNe, Int.reduceLT, Int.reduceLE, Int.reduceNeg, Int.reduceToNat, Nat.not_lt_zero, Int.reduceAdd, fxs F, l0, l1, l2, l3]
        simp (disch := omega) only [w32_of]
        refine ⟨fun c1 => ?_, fun c1 => cM_idAt F (by omega) ?_⟩
        · obtain ⟨z1, z2, z3⟩ := rl_s0 (S := aS A) (p := p) (fun q => q.1 (by omega))
          exact ⟨100 + (sN (aS A) - (p + 1)), by omega, P1, f1, t1, e42, p + 1, by omega, rfl, by rw [z1], by rw [z3], congrArg (fun z => some (xI z)) (by omega), fun l h1 h2 => by rw [z2]; exact y3 l h1 (by omega)⟩
        · obtain ⟨z1, z2, z3⟩ := rl_s1 (S := aS A) (p := p) ⟨by omega, by omega⟩
          rw [G1.id hp]
          simp only [wq_g3, wq_gc, wq_g, wq_g1, wq_g2, eM_reletter, iM_reletter_0, iM_reletter_15, iM_reletter_66, iM_reletter_69, iM_reletter_70, iM_reletter_76, iM_reletter_78, iM_reletter_107, iM_reletter_108, iM_reletter_115, vM_reletter, wps, x_cnd, reduceIte, Nat.reduceAdd, Nat.reduceSub, Nat.reduceEqDiff, Nat.reduceLeDiff, Nat.lt_irrefl, Nat.reduceLT, Int.cast_ofNat_Int, wq_c0, wq_c1, true_and, and_true, and_self, true_implies, forall_const, ne_eq, Decidable.not_not, not_true_eq_false, not_false_eq_true, List.map_nil, List.map_cons, List.sum_nil, List.sum_cons, List.length_cons, List.length_nil, Nat.le_refl, Nat.zero_le, reduceCtorEq, true_or, or_true, false_or, or_false, false_and, and_false, false_implies, Nat.zero_add, Nat.add_zero, Int.reduceEq, Int.reduceNe, Int.reduceLT, Int.reduceLE, Int.reduceNeg, Int.reduceToNat, Nat.not_lt_zero, Int.reduceAdd, fxs F, l0, l1, l2, l3]
          simp (disch := omega) only [w32_of]
          have go : ∀ u : Int, u = ro (aS A) (p + 1) → ∃ m2, m2 < m ∧ MP (aKeep A (aS A) (aI A)) (x_w M1 55 (rl (aS A) p + 1) (sI (aS A) p)) h' ∧ FM M (x_w M1 55 (rl (aS A) p + 1) (sI (aS A) p)) ∧ x_w M1 55 (rl (aS A) p + 1) (sI (aS A) p) 41 0 = 0 ∧ x_w M1 55 (rl (aS A) p + 1) (sI (aS A) p) 42 = M 42 ∧ ∃ p_1 : Nat, p_1 ≤ sN (aS A) ∧ m2 = 100 + (sN (aS A) - p_1) ∧ some (xI (rl (aS A) p + 1)) = some (xI (rl (aS A) p_1)) ∧ some (xI u) = some (xI (ro (aS A) p_1)) ∧ some (xI ((p : Int) + 1)) = some (xI p_1) ∧ ∀ l : Nat, 1 ≤ l → (l : Int) ≤ rl (aS A) p_1 → x_w M1 55 (rl (aS A) p + 1) (sI (aS A) p) 55 l = reM (aS A) p_1 l := fun u hu => by
            refine ⟨100 + (sN (aS A) - (p + 1)), by omega, P1.frame (fun a j ha => w_ne (by omega)) (fun j _ => w_ne (by omega)), f1.w (by decide), (w_ne (by decide)).trans t1, e42, p + 1, by omega, rfl, by rw [z1], by rw [hu], congrArg (fun z => some (xI z)) (by omega), fun l h1 h2 => ?_⟩
            rw [z1] at h2
            rw [z2]
            by_cases hl : (l : Int) = rl (aS A) p + 1
            · rw [hl, w_eq, up_1]
            · rw [w_nj hl, up_2 hl]
              exact y3 l h1 (by omega)
          exact ⟨by omega, fun c3 => go _ (by rw [z3, if_neg c3]), fun c3 => go _ (by rw [z3, if_pos c3]; omega)⟩
    · simp only [wq_g3, wq_gc, wq_g, wq_g1, wq_g2, eM_reletter, iM_reletter_0, iM_reletter_15, iM_reletter_66, iM_reletter_69, iM_reletter_70, iM_reletter_76, iM_reletter_78, iM_reletter_107, iM_reletter_108, iM_reletter_115, vM_reletter, wps, x_cnd, reduceIte, Nat.reduceAdd, Nat.reduceSub, Nat.reduceEqDiff, Nat.reduceLeDiff, Nat.lt_irrefl, Nat.reduceLT, Int.cast_ofNat_Int, wq_c0, wq_c1, true_and, and_true, and_self, true_implies, forall_const, ne_eq, Decidable.not_not, not_true_eq_false, not_false_eq_true, List.map_nil, List.map_cons, List.sum_nil, List.sum_cons, List.length_cons, List.length_nil, Nat.le_refl, Nat.zero_le, reduceCtorEq, true_or, or_true, false_or, or_false, false_and, and_false, false_implies, Nat.zero_add, Nat.add_zero, Int.reduceEq, Int.reduceNe, Int.reduceLT, Int.reduceLE, Int.reduceNeg, Int.reduceToNat, Nat.not_lt_zero, Int.reduceAdd, fxs F, l0, l1, l2, l3]
      simp (disch := omega) only [w32_of]
      have go : l ≤ 40 → ∀ v : Int, v = reM (aS A) (sN (aS A)) l → ∃ m2, m2 < m ∧ MP (aKeep A (aS A) (aI A)) (x_w M1 42 (324 + l) v) h' ∧ FM M (x_w M1 42 (324 + l) v) ∧ x_w M1 42 (324 + l) v 41 0 = 0 ∧ ∃ l_1 : Nat, 1 ≤ l_1 ∧ l_1 ≤ 41 ∧ m2 = 41 - l_1 ∧ some (xI ((l : Int) + 1)) = some (xI l_1) ∧ (∀ l_2 : Nat, 1 ≤ l_2 → (l_2 : Int) ≤ rl (aS A) (sN (aS A)) → x_w M1 42 (324 + l) v 55 l_2 = reM (aS A) (sN (aS A)) l_2) ∧ (∀ k : Nat, 1 ≤ k → k < l_1 → x_w M1 42 (324 + l) v 42 (324 + k) = reM (aS A) (sN (aS A)) k) ∧ ∀ j : Int, ¬ (325 ≤ j ∧ j < 365) → x_w M1 42 (324 + l) v 42 j = M 42 j := fun hl v hv => by
        refine ⟨41 - (l + 1), by omega, P1.w42, f1.w (by decide), (w_ne (by decide)).trans t1, l + 1, by omega, by omega, rfl, congrArg (fun z => some (xI z)) (by omega), fun k h1 h2 => (w_ne (by decide)).trans (y4 k h1 h2), fun k k1 k2 => ?_, fun j hj => (w_nj (by omega)).trans (y6 j hj)⟩
        by_cases hk : k = l
        · subst hk
          rw [w_eq, hv]
        · rw [w_nj (by omega)]
          exact y5 k k1 (by omega)
      have hre := (reM_at W.w (Nat.le_refl (sN (aS A))) l).1
      refine ⟨fun c0 => ?_, fun c0 => ⟨fun c1 => ⟨by omega, go (by omega) _ (hre (Or.inr c1)).symm⟩, fun c1 => ⟨by omega, by omega, go (by omega) _ (y4 l y1 (by omega))⟩⟩⟩
      have hl : l = 41 := by omega
      subst hl
      exact k _ M1 (P1.chg (W.G.marks rfl hN rfl rfl (fun _ => rfl) rfl rfl rfl rfl (fun k k1 k2 => y5 k k1 (by omega)) y6) W.w.letS) f1 (ma_v t1 rfl)
theorem cM_noteNow' (F : Fx h) (w : wfS S nid) (L : LK S M) {part p : Nat} (h6 : part < 6) (hp : p < sN S) (hw : M 42 (154 + p) = pkw S p) (k : Φ (.inl (some (xI (pk4 (lab S p) (lt S p) (sB S p) (sC S part p))))) M h) : x_Cal zM_noteNow [xA 41, xI part, xI p] M h Φ := by
  have hN := w.N
  refine x_met0 kM_noteNow (Nat.le_of_ble_eq_true rfl) ?_
  simp only [wq_g3, wq_gc, wq_g, wq_g1, wq_g2, eM_noteNow, iM_noteNow_0, vM_noteNow, wps, x_cnd, reduceIte, Nat.reduceAdd, Nat.reduceSub, Nat.reduceEqDiff, Nat.reduceLeDiff, Nat.lt_irrefl, Nat.reduceLT, Int.cast_ofNat_Int, wq_c0, wq_c1, true_and, and_true, and_self, true_implies, forall_const, ne_eq, Decidable.not_not, not_true_eq_false, not_false_eq_true, List.map_nil, List.map_cons, List.sum_nil, List.sum_cons, List.length_cons, List.length_nil, Nat.le_refl, Nat.zero_le, reduceCtorEq, true_or, or_true, false_or, or_false, false_and, and_false, false_implies, Nat.zero_add, Nat.add_zero, Int.reduceEq, Int.reduceNe, Int.reduceLT, Int.reduceLE, Int.reduceNeg, Int.reduceToNat, Nat.not_lt_zero, Int.reduceAdd, fxs F]
  rw [L.lab hp, L.lt hp]
  refine ⟨by omega, by omega, cM_whatAt F (by omega) ?_⟩
  rw [hw]
  simp only [wq_g3, wq_gc, wq_g, wq_g1, wq_g2, eM_noteNow, iM_noteNow_0, vM_noteNow, wps, x_cnd, reduceIte, Nat.reduceAdd, Nat.reduceSub, Nat.reduceEqDiff, Nat.reduceLeDiff, Nat.lt_irrefl, Nat.reduceLT, Int.cast_ofNat_Int, wq_c0, wq_c1, true_and, and_true, and_self, true_implies, forall_const, ne_eq, Decidable.not_not, not_true_eq_false, not_false_eq_true, List.map_nil, List.map_cons, List.sum_nil, List.sum_cons, List.length_cons, List.length_nil, Nat.le_refl, Nat.zero_le, reduceCtorEq, true_or, or_true, false_or, or_false, false_and, and_false, false_implies, Nat.zero_add, Nat.add_zero, Int.reduceEq, Int.reduceNe, Int.reduceLT, Int.reduceLE, Int.reduceNeg, Int.reduceToNat, Nat.not_lt_zero, Int.reduceAdd, fxs F]
  refine cM_beatsIn w hp ?_
  simp only [wq_g3, wq_gc, wq_g, wq_g1, wq_g2, eM_noteNow, iM_noteNow_0, vM_noteNow, wps, x_cnd, reduceIte, Nat.reduceAdd, Nat.reduceSub, Nat.reduceEqDiff, Nat.reduceLeDiff, Nat.lt_irrefl, Nat.reduceLT, Int.cast_ofNat_Int, wq_c0, wq_c1, true_and, and_true, and_self, true_implies, forall_const, ne_eq, Decidable.not_not, not_true_eq_false, not_false_eq_true, List.map_nil, List.map_cons, List.sum_nil, List.sum_cons, List.length_cons, List.length_nil, Nat.le_refl, Nat.zero_le, reduceCtorEq, true_or, or_true, false_or, or_false, false_and, and_false, false_implies, Nat.zero_add, Nat.add_zero, Int.reduceEq, Int.reduceNe, Int.reduceLT, Int.reduceLE, Int.reduceNeg, Int.reduceToNat, Nat.not_lt_zero, Int.reduceAdd, fxs F]
  refine x_met0 kM_contentAt (Nat.le_of_ble_eq_true rfl) ?_
  simp only [wq_g3, wq_gc, wq_g, wq_g1, wq_g2, eM_contentAt, iM_contentAt_0, vM_contentAt, wps, x_cnd, reduceIte, Nat.reduceAdd, Nat.reduceSub, Nat.reduceEqDiff, Nat.reduceLeDiff, Nat.lt_irrefl, Nat.reduceLT, Int.cast_ofNat_Int, wq_c0, wq_c1, true_and, and_true, and_self, true_implies, forall_const, ne_eq, Decidable.not_not, not_true_eq_false, not_false_eq_true, List.map_nil, List.map_cons, List.sum_nil, List.sum_cons, List.length_cons, List.length_nil, Nat.le_refl, Nat.zero_le, reduceCtorEq, true_or, or_true, false_or, or_false, false_and, and_false, false_implies, Nat.zero_add, Nat.add_zero, Int.reduceEq, Int.reduceNe, Int.reduceLT, Int.reduceLE, Int.reduceNeg, Int.reduceToNat, Nat.not_lt_zero, Int.reduceAdd, fxs F]
  refine cM_whatAt F (by omega) ?_
  rw [hw]
  simp only [wq_g3, wq_gc, wq_g, wq_g1, wq_g2, eM_contentAt, iM_contentAt_0, vM_contentAt, wps, x_cnd, reduceIte, Nat.reduceAdd, Nat.reduceSub, Nat.reduceEqDiff, Nat.reduceLeDiff, Nat.lt_irrefl, Nat.reduceLT, Int.cast_ofNat_Int, wq_c0, wq_c1, true_and, and_true, and_self, true_implies, forall_const, ne_eq, Decidable.not_not, not_true_eq_false, not_false_eq_true, List.map_nil, List.map_cons, List.sum_nil, List.sum_cons, List.length_cons, List.length_nil, Nat.le_refl, Nat.zero_le, reduceCtorEq, true_or, or_true, false_or, or_false, false_and, and_false, false_implies, Nat.zero_add, Nat.add_zero, Int.reduceEq, Int.reduceNe, Int.reduceLT, Int.reduceLE, Int.reduceNeg, Int.reduceToNat, Nat.not_lt_zero, Int.reduceAdd, fxs F]
  refine cM_contentIn w hp h6 ?_
  simp only [wq_g3, wq_gc, wq_g, wq_g1, wq_g2, eM_contentAt, iM_contentAt_0, vM_contentAt, wps, x_cnd, reduceIte, Nat.reduceAdd, Nat.reduceSub, Nat.reduceEqDiff, Nat.reduceLeDiff, Nat.lt_irrefl, Nat.reduceLT, Int.cast_ofNat_Int, wq_c0, wq_c1, true_and, and_true, and_self, true_implies, forall_const, ne_eq, Decidable.not_not, not_true_eq_false, not_false_eq_true, List.map_nil, List.map_cons, List.sum_nil, List.sum_cons, List.length_cons, List.length_nil, Nat.le_refl, Nat.zero_le, reduceCtorEq, true_or, or_true, false_or, or_false, false_and, and_false, false_implies, Nat.zero_add, Nat.add_zero, Int.reduceEq, Int.reduceNe, Int.reduceLT, Int.reduceLE, Int.reduceNeg, Int.reduceToNat, Nat.not_lt_zero, Int.reduceAdd, fxs F]
  refine x_met0 kM_noteOf (Nat.le_of_ble_eq_true rfl) ?_
  simp only [wq_g3, wq_gc, wq_g, wq_g1, wq_g2, eM_noteOf, iM_noteOf_0, vM_noteOf, wps, x_cnd, reduceIte, Nat.reduceAdd, Nat.reduceSub, Nat.reduceEqDiff, Nat.reduceLeDiff, Nat.lt_irrefl, Nat.reduceLT, Int.cast_ofNat_Int, wq_c0, wq_c1, true_and, and_true, and_self, true_implies, forall_const, ne_eq, Decidable.not_not, not_true_eq_false, not_false_eq_true, List.map_nil, List.map_cons, List.sum_nil, List.sum_cons, List.length_cons, List.length_nil, Nat.le_refl, Nat.zero_le, reduceCtorEq, true_or, or_true, false_or, or_false, false_and, and_false, false_implies, Nat.zero_add, Nat.add_zero, Int.reduceEq, Int.reduceNe, Int.reduceLT, Int.reduceLE, Int.reduceNeg, Int.reduceToNat, Nat.not_lt_zero, Int.reduceAdd]
  rw [x_note (lab_rng hp w) (show 0 ≤ lt S p ∧ lt S p ≤ 40 from lt_rng) (w.b hp) (w.c hp h6)]
  exact k
theorem SG.print {f f' : Int → Int} (G : SG S f) (hN : sN S ≤ 150) {part : Nat} (h6 : part < 6) (h3 : f' 3 = bs (fun p => sQ (prS S part) p == 1) 6) (hn : NT (ntS S part) part f') (hf : ∀ k : Int, k ≠ 3 → k ≠ 365 + part → ¬ (371 + 300 * part ≤ k ∧ k < 671 + 300 * part) → f' k = f k) : SG (prS S part) f' := by
  obtain ⟨⟨a1, a2, a3, a4⟩, b, c, d, n⟩ := G
  refine ⟨⟨(hf 0 (by omega) (by omega) (by omega)).trans a1, (hf 1 (by omega) (by omega) (by omega)).trans a2, (hf 2 (by omega) (by omega) (by omega)).trans a3, h3⟩, fun p hp => ?_, fun c' hc hne => ⟨(hf _ (by omega) (by omega) (by omega)).trans (c c' hc hne).1, (hf _ (by omega) (by omega) (by omega)).trans (c c' hc hne).2⟩, fun l h1 h2 => (hf _ (by omega) (by omega) (by omega)).trans (d l h1 h2), fun q hq hqq => ?_⟩
  · have hp : p < sN S := hp
    rw [hf _ (by omega) (by omega) (by omega), hf _ (by omega) (by omega) (by omega)]
    exact b p hp
  · show NT (if (q : Int) = part then ntS S part else sR S q) q f'
    by_cases hqp : q = part
    · subst hqp
      rw [if_pos rfl]
      exact hn
    · rw [if_neg (by omega)]
      have hqq : up part 1 (sQ S) q = 1 := hqq
      rw [up_2 (by omega)] at hqq
      obtain ⟨K, k1, k2, k3, k4⟩ := n q hq hqq
      refine ⟨K, k1, (hf _ (by omega) (by omega) (by omega)).trans k2, fun k hk => ?_, fun id hid => ?_⟩
      · rw [hf _ (by omega) (by omega) (by omega), hf _ (by omega) (by omega) (by omega)]
        exact k3 k hk
      · obtain ⟨k, hk, hk2⟩ := k4 id hid
        exact ⟨k, hk, (hf _ (by omega) (by omega) (by omega)).trans hk2⟩
def PB (S : xSr) (part : Int) (f : Int → Int) : Prop := ∃ fz : Int → Int, SG S fz ∧ ∀ j : Int, j ≠ 3 → j ≠ 365 + part → ¬ (371 + 300 * part ≤ j ∧ j < 671 + 300 * part) → f j = fz j
theorem cM_print (W : MW A M h) {part : Int} (k : ∀ u M', MW (dPrint A part).2 M' h → FM M M' → MA (xk [2]) (dPrint A part).1 u M' → Φ (.inl (some (xI u))) M' h) : x_Cal zM_print [xA 41, xI part] M h Φ := by
  have F := W.F
  have hN := W.w.N
  have hP := W.w.P
  have hpn := pN_rng (S := aS A)
  unfold dPrint at k
  refine x_metI kM_print (Nat.le_of_ble_eq_true rfl) (fun t m ls st M' h' c2 n2 => t = 63 ∧ st = [] ∧ h' = h ∧ c2 = 0 ∧ n2 = 0 ∧ ls 0 = some (xA 41) ∧ ls 1 = some (xI part) ∧ MP (aKeep A (aS A) (aI A)) M' h ∧ FM M M' ∧ M' 41 0 = 0 ∧ LK (aS A) M' ∧ M' 41 28 = itN (aS A) part ∧ (0 ≤ part ∧ part < sP (aS A)) ∧ M' 42 3 = bs (fun p => up part 1 (sQ (aS A)) p == 1) 6 ∧ M' 42 (365 + part) = pN (aS A) ∧ PB (aS A) part (M' 42) ∧ ∃ p : Nat, (p : Int) ≤ pN (aS A) ∧ m = (pN (aS A)).toNat - p ∧ ls 2 = some (xI p) ∧ ∀ q : Nat, q < p → M' 42 (371 + 300 * part + 2 * q) = sI (aS A) (pp (aS A) q) ∧ M' 42 (371 + 300 * part + 2 * q + 1) = pk4 (lab (aS A) (pp (aS A) q).toNat) (lt (aS A) (pp (aS A) q)) (sB (aS A) (pp (aS A) q)) (sC (aS A) part (pp (aS A) q))) 20 ?_ ?_
  · simp only [wq_g3, wq_gc, wq_g, wq_g1, wq_g2, eM_print, iM_print_0, iM_print_13, iM_print_14, iM_print_22, iM_print_63, iM_print_120, vM_print, wps, x_cnd, reduceIte, Nat.reduceAdd, Nat.reduceSub, Nat.reduceEqDiff, Nat.reduceLeDiff, Nat.lt_irrefl, Nat.reduceLT, Int.cast_ofNat_Int, wq_c0, wq_c1, true_and, and_true, and_self, true_implies, forall_const, ne_eq, Decidable.not_not, not_true_eq_false, not_false_eq_true, List.map_nil, List.map_cons, List.sum_nil, List.sum_cons, List.length_cons, List.length_nil, Nat.le_refl, Nat.zero_le, reduceCtorEq, true_or, or_true, false_or, or_false, false_and, and_false, false_implies, Nat.zero_add, Nat.add_zero, Int.reduceEq, Int.reduceNe, Int.reduceLT, Int.reduceLE, Int.reduceNeg, Int.reduceToNat, Nat.not_lt_zero, Int.reduceAdd, fxs F]
    refine cM_isPart F W.G W.w ?_
    simp only [wq_g3, wq_gc, wq_g, wq_g1, wq_g2, eM_print, iM_print_0, iM_print_13, iM_print_14, iM_print_22, iM_print_63, iM_print_120, vM_print, wps, x_cnd, reduceIte, Nat.reduceAdd, Nat.reduceSub, Nat.reduceEqDiff, Nat.reduceLeDiff, Nat.lt_irrefl, Nat.reduceLT, Int.cast_ofNat_Int, wq_c0, wq_c1, true_and, and_true, and_self, true_implies, forall_const, ne_eq, Decidable.not_not, not_true_eq_false, not_false_eq_true, List.map_nil, List.map_cons, List.sum_nil, List.sum_cons, List.length_cons, List.length_nil, Nat.le_refl, Nat.zero_le, reduceCtorEq, true_or, or_true, false_or, or_false, false_and, and_false, false_implies, Nat.zero_add, Nat.add_zero, Int.reduceEq, Int.reduceNe, Int.reduceLT, Int.reduceLE, Int.reduceNeg, Int.reduceToNat, Nat.not_lt_zero, Int.reduceAdd, fxs F, b01_0]
    refine ⟨fun c0 => cM_ref1 F (by decide) ?_, fun c0 => cM_ref0 F ?_⟩
    · simp only [wq_g3, wq_gc, wq_g, wq_g1, wq_g2, eM_print, iM_print_0, iM_print_13, iM_print_14, iM_print_22, iM_print_63, iM_print_120, vM_print, wps, x_cnd, reduceIte, Nat.reduceAdd, Nat.reduceSub, Nat.reduceEqDiff, Nat.reduceLeDiff, Nat.lt_irrefl, Nat.reduceLT, Int.cast_ofNat_Int, wq_c0, wq_c1, true_and, and_true, and_self, true_implies, forall_const, ne_eq, Decidable.not_not, not_true_eq_false, not_false_eq_true, List.map_nil, List.map_cons, List.sum_nil, List.sum_cons, List.length_cons, List.length_nil, Nat.le_refl, Nat.zero_le, reduceCtorEq, true_or, or_true, false_or, or_false, false_and, and_false, false_implies, Nat.zero_add, Nat.add_zero, Int.reduceEq, Int.reduceNe, Int.reduceLT, Int.reduceLE, Int.reduceNeg, Int.reduceToNat, Nat.not_lt_zero, Int.reduceAdd, fxs F]
      rw [if_neg c0] at k
      exact k _ _ W.thr (FM.r.w (by decide)) (ma_e w_eq rfl rfl)
    · simp only [wq_g3, wq_gc, wq_g, wq_g1, wq_g2, eM_print, iM_print_0, iM_print_13, iM_print_14, iM_print_22, iM_print_63, iM_print_120, vM_print, wps, x_cnd, reduceIte, Nat.reduceAdd, Nat.reduceSub, Nat.reduceEqDiff, Nat.reduceLeDiff, Nat.lt_irrefl, Nat.reduceLT, Int.cast_ofNat_Int, wq_c0, wq_c1, true_and, and_true, and_self, true_implies, forall_const, ne_eq, Decidable.not_not, not_true_eq_false, not_false_eq_true, List.map_nil, List.map_cons, List.sum_nil, List.sum_cons, List.length_cons, List.length_nil, Nat.le_refl, Nat.zero_le, reduceCtorEq, true_or, or_true, false_or, or_false, false_and, and_false, false_implies, Nat.zero_add, Nat.add_zero, Int.reduceEq, Int.reduceNe, Int.reduceLT, Int.reduceLE, Int.reduceNeg, Int.reduceToNat, Nat.not_lt_zero, Int.reduceAdd, fxs F]
      obtain ⟨q, rfl⟩ : ∃ q : Nat, part = q := ⟨part.toNat, by omega⟩
      have h6 : q < 6 := by omega
      refine cM_remembers W.thr (fun M2 P2 f2 => ?_)
      have e42 : M2 42 = M 42 := funext (fun j => (f2 42 j (by decide) (by omega)).trans (w_ne (by decide)))
      have G2 : SG (aS A) (M2 42) := by rw [e42]; exact W.G
      have W2 : MW (aKeep A (aS A) (aI A)) M2 h := P2.chg G2 W.w
      simp only [wq_g3, wq_gc, wq_g, wq_g1, wq_g2, eM_print, iM_print_0, iM_print_13, iM_print_14, iM_print_22, iM_print_63, iM_print_120, vM_print, wps, x_cnd, reduceIte, Nat.reduceAdd, Nat.reduceSub, Nat.reduceEqDiff, Nat.reduceLeDiff, Nat.lt_irrefl, Nat.reduceLT, Int.cast_ofNat_Int, wq_c0, wq_c1, true_and, and_true, and_self, true_implies, forall_const, ne_eq, Decidable.not_not, not_true_eq_false, not_false_eq_true, List.map_nil, List.map_cons, List.sum_nil, List.sum_cons, List.length_cons, List.length_nil, Nat.le_refl, Nat.zero_le, reduceCtorEq, true_or, or_true, false_or, or_false, false_and, and_false, false_implies, Nat.zero_add, Nat.add_zero, Int.reduceEq, Int.reduceNe, Int.reduceLT, Int.reduceLE, Int.reduceNeg, Int.reduceToNat, Nat.not_lt_zero, Int.reduceAdd, fxs F]
      refine cM_laysItems W2 h6 (fun M3 W3 L3 I3 f3 t3 => ?_)
      have G3 : SG (aS A) (M3 42) := W3.G
      have e3 := G3.q
      have en := L3.n
      simp only [wq_g3, wq_gc, wq_g, wq_g1, wq_g2, eM_print, iM_print_0, iM_print_13, iM_print_14, iM_print_22, iM_print_63, iM_print_120, vM_print, wps, x_cnd, reduceIte, Nat.reduceAdd, Nat.reduceSub, Nat.reduceEqDiff, Nat.reduceLeDiff, Nat.lt_irrefl, Nat.reduceLT, Int.cast_ofNat_Int, wq_c0, wq_c1, true_and, and_true, and_self, true_implies, forall_const, ne_eq, Decidable.not_not, not_true_eq_false, not_false_eq_true, List.map_nil, List.map_cons, List.sum_nil, List.sum_cons, List.length_cons, List.length_nil, Nat.le_refl, Nat.zero_le, reduceCtorEq, true_or, or_true, false_or, or_false, false_and, and_false, false_implies, Nat.zero_add, Nat.add_zero, Int.reduceEq, Int.reduceNe, Int.reduceLT, Int.reduceLE, Int.reduceNeg, Int.reduceToNat, Nat.not_lt_zero, Int.reduceAdd, fxs F, e3]
      simp (disch := decide) only [w_ne, w_eq, w_nj]
      simp (disch := omega) only [w32_of]
      rw [show M3 41 26 = pN (aS A) from en]
      have hon : x_or (bs (fun p => sQ (aS A) p == 1) 6) (x_shl 1 q) = bs (fun p => up q 1 (sQ (aS A)) p == 1) 6 := bs_on h6 (by decide) (fun r _ hne => by
        show (up q 1 (sQ (aS A)) r == 1) = (sQ (aS A) r == 1)
        rw [up_2 (by omega)]) (by
        show (up q 1 (sQ (aS A)) q == 1) = true
        rw [up_1]
        rfl)
      rw [hon]
      have hfm : FM M M3 := fun a j ha => by rw [f3 a j ha, f2 a j (by omega) (by omega), w_ne (by omega)]
      have ht3 : M3 41 0 = 0 := by rw [t3, f2 41 0 (by decide) (by decide), w_eq]
      refine ⟨by omega, (pN (aS A)).toNat - 0, W3.mp.w42.w42, (hfm.w (by decide)).w (by decide), ht3, (L3.frame (fun a j h1 h2 => by rw [w_ne (by omega), w_ne (by omega)]) (by rw [w_ne (by decide), w_ne (by decide)])), I3.1, c0, by rw [w_nj (by omega), w_eq], by rw [w_eq], ⟨M3 42, G3, fun j h1 h2 _ => by rw [w_nj h2, w_nj h1]⟩, 0, by omega, rfl, by rw [Int.natCast_zero], fun r hr => by omega⟩
  · rintro t m ls st M1 h' c2 n2 ⟨rfl, rfl, rfl, rfl, rfl, l0, l1, P1, f1, t1, L1, i1, c0, y1, y2, ⟨fz, gz, y3⟩, p, y4, y5, l2, y6⟩
    have en := L1.n
    obtain ⟨q, rfl⟩ : ∃ q : Nat, part = q := ⟨part.toNat, by omega⟩
    have h6 : q < 6 := by omega
    simp only [wq_g3, wq_gc, wq_g, wq_g1, wq_g2, eM_print, iM_print_0, iM_print_13, iM_print_14, iM_print_22, iM_print_63, iM_print_120, vM_print, wps, x_cnd, reduceIte, Nat.reduceAdd, Nat.reduceSub, Nat.reduceEqDiff, Nat.reduceLeDiff, Nat.lt_irrefl, Nat.reduceLT, Int.cast_ofNat_Int, wq_c0, wq_c1, true_and, and_true, and_self, true_implies, forall_const, ne_eq, Decidable.not_not, not_true_eq_false, not_false_eq_true, List.map_nil, List.map_cons, List.sum_nil, List.sum_cons, List.length_cons, List.length_nil, Nat.le_refl, Nat.zero_le, reduceCtorEq, true_or, or_true, false_or, or_false, false_and, and_false, false_implies, Nat.zero_add, Nat.add_zero, Int.reduceEq, Int.reduceNe, Int.reduceLT, Int.reduceLE, Int.reduceNeg, Int.reduceToNat, Nat.not_lt_zero, Int.reduceAdd, fxs F, l0, l1, l2, en, i1]
    refine ⟨fun c1 => ?_, fun c1 => cM_noteAt h6 (by omega) ?_⟩
    · have hp : (p : Int) = pN (aS A) := by omega
      rw [if_pos c0] at k
      refine k _ M1 (P1.chg (gz.print hN h6 y1 ⟨p, by omega, by rw [y2, hp], fun r hr => ?_, fun id hid => ?_⟩ y3) (W.w.prS h6)) f1 (ma_v t1 rfl)
      · obtain ⟨z1, z2⟩ := y6 r hr
        obtain ⟨u, u1, u2, u3, u4⟩ := pp_some (S := aS A) (k := (r : Int)) (by omega) (by omega)
        rw [u4] at z1 z2
        have hnt : ntS (aS A) q (sI (aS A) u) = pk4 (lab (aS A) u) (lt (aS A) u) (sB (aS A) u) (sC (aS A) q u) := by
          unfold ntS
          rw [pl_at W.w u1, if_pos ⟨by omega, u2⟩]
          rfl
        have hr1 := pk4_lt (lab_rng u1 W.w) (show 0 ≤ lt (aS A) u ∧ lt (aS A) u ≤ 40 from lt_rng) (W.w.b u1) (W.w.c u1 h6)
        have hid := W.w.id u1
        rw [z1, z2, hnt]
        exact ⟨hid.1, rfl, by omega⟩
      · unfold ntS at hid
        by_cases hc : pl (aS A) id ≠ -1 ∧ isP (aS A) (pl (aS A) id) = true
        · obtain ⟨u, u1, u2, u3⟩ := pl_some hc.1
          rw [u2] at hc
          have hpb := pb_rng (S := aS A) (p := u)
          have hlt := pb_lt u1 hc.2
          have hpp := pp_at u1 hc.2
          obtain ⟨r, hr⟩ : ∃ r : Nat, pb (aS A) u = r := ⟨(pb (aS A) u).toNat, by omega⟩
          rw [hr] at hpp hlt
          refine ⟨r, by omega, ?_⟩
          rw [(y6 r (by omega)).1, hpp]
          exact u3
        · rw [if_neg hc] at hid
          exact absurd rfl hid
    · obtain ⟨r, r1, r2, r3, r4⟩ := pp_some (S := aS A) (k := p) (by omega) (by omega)
      simp only [wq_g3, wq_gc, wq_g, wq_g1, wq_g2, eM_print, iM_print_0, iM_print_13, iM_print_14, iM_print_22, iM_print_63, iM_print_120, vM_print, wps, x_cnd, reduceIte, Nat.reduceAdd, Nat.reduceSub, Nat.reduceEqDiff, Nat.reduceLeDiff, Nat.lt_irrefl, Nat.reduceLT, Int.cast_ofNat_Int, wq_c0, wq_c1, true_and, and_true, and_self, true_implies, forall_const, ne_eq, Decidable.not_not, not_true_eq_false, not_false_eq_true, List.map_nil, List.map_cons, List.sum_nil, List.sum_cons, List.length_cons, List.length_nil, Nat.le_refl, Nat.zero_le, reduceCtorEq, true_or, or_true, false_or, or_false, false_and, and_false, false_implies, Nat.zero_add, Nat.add_zero, Int.reduceEq, Int.reduceNe, Int.reduceLT, Int.reduceLE, Int.reduceNeg, Int.reduceToNat, Nat.not_lt_zero, Int.reduceAdd, fxs F, l0, l1, l2]
      rw [L1.pp (by omega), r4]
      refine ⟨by omega, cM_idAt F (by omega) ?_⟩
      have hid : M1 42 (4 + r) = sI (aS A) r := (y3 _ (by omega) (by omega) (by omega)).trans (SG.id (M := fun a => if a = 42 then fz else M1 a) gz r1)
      have hwt : M1 42 (154 + r) = pkw (aS A) r := (y3 _ (by omega) (by omega) (by omega)).trans (SG.w (M := fun a => if a = 42 then fz else M1 a) gz r1)
      have hpK : p < 150 := by omega
      rw [hid]
      simp only [wq_g3, wq_gc, wq_g, wq_g1, wq_g2, eM_print, iM_print_0, iM_print_13, iM_print_14, iM_print_22, iM_print_63, iM_print_120, vM_print, wps, x_cnd, reduceIte, Nat.reduceAdd, Nat.reduceSub, Nat.reduceEqDiff, Nat.reduceLeDiff, Nat.lt_irrefl, Nat.reduceLT, Int.cast_ofNat_Int, wq_c0, wq_c1, true_and, and_true, and_self, true_implies, forall_const, ne_eq, Decidable.not_not, not_true_eq_false, not_false_eq_true, List.map_nil, List.map_cons, List.sum_nil, List.sum_cons, List.length_cons, List.length_nil, Nat.le_refl, Nat.zero_le, reduceCtorEq, true_or, or_true, false_or, or_false, false_and, and_false, false_implies, Nat.zero_add, Nat.add_zero, Int.reduceEq, Int.reduceNe, Int.reduceLT, Int.reduceLE, Int.reduceNeg, Int.reduceToNat, Nat.not_lt_zero, Int.reduceAdd, fxs F, l0, l1, l2]
      refine ⟨om_c (K := 150) h6 hpK (Nat.le_refl _), cM_noteAt h6 (Nat.le_of_lt hpK) ?_⟩
      simp only [wq_g3, wq_gc, wq_g, wq_g1, wq_g2, eM_print, iM_print_0, iM_print_13, iM_print_14, iM_print_22, iM_print_63, iM_print_120, vM_print, wps, x_cnd, reduceIte, Nat.reduceAdd, Nat.reduceSub, Nat.reduceEqDiff, Nat.reduceLeDiff, Nat.lt_irrefl, Nat.reduceLT, Int.cast_ofNat_Int, wq_c0, wq_c1, true_and, and_true, and_self, true_implies, forall_const, ne_eq, Decidable.not_not, not_true_eq_false, not_false_eq_true, List.map_nil, List.map_cons, List.sum_nil, List.sum_cons, List.length_cons, List.length_nil, Nat.le_refl, Nat.zero_le, reduceCtorEq, true_or, or_true, false_or, or_false, false_and, and_false, false_implies, Nat.zero_add, Nat.add_zero, Int.reduceEq, Int.reduceNe, Int.reduceLT, Int.reduceLE, Int.reduceNeg, Int.reduceToNat, Nat.not_lt_zero, Int.reduceAdd, fxs F, l0, l1, l2]
      simp (disch := decide) only [w_ne, w_eq, w_nj]
      rw [L1.pp (by omega), r4, om_d (K := 150) h6 hpK (Nat.le_refl _)]
      have hw2 : x_w M1 42 (371 + 300 * q + 2 * p) (sI (aS A) r) 42 (154 + r) = pkw (aS A) r := (w_nj (by omega)).trans hwt
      have L2 : LK (aS A) (x_w M1 42 (371 + 300 * q + 2 * p) (sI (aS A) r)) := L1.frame (fun a j h1 h2 => w_ne (by omega)) (w_ne (by decide))
      refine ⟨by omega, cM_noteNow' F W.w L2 h6 r1 hw2 ?_⟩
      simp only [wq_g3, wq_gc, wq_g, wq_g1, wq_g2, eM_print, iM_print_0, iM_print_13, iM_print_14, iM_print_22, iM_print_63, iM_print_120, vM_print, wps, x_cnd, reduceIte, Nat.reduceAdd, Nat.reduceSub, Nat.reduceEqDiff, Nat.reduceLeDiff, Nat.lt_irrefl, Nat.reduceLT, Int.cast_ofNat_Int, wq_c0, wq_c1, true_and, and_true, and_self, true_implies, forall_const, ne_eq, Decidable.not_not, not_true_eq_false, not_false_eq_true, List.map_nil, List.map_cons, List.sum_nil, List.sum_cons, List.length_cons, List.length_nil, Nat.le_refl, Nat.zero_le, reduceCtorEq, true_or, or_true, false_or, or_false, false_and, and_false, false_implies, Nat.zero_add, Nat.add_zero, Int.reduceEq, Int.reduceNe, Int.reduceLT, Int.reduceLE, Int.reduceNeg, Int.reduceToNat, Nat.not_lt_zero, Int.reduceAdd, fxs F, l0, l1, l2]
      have he := om_e (K := 150) h6 hpK (Nat.le_refl _)
      rw [w32_of (x := (p : Int) + 1) (by omega)]
      refine ⟨he, (pN (aS A)).toNat - (p + 1), by omega, P1.w42.w42, (f1.w (by decide)).w (by decide), (w_ne (by decide)).trans ((w_ne (by decide)).trans t1), L2.frame (fun a j h1 h2 => w_ne (by omega)) (w_ne (by decide)), (w_ne (by decide)).trans ((w_ne (by decide)).trans i1), c0, by rw [w_nj (by omega), w_nj (by omega)]; exact y1, by rw [w_nj (by omega), w_nj (by omega)]; exact y2, ⟨fz, gz, fun j h1 h2 h3 => by rw [w_nj (by omega), w_nj (by omega)]; exact y3 j h1 h2 h3⟩, p + 1, by omega, rfl, congrArg (fun z => some (xI z)) (by omega), fun u hu => ?_⟩
      by_cases hup : u = p
      · subst hup
        rw [w_nj (by omega), w_eq, w_eq, r4, Int.toNat_natCast]
        exact ⟨rfl, rfl⟩
      · rw [w_nj (by omega), w_nj (by omega), w_nj (by omega), w_nj (by omega)]
        exact y6 u (by omega)
end MLET
