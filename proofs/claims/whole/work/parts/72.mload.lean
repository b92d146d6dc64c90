/-! the model's load -/
section MLOAD
variable {B : Int → Int} {n x : Nat} {l : Bool} {R R' : xRd} {M M' M0 : xM} {h : xH} {Φ : xO → xM → xH → Prop} {S : xSr} {A : xAb}
set_option maxHeartbeats 1000000
theorem cM_clears (F : Fx h) (k : ∀ M', (∀ j : Int, 0 ≤ j → j < 2171 → M' 43 j = if 324 ≤ j ∧ j ≤ 364 then -1 else 0) → (∀ a j, a ≠ 43 → M' a j = M a j) → Φ (.inl none) M' h) : x_Cal zM_clears [xA 41] M h Φ := by
  refine x_metI kM_clears (Nat.le_of_ble_eq_true rfl) (fun t m ls st M' h' c n2 => st = [] ∧ h' = h ∧ c = 0 ∧ n2 = 0 ∧ ls 0 = some (xA 41) ∧ (∀ a j, a ≠ 43 → M' a j = M a j) ∧ ∃ p : Nat, ls 1 = some (xI p) ∧ ((t = 2 ∧ p ≤ 2171 ∧ m = 5000 - p ∧ ∀ j : Int, 0 ≤ j → j < p → M' 43 j = 0) ∨ (t = 24 ∧ p ≤ 41 ∧ m = 41 - p ∧ ∀ j : Int, 0 ≤ j → j < 2171 → M' 43 j = if 324 ≤ j ∧ j < 324 + p then -1 else 0))) 20 ?_ ?_
  · simp only [wq_g3, wq_gc, wq_g, wq_g1, wq_g2, eM_clears, iM_clears_0, iM_clears_2, iM_clears_22, iM_clears_24, iM_clears_47, vM_clears, wps, x_cnd, reduceIte, Nat.reduceAdd, Nat.reduceSub, Nat.reduceEqDiff, Nat.reduceLeDiff, Nat.lt_irrefl, Nat.reduceLT, Int.cast_ofNat_Int, wq_c0, wq_c1, true_and, and_true, and_self, true_implies, forall_const, ne_eq, Decidable.not_not, not_true_eq_false, not_false_eq_true, List.map_nil, List.map_cons, List.sum_nil, List.sum_cons, List.length_cons, List.length_nil, Nat.le_refl, Nat.zero_le, reduceCtorEq, true_or, or_true, false_or, or_false, false_and, and_false, false_implies, Nat.zero_add, Nat.add_zero, Int.reduceEq, Int.reduceNe, Int.reduceLT, Int.reduceLE, Int.reduceNeg, Int.reduceToNat, Nat.not_lt_zero, Int.reduceAdd, fxs F]
    exact ⟨5000 - 0, fun _ _ => trivial, 0, rfl, by omega, rfl, fun j h1 h2 => by omega⟩
  · rintro t m ls st M1 h' c n2 ⟨rfl, rfl, rfl, rfl, l0, f, p, l1, ⟨rfl, y1, y2, y3⟩ | ⟨rfl, y1, y2, y3⟩⟩
    · simp only [wq_g3, wq_gc, wq_g, wq_g1, wq_g2, eM_clears, iM_clears_0, iM_clears_2, iM_clears_22, iM_clears_24, iM_clears_47, vM_clears, wps, x_cnd, reduceIte, Nat.reduceAdd, Nat.reduceSub, Nat.reduceEqDiff, Nat.reduceLeDiff, Nat.lt_irrefl, Nat.reduceLT, Int.cast_ofNat_Int, wq_c0, wq_c1, true_and, and_true, and_self, true_implies, forall_const, ne_eq, Decidable.not_not, not_true_eq_false, not_false_eq_true, List.map_nil, List.map_cons, List.sum_nil, List.sum_cons, List.length_cons, List.length_nil, Nat.le_refl, Nat.zero_le, reduceCtorEq, true_or, or_true, false_or, or_false, false_and, and_false, false_implies, Nat.zero_add, Nat.add_zero, Int.reduceEq, Int.reduceNe, Int.reduceLT, Int.reduceLE, Int.reduceNeg, Int.reduceToNat, Nat.not_lt_zero, Int.reduceAdd, fxs F, l0, l1]
      simp (disch := omega) only [w32_of]
      refine ⟨fun c0 => ⟨41 - 0, by omega, f, 0, rfl, by omega, rfl, fun j h1 h2 => ?_⟩, fun c0 => ⟨by omega, 5000 - (p + 1), by omega, fun a j ha => (w_ne ha).trans (f a j ha), p + 1, congrArg (fun z => some (xI z)) (by omega), by omega, rfl, fun j h1 h2 => ?_⟩⟩
      · rw [if_neg (by omega)]
        exact y3 j h1 (by omega)
      · by_cases hj : j = p
        · rw [hj, w_eq]
        · rw [w_nj hj]
          exact y3 j h1 (by omega)
    · simp only [wq_g3, wq_gc, wq_g, wq_g1, wq_g2, eM_clears, iM_clears_0, iM_clears_2, iM_clears_22, iM_clears_24, iM_clears_47, vM_clears, wps, x_cnd, reduceIte, Nat.reduceAdd, Nat.reduceSub, Nat.reduceEqDiff, Nat.reduceLeDiff, Nat.lt_irrefl, Nat.reduceLT, Int.cast_ofNat_Int, wq_c0, wq_c1, true_and, and_true, and_self, true_implies, forall_const, ne_eq, Decidable.not_not, not_true_eq_false, not_false_eq_true, List.map_nil, List.map_cons, List.sum_nil, List.sum_cons, List.length_cons, List.length_nil, Nat.le_refl, Nat.zero_le, reduceCtorEq, true_or, or_true, false_or, or_false, false_and, and_false, false_implies, Nat.zero_add, Nat.add_zero, Int.reduceEq, Int.reduceNe, Int.reduceLT, Int.reduceLE, Int.reduceNeg, Int.reduceToNat, Nat.not_lt_zero, Int.reduceAdd, fxs F, l0, l1]
      simp (disch := omega) only [w32_of]
      refine ⟨fun c0 => k M1 (fun j h1 h2 => ?_) f, fun c0 => ⟨by omega, 41 - (p + 1), by omega, fun a j ha => (w_ne ha).trans (f a j ha), p + 1, congrArg (fun z => some (xI z)) (by omega), by omega, rfl, fun j h1 h2 => ?_⟩⟩
      · rw [y3 j h1 h2]
        by_cases hj : 324 ≤ j ∧ j ≤ 364
        · rw [if_pos (by omega), if_pos hj]
        · rw [if_neg (by omega), if_neg hj]
      · by_cases hj : j = 324 + p
        · rw [hj, w_eq, if_pos (by omega)]
        · rw [w_nj hj, y3 j h1 h2]
          by_cases hj2 : 324 ≤ j ∧ j < 324 + p
          · rw [if_pos hj2, if_pos (by omega)]
          · rw [if_neg hj2, if_neg (by omega)]
theorem cM_takesDraft (F : Fx h) (k : ∀ M', (∀ j : Int, 0 ≤ j → j < 2171 → M' 42 j = M 43 j) → M' 41 6 = M 43 0 → M' 41 5 = 0 → (∀ a j, a ≠ 42 → ¬ (a = 41 ∧ (j = 5 ∨ j = 6)) → M' a j = M a j) → Φ (.inl none) M' h) : x_Cal zM_takesDraft [xA 41] M h Φ := by
  refine x_metI kM_takesDraft (Nat.le_of_ble_eq_true rfl) (fun t m ls st M' h' c n2 => st = [] ∧ h' = h ∧ c = 0 ∧ n2 = 0 ∧ ls 0 = some (xA 41) ∧ (∀ a j, a ≠ 42 → M' a j = M a j) ∧ ∃ p : Nat, ls 1 = some (xI p) ∧ t = 2 ∧ p ≤ 2171 ∧ m = 2171 - p ∧ ∀ j : Int, 0 ≤ j → j < p → M' 42 j = M 43 j) 20 ?_ ?_
  · simp only [wq_g3, wq_gc, wq_g, wq_g1, wq_g2, eM_takesDraft, iM_takesDraft_0, iM_takesDraft_2, iM_takesDraft_27, vM_takesDraft, wps, x_cnd, reduceIte, Nat.reduceAdd, Nat.reduceSub, Nat.reduceEqDiff, Nat.reduceLeDiff, Nat.lt_irrefl, Nat.reduceLT, Int.cast_ofNat_Int, wq_c0, wq_c1, true_and, and_true, and_self, true_implies, forall_const, ne_eq, Decidable.not_not, not_true_eq_false, not_false_eq_true, List.map_nil, List.map_cons, List.sum_nil, List.sum_cons, List.length_cons, List.length_nil, Nat.le_refl, Nat.zero_le, reduceCtorEq, true_or, or_true, false_or, or_false, false_and, and_false, false_implies, Nat.zero_add, Nat.add_zero, Int.reduceEq, Int.reduceNe, Int.reduceLT, Int.reduceLE, Int.reduceNeg, Int.reduceToNat, Nat.not_lt_zero, Int.reduceAdd, fxs F]
    exact ⟨2171 - 0, fun _ _ => trivial, 0, rfl, by omega, rfl, fun j h1 h2 => by omega⟩
  · rintro t m ls st M1 h' c n2 ⟨rfl, rfl, rfl, rfl, l0, f, p, l1, rfl, y1, y2, y3⟩
    simp only [wq_g3, wq_gc, wq_g, wq_g1, wq_g2, eM_takesDraft, iM_takesDraft_0, iM_takesDraft_2, iM_takesDraft_27, vM_takesDraft, wps, x_cnd, reduceIte, Nat.reduceAdd, Nat.reduceSub, Nat.reduceEqDiff, Nat.reduceLeDiff, Nat.lt_irrefl, Nat.reduceLT, Int.cast_ofNat_Int, wq_c0, wq_c1, true_and, and_true, and_self, true_implies, forall_const, ne_eq, Decidable.not_not, not_true_eq_false, not_false_eq_true, List.map_nil, List.map_cons, List.sum_nil, List.sum_cons, List.length_cons, List.length_nil, Nat.le_refl, Nat.zero_le, reduceCtorEq, true_or, or_true, false_or, or_false, false_and, and_false, false_implies, Nat.zero_add, Nat.add_zero, Int.reduceEq, Int.reduceNe, Int.reduceLT, Int.reduceLE, Int.reduceNeg, Int.reduceToNat, Nat.not_lt_zero, Int.reduceAdd, fxs F, l0, l1]
    simp (disch := omega) only [w32_of]
    refine ⟨fun c0 => ?_, fun c0 => ⟨by omega, by omega, 2171 - (p + 1), by omega, fun a j ha => (w_ne ha).trans (f a j ha), p + 1, congrArg (fun z => some (xI z)) (by omega), by omega, rfl, fun j h1 h2 => ?_⟩⟩
    · refine k _ (fun j h1 h2 => ?_) ?_ w_eq (fun a j h1 h2 => ?_)
      · rw [w_ne (by decide), w_ne (by decide)]
        exact y3 j h1 (by omega)
      · rw [w_nj (by decide), w_eq]
        exact y3 0 (by omega) (by omega)
      · rw [x_w, if_neg (by omega), x_w, if_neg (by omega)]
        exact f a j h1
    · by_cases hj : j = p
      · rw [hj, w_eq]
        exact f 43 p (by decide)
      · rw [w_nj hj]
        exact y3 j h1 (by omega)
theorem SG_0 {f : Int → Int} (hf : ∀ j : Int, 0 ≤ j → j < 2171 → f j = if 324 ≤ j ∧ j ≤ 364 then -1 else 0) : SG S0 f := by
  refine ⟨⟨?_, ?_, ?_, ?_⟩, fun p hp => absurd hp (Nat.not_lt_zero p), fun c hc hne => absurd rfl hne, fun l h1 h2 => ?_, fun part h6 hq => absurd (show (0 : Int) = 1 from hq) (by decide)⟩
  · exact (hf 0 (by omega) (by omega)).trans (if_neg (by omega))
  · exact (hf 1 (by omega) (by omega)).trans ((if_neg (by omega)).trans (by decide))
  · exact (hf 2 (by omega) (by omega)).trans (if_neg (by omega))
  · exact (hf 3 (by omega) (by omega)).trans ((if_neg (by omega)).trans (by decide))
  · exact (hf _ (by omega) (by omega)).trans (if_pos (by omega))
theorem cM_load (W : MW A M h) {len : Int} (k : ∀ v M', MW (dLoad A len).2 M' h → FM M M' → MA (xk [1, 0]) (dLoad A len).1 v M' → Φ (.inl (some (xI v))) M' h) : x_Cal zM_load [xA 41, xI len] M h Φ := by
  have F := W.F
  have W0 := W
  obtain ⟨w1, w2, w3, ⟨w4, w5, w6⟩, ⟨w7, w8⟩, ⟨f1, f2, f3, f4, f5⟩, g1, g2, g3⟩ := W
  unfold dLoad at k
  refine x_met0 kM_load (Nat.le_of_ble_eq_true rfl) ?_
  simp only [wq_g3, wq_gc, wq_g, wq_g1, wq_g2, eM_load, iM_load_0, iM_load_17, iM_load_18, iM_load_26, iM_load_82, iM_load_83, iM_load_91, vM_load, wps, x_cnd, reduceIte, Nat.reduceAdd, Nat.reduceSub, Nat.reduceEqDiff, Nat.reduceLeDiff, Nat.lt_irrefl, Nat.reduceLT, Int.cast_ofNat_Int, wq_c0, wq_c1, true_and, and_true, and_self, true_implies, forall_const, ne_eq, Decidable.not_not, not_true_eq_false, not_false_eq_true, List.map_nil, List.map_cons, List.sum_nil, List.sum_cons, List.length_cons, List.length_nil, Nat.le_refl, Nat.zero_le, reduceCtorEq, true_or, or_true, false_or, or_false, false_and, and_false, false_implies, Nat.zero_add, Nat.add_zero, Int.reduceEq, Int.reduceNe, Int.reduceLT, Int.reduceLE, Int.reduceNeg, Int.reduceToNat, Nat.not_lt_zero, Int.reduceAdd, fxs F, f1]
  refine cM_in ?_
  simp only [wq_g3, wq_gc, wq_g, wq_g1, wq_g2, eM_load, iM_load_0, iM_load_17, iM_load_18, iM_load_26, iM_load_82, iM_load_83, iM_load_91, vM_load, wps, x_cnd, reduceIte, Nat.reduceAdd, Nat.reduceSub, Nat.reduceEqDiff, Nat.reduceLeDiff, Nat.lt_irrefl, Nat.reduceLT, Int.cast_ofNat_Int, wq_c0, wq_c1, true_and, and_true, and_self, true_implies, forall_const, ne_eq, Decidable.not_not, not_true_eq_false, not_false_eq_true, List.map_nil, List.map_cons, List.sum_nil, List.sum_cons, List.length_cons, List.length_nil, Nat.le_refl, Nat.zero_le, reduceCtorEq, true_or, or_true, false_or, or_false, false_and, and_false, false_implies, Nat.zero_add, Nat.add_zero, Int.reduceEq, Int.reduceNe, Int.reduceLT, Int.reduceLE, Int.reduceNeg, Int.reduceToNat, Nat.not_lt_zero, Int.reduceAdd, fxs F, f1, b01_0]
  refine ⟨fun c0 => cM_ref1 F (by decide) ?_, fun c0 => cM_ref0 F ?_⟩
  · simp only [wq_g3, wq_gc, wq_g, wq_g1, wq_g2, eM_load, iM_load_0, iM_load_17, iM_load_18, iM_load_26, iM_load_82, iM_load_83, iM_load_91, vM_load, wps, x_cnd, reduceIte, Nat.reduceAdd, Nat.reduceSub, Nat.reduceEqDiff, Nat.reduceLeDiff, Nat.lt_irrefl, Nat.reduceLT, Int.cast_ofNat_Int, wq_c0, wq_c1, true_and, and_true, and_self, true_implies, forall_const, ne_eq, Decidable.not_not, not_true_eq_false, not_false_eq_true, List.map_nil, List.map_cons, List.sum_nil, List.sum_cons, List.length_cons, List.length_nil, Nat.le_refl, Nat.zero_le, reduceCtorEq, true_or, or_true, false_or, or_false, false_and, and_false, false_implies, Nat.zero_add, Nat.add_zero, Int.reduceEq, Int.reduceNe, Int.reduceLT, Int.reduceLE, Int.reduceNeg, Int.reduceToNat, Nat.not_lt_zero, Int.reduceAdd, fxs F]
    rw [if_pos (by omega)] at k
    exact k _ _ W0.thr (FM.r.w (by decide)) (ma_e w_eq rfl rfl)
  · simp only [wq_g3, wq_gc, wq_g, wq_g1, wq_g2, eM_load, iM_load_0, iM_load_17, iM_load_18, iM_load_26, iM_load_82, iM_load_83, iM_load_91, vM_load, wps, x_cnd, reduceIte, Nat.reduceAdd, Nat.reduceSub, Nat.reduceEqDiff, Nat.reduceLeDiff, Nat.lt_irrefl, Nat.reduceLT, Int.cast_ofNat_Int, wq_c0, wq_c1, true_and, and_true, and_self, true_implies, forall_const, ne_eq, Decidable.not_not, not_true_eq_false, not_false_eq_true, List.map_nil, List.map_cons, List.sum_nil, List.sum_cons, List.length_cons, List.length_nil, Nat.le_refl, Nat.zero_le, reduceCtorEq, true_or, or_true, false_or, or_false, false_and, and_false, false_implies, Nat.zero_add, Nat.add_zero, Int.reduceEq, Int.reduceNe, Int.reduceLT, Int.reduceLE, Int.reduceNeg, Int.reduceToNat, Nat.not_lt_zero, Int.reduceAdd, fxs F]
    obtain ⟨n, rfl⟩ : ∃ n : Nat, len = n := ⟨len.toNat, by omega⟩
    rw [if_neg (by omega), Int.toNat_natCast] at k
    refine cM_clears F (fun M1 c1 fr1 => ?_)
    have tot : ∀ a j, ¬ (a = 41 ∧ (j = 0 ∨ 8 ≤ j ∧ j ≤ 19)) → a ≠ 43 → M1 a j = M a j := fun a j h1 h2 => by
      rw [fr1 a j h2]
      simp only [x_w]
      rw [if_neg (by omega), if_neg (by omega), if_neg (by omega), if_neg (by omega), if_neg (by omega), if_neg (by omega), if_neg (by omega), if_neg (by omega), if_neg (by omega)]
    have b0 : M1 41 0 = 0 := by rw [fr1 41 0 (by decide)]; simp (disch := decide) only [w_ne, w_eq, w_nj]
    have b8 : M1 41 8 = 0 := by rw [fr1 41 8 (by decide)]; simp (disch := decide) only [w_ne, w_eq, w_nj]
    have b9 : M1 41 9 = 0 := by rw [fr1 41 9 (by decide)]; simp (disch := decide) only [w_ne, w_eq, w_nj]
    have b10 : M1 41 10 = n := by rw [fr1 41 10 (by decide)]; simp (disch := decide) only [w_ne, w_eq, w_nj]
    have b11 : M1 41 11 = -1 := by rw [fr1 41 11 (by decide)]; simp (disch := decide) only [w_ne, w_eq, w_nj]
    have b15 : M1 41 15 = 0 := by rw [fr1 41 15 (by decide)]; simp (disch := decide) only [w_ne, w_eq, w_nj]
    have b16 : M1 41 16 = -1 := by rw [fr1 41 16 (by decide)]; simp (disch := decide) only [w_ne, w_eq, w_nj]
    have b18 : M1 41 18 = 0 := by rw [fr1 41 18 (by decide)]; simp (disch := decide) only [w_ne, w_eq, w_nj]
    have b19 : M1 41 19 = 0 := by rw [fr1 41 19 (by decide)]; simp (disch := decide) only [w_ne, w_eq, w_nj]
    have A1 : RS (aB A) n M1 0 false (0, false, S0, 0, 0, fun _ => 0) M1 := ⟨⟨⟨b10, by omega, fun i hi => ⟨(tot 46 i (by omega) (by decide)).trans (f3 i (by omega)).1, (f3 i (by omega)).2⟩⟩, ⟨Nat.zero_le _, 0, b9, Nat.le_refl _, Nat.zero_le _⟩, b11⟩, fun _ _ _ _ _ => rfl, SG_0 c1, ⟨b18, b19⟩, fun p hp => absurd hp (Nat.not_lt_zero p), S0_wf, ⟨b15, b16⟩⟩
    simp only [wq_g3, wq_gc, wq_g, wq_g1, wq_g2, eM_load, iM_load_0, iM_load_17, iM_load_18, iM_load_26, iM_load_82, iM_load_83, iM_load_91, vM_load, wps, x_cnd, reduceIte, Nat.reduceAdd, Nat.reduceSub, Nat.reduceEqDiff, Nat.reduceLeDiff, Nat.lt_irrefl, Nat.reduceLT, Int.cast_ofNat_Int, wq_c0, wq_c1, true_and, and_true, and_self, true_implies, forall_const, ne_eq, Decidable.not_not, not_true_eq_false, not_false_eq_true, List.map_nil, List.map_cons, List.sum_nil, List.sum_cons, List.length_cons, List.length_nil, Nat.le_refl, Nat.zero_le, reduceCtorEq, true_or, or_true, false_or, or_false, false_and, and_false, false_implies, Nat.zero_add, Nat.add_zero, Int.reduceEq, Int.reduceNe, Int.reduceLT, Int.reduceLE, Int.reduceNeg, Int.reduceToNat, Nat.not_lt_zero, Int.reduceAdd, fxs F]
    refine cM_readScore F (R := (0, false, S0, 0, 0, fun _ => 0)) A1 (g := n + 1) (Nat.le_refl _) ?_
    show mS (aB A) n M1 h _ (pLoad (aB A) n)
    cases hs : pLoad (aB A) n with
    | inl e =>
      rw [hs] at k
      rintro M2 ⟨e15, e16, f⟩
      simp only [wq_g3, wq_gc, wq_g, wq_g1, wq_g2, eM_load, iM_load_0, iM_load_17, iM_load_18, iM_load_26, iM_load_82, iM_load_83, iM_load_91, vM_load, wps, x_cnd, reduceIte, Nat.reduceAdd, Nat.reduceSub, Nat.reduceEqDiff, Nat.reduceLeDiff, Nat.lt_irrefl, Nat.reduceLT, Int.cast_ofNat_Int, wq_c0, wq_c1, true_and, and_true, and_self, true_implies, forall_const, ne_eq, Decidable.not_not, not_true_eq_false, not_false_eq_true, List.map_nil, List.map_cons, List.sum_nil, List.sum_cons, List.length_cons, List.length_nil, Nat.le_refl, Nat.zero_le, reduceCtorEq, true_or, or_true, false_or, or_false, false_and, and_false, false_implies, Nat.zero_add, Nat.add_zero, Int.reduceEq, Int.reduceNe, Int.reduceLT, Int.reduceLE, Int.reduceNeg, Int.reduceToNat, Nat.not_lt_zero, Int.reduceAdd, fxs F]
      refine cM_ref1 F (by decide) ?_
      simp only [wq_g3, wq_gc, wq_g, wq_g1, wq_g2, eM_load, iM_load_0, iM_load_17, iM_load_18, iM_load_26, iM_load_82, iM_load_83, iM_load_91, vM_load, wps, x_cnd, reduceIte, Nat.reduceAdd, Nat.reduceSub, Nat.reduceEqDiff, Nat.reduceLeDiff, Nat.lt_irrefl, Nat.reduceLT, Int.cast_ofNat_Int, wq_c0, wq_c1, true_and, and_true, and_self, true_implies, forall_const, ne_eq, Decidable.not_not, not_true_eq_false, not_false_eq_true, List.map_nil, List.map_cons, List.sum_nil, List.sum_cons, List.length_cons, List.length_nil, Nat.le_refl, Nat.zero_le, reduceCtorEq, true_or, or_true, false_or, or_false, false_and, and_false, false_implies, Nat.zero_add, Nat.add_zero, Int.reduceEq, Int.reduceNe, Int.reduceLT, Int.reduceLE, Int.reduceNeg, Int.reduceToNat, Nat.not_lt_zero, Int.reduceAdd, fxs F]
      have t2 : ∀ a j, ¬ (a = 41 ∧ (j = 0 ∨ 8 ≤ j ∧ j ≤ 19)) → a ≠ 43 → a ≠ 45 → x_w M2 41 0 2 a j = M a j := fun a j h1 h2 h3 => by
        rw [x_w, if_neg (by omega), f a j (by omega) h2 h3]
        exact tot a j h1 h2
      have e42 : x_w M2 41 0 2 42 = M 42 := funext (fun j => t2 42 j (by omega) (by decide) (by decide))
      have e44 : x_w M2 41 0 2 44 = M 44 := funext (fun j => t2 44 j (by omega) (by decide) (by decide))
      refine k _ _ ⟨F, by rw [e42]; exact w2, w3, ⟨(t2 41 5 (by decide) (by decide) (by decide)).trans w4, w5, fun i hi => by rw [e44]; exact w6 i hi⟩, ⟨(t2 41 6 (by decide) (by decide) (by decide)).trans w7, w8⟩, ⟨?_, Nat.zero_le _, fun i hi => absurd hi (Nat.not_lt_zero i), (w_nj (by decide)).trans e15, (w_nj (by decide)).trans e16⟩, (t2 41 33 (by decide) (by decide) (by decide)).trans g1, g2, fun i hi => (t2 56 i (by omega) (by decide) (by decide)).trans (g3 i hi)⟩ (fun a j ha => t2 a j (by omega) (by omega) (by omega)) (ma_e w_eq rfl rfl)
      rw [w_nj (by decide), f 41 8 (by decide) (by decide) (by decide)]
      exact b8
    | inr R =>
      rw [hs] at k
      intro M2 A2
      simp only [wq_g3, wq_gc, wq_g, wq_g1, wq_g2, eM_load, iM_load_0, iM_load_17, iM_load_18, iM_load_26, iM_load_82, iM_load_83, iM_load_91, vM_load, wps, x_cnd, reduceIte, Nat.reduceAdd, Nat.reduceSub, Nat.reduceEqDiff, Nat.reduceLeDiff, Nat.lt_irrefl, Nat.reduceLT, Int.cast_ofNat_Int, wq_c0, wq_c1, true_and, and_true, and_self, true_implies, forall_const, ne_eq, Decidable.not_not, not_true_eq_false, not_false_eq_true, List.map_nil, List.map_cons, List.sum_nil, List.sum_cons, List.length_cons, List.length_nil, Nat.le_refl, Nat.zero_le, reduceCtorEq, true_or, or_true, false_or, or_false, false_and, and_false, false_implies, Nat.zero_add, Nat.add_zero, Int.reduceEq, Int.reduceNe, Int.reduceLT, Int.reduceLE, Int.reduceNeg, Int.reduceToNat, Nat.not_lt_zero, Int.reduceAdd, fxs F]
      refine cM_ref0 F ?_
      simp only [wq_g3, wq_gc, wq_g, wq_g1, wq_g2, eM_load, iM_load_0, iM_load_17, iM_load_18, iM_load_26, iM_load_82, iM_load_83, iM_load_91, vM_load, wps, x_cnd, reduceIte, Nat.reduceAdd, Nat.reduceSub, Nat.reduceEqDiff, Nat.reduceLeDiff, Nat.lt_irrefl, Nat.reduceLT, Int.cast_ofNat_Int, wq_c0, wq_c1, true_and, and_true, and_self, true_implies, forall_const, ne_eq, Decidable.not_not, not_true_eq_false, not_false_eq_true, List.map_nil, List.map_cons, List.sum_nil, List.sum_cons, List.length_cons, List.length_nil, Nat.le_refl, Nat.zero_le, reduceCtorEq, true_or, or_true, false_or, or_false, false_and, and_false, false_implies, Nat.zero_add, Nat.add_zero, Int.reduceEq, Int.reduceNe, Int.reduceLT, Int.reduceLE, Int.reduceNeg, Int.reduceToNat, Nat.not_lt_zero, Int.reduceAdd, fxs F]
      have g43 : x_w M2 41 0 0 43 = M2 43 := funext (fun j => w_ne (by decide))
      refine cM_takesDraft F (fun M3 d1 d2 d3 d4 => ?_)
      have t3 : ∀ a j, ¬ (a = 41 ∧ (j = 0 ∨ j = 5 ∨ j = 6 ∨ 8 ≤ j ∧ j ≤ 19)) → a ≠ 42 → a ≠ 43 → a ≠ 45 → M3 a j = M a j := fun a j h1 h2 h3 h4 => by
        rw [d4 a j h2 (by omega), x_w, if_neg (by omega), A2.g a j (by omega) h3 h4]
        exact tot a j (by omega) h3
      have e44 : M3 44 = M 44 := funext (fun j => t3 44 j (by omega) (by decide) (by decide) (by decide))
      have G2 : SG (rS R) (M3 42) := SG.cg A2.G (fun j h1 h2 => by rw [d1 j h1 h2, g43]) A2.W.1.N
      have hN := A2.W.1.N
      have e0 : M3 42 0 = sN (rS R) := G2.1.1
      simp only [wq_g3, wq_gc, wq_g, wq_g1, wq_g2, eM_load, iM_load_0, iM_load_17, iM_load_18, iM_load_26, iM_load_82, iM_load_83, iM_load_91, vM_load, wps, x_cnd, reduceIte, Nat.reduceAdd, Nat.reduceSub, Nat.reduceEqDiff, Nat.reduceLeDiff, Nat.lt_irrefl, Nat.reduceLT, Int.cast_ofNat_Int, wq_c0, wq_c1, true_and, and_true, and_self, true_implies, forall_const, ne_eq, Decidable.not_not, not_true_eq_false, not_false_eq_true, List.map_nil, List.map_cons, List.sum_nil, List.sum_cons, List.length_cons, List.length_nil, Nat.le_refl, Nat.zero_le, reduceCtorEq, true_or, or_true, false_or, or_false, false_and, and_false, false_implies, Nat.zero_add, Nat.add_zero, Int.reduceEq, Int.reduceNe, Int.reduceLT, Int.reduceLE, Int.reduceNeg, Int.reduceToNat, Nat.not_lt_zero, Int.reduceAdd, fxs F, e0]
      have z0 : M3 41 0 = 0 := (d4 41 0 (by decide) (by decide)).trans w_eq
      refine k _ M3 ⟨F, G2, A2.W.1, ⟨d3, Nat.zero_le _, fun i hi => absurd hi (Nat.not_lt_zero i)⟩, ⟨?_, ?_⟩, ⟨?_, Nat.zero_le _, fun i hi => absurd hi (Nat.not_lt_zero i), ?_, ?_⟩, (t3 41 33 (by decide) (by decide) (by decide) (by decide)).trans g1, g2, fun i hi => (t3 56 i (by omega) (by decide) (by decide) (by decide)).trans (g3 i hi)⟩ (fun a j ha => t3 a j (by omega) (by omega) (by omega) (by omega)) (ma_v z0 rfl)
      · rw [d2, g43]
        exact A2.G.1.1
      · show (0 : Int) ≤ ((sN (rS R) : Nat) : Int) ∧ ((sN (rS R) : Nat) : Int) ≤ 50000
        omega
      · rw [d4 41 8 (by decide) (by decide), w_nj (by decide), A2.g 41 8 (by decide) (by decide) (by decide)]
        exact b8
      · rw [d4 41 15 (by decide) (by decide), w_nj (by decide)]
        exact A2.2.2.2.2.2.2.1
      · rw [d4 41 16 (by decide) (by decide), w_nj (by decide)]
        exact A2.2.2.2.2.2.2.2
end MLOAD
