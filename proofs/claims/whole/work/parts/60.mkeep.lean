/-! the model's changes: what is kept -/
/-- the model's state without the score that stands -/
def MP (A : xAb) (M : xM) (h : xH) : Prop := Fx h ∧ (M 41 5 = aH A ∧ aH A ≤ 10 ∧ ∀ i : Nat, i < aH A → SG (aG A i) (fun k => M 44 (2171 * ((aH A : Int) - 1 - i) + k)) ∧ wfS (aG A i) (aI A)) ∧ (M 41 6 = aI A ∧ 0 ≤ aI A ∧ aI A ≤ 50000) ∧ (M 41 8 = aN A ∧ aN A ≤ 800 ∧ (∀ i : Nat, i < aN A → M 46 i = aB A i ∧ 0 ≤ aB A i ∧ aB A i < 256) ∧ M 41 15 = aE A ∧ M 41 16 = aP A) ∧ (M 41 33 = (aO A).length ∧ (aO A).length ≤ 2550 ∧ ∀ i : Nat, i < (aO A).length → M 56 i = (aO A).getD i 0)
section MKEEP
variable {A : xAb} {M M' : xM} {h : xH} {Φ : xO → xM → xH → Prop} {S : xSr} {nid : Int}
set_option maxHeartbeats 1000000
theorem MW.mp (W : MW A M h) : MP A M h := ⟨W.1, W.2.2.2⟩
theorem MP.mk' (P : MP A M h) (G : SG (aS A) (M 42)) (w : wfS (aS A) (aI A)) : MW A M h := ⟨P.1, G, w, P.2⟩
theorem MP.F (P : MP A M h) : Fx h := P.1
theorem MP.frame (P : MP A M h) (f : ∀ a j, (a = 44 ∨ a = 46 ∨ a = 56) → M' a j = M a j) (g : ∀ j, (j = 5 ∨ j = 6 ∨ j = 8 ∨ j = 15 ∨ j = 16 ∨ j = 33) → M' 41 j = M 41 j) : MP A M' h := by
  obtain ⟨a, ⟨d1, d2, d3⟩, ⟨e1, e2⟩, ⟨f1, f2, f3, f4, f5⟩, ⟨g1, g2, g3⟩⟩ := P
  have e44 : M' 44 = M 44 := funext (fun j => f 44 j (by decide))
  have e46 : M' 46 = M 46 := funext (fun j => f 46 j (by decide))
  have e56 : M' 56 = M 56 := funext (fun j => f 56 j (by decide))
  unfold MP
  rw [e44, e46, e56, g 5 (by decide), g 6 (by decide), g 8 (by decide), g 15 (by decide), g 16 (by decide), g 33 (by decide)]
  exact ⟨a, ⟨d1, d2, d3⟩, ⟨e1, e2⟩, ⟨f1, f2, f3, f4, f5⟩, ⟨g1, g2, g3⟩⟩
theorem cM_remembers (W : MW A M h) (k : ∀ M', MP (aKeep A (aS A) (aI A)) M' h → (∀ a j, a ≠ 44 → ¬ (a = 41 ∧ j = 5) → M' a j = M a j) → Φ (.inl none) M' h) : x_Cal zM_remembers [xA 41] M h Φ := by
  have F := W.F
  have hN := W.w.N
  have W0 := W
  obtain ⟨hc, hc10, hpast⟩ := W.2.2.2.1
  refine x_metI kM_remembers (Nat.le_of_ble_eq_true rfl) (fun t m ls st M' h' c2 n2 => st = [] ∧ h' = h ∧ c2 = 0 ∧ n2 = 0 ∧ ls 0 = some (xA 41) ∧ (∀ a j, a ≠ 44 → ¬ (a = 41 ∧ j = 5) → M' a j = M a j) ∧ ∃ p : Nat, ls 1 = some (xI p) ∧ ((t = 13 ∧ aH A = 10 ∧ M' 41 5 = 10 ∧ 2171 ≤ p ∧ p ≤ 21710 ∧ m = 10000 + (21710 - p) ∧ ∀ i : Nat, i < 21710 → M' 44 i = M 44 (if i + 2171 < p then (i : Int) + 2171 else i)) ∨ (t = 54 ∧ p ≤ 2171 ∧ m = 2171 - p ∧ ∃ c : Nat, c ≤ 9 ∧ c + 1 = min (aH A + 1) 10 ∧ M' 41 5 = c ∧ (∀ i : Nat, i < 2171 * c → M' 44 i = M 44 (if aH A = 10 then (i : Int) + 2171 else i)) ∧ ∀ q : Nat, q < p → M' 44 ((2171 * c + q : Nat) : Int) = M 42 q))) 20 ?_ ?_
  · simp only [wq_g3, wq_gc, wq_g, wq_g1, wq_g2, eM_remembers, iM_remembers_0, iM_remembers_13, iM_remembers_42, iM_remembers_52, iM_remembers_54, iM_remembers_88, vM_remembers, wps, x_cnd, reduceIte, Nat.reduceAdd, Nat.reduceSub, Nat.reduceEqDiff, Nat.reduceLeDiff, Nat.lt_irrefl, Nat.reduceLT, Int.cast_ofNat_Int, wq_c0, wq_c1, true_and, and_true, and_self, true_implies, forall_const, ne_eq, Decidable.not_not, not_true_eq_false, not_false_eq_true, List.map_nil, List.map_cons, List.sum_nil, List.sum_cons, List.length_cons, List.length_nil, Nat.le_refl, Nat.zero_le, reduceCtorEq, true_or, or_true, false_or, or_false, false_and, and_false, false_implies, Nat.zero_add, Nat.add_zero, Int.reduceEq, Int.reduceNe, Int.reduceLT, Int.reduceLE, Int.reduceNeg, Int.reduceToNat, Nat.not_lt_zero, Int.reduceAdd, fxs F, hc]
    refine ⟨fun c0 => ⟨2171 - 0, fun _ _ _ _ => trivial, 0, by rw [Int.natCast_zero], by omega, rfl, aH A, by omega, by omega, rfl, fun i hi => ?_, fun q hq => by omega⟩, fun c0 => ⟨10000 + (21710 - 2171), fun _ _ _ _ => trivial, 2171, rfl, by omega, by omega, by omega, by omega, rfl, fun i hi => ?_⟩⟩
    · rw [if_neg (by omega)]
    · rw [if_neg (by omega)]
  · rintro t m ls st M1 h' c2 n2 ⟨rfl, rfl, rfl, rfl, l0, fr, p, l1, ⟨rfl, y1, y2, y3, y4, y5, y6⟩ | ⟨rfl, y1, y2, c, y3, y4, y5, y6, y7⟩⟩
    · simp only [wq_g3, wq_gc, wq_g, wq_g1, wq_g2, eM_remembers, iM_remembers_0, iM_remembers_13, iM_remembers_42, iM_remembers_52, iM_remembers_54, iM_remembers_88, vM_remembers, wps, x_cnd, reduceIte, Nat.reduceAdd, Nat.reduceSub, Nat.reduceEqDiff, Nat.reduceLeDiff, Nat.lt_irrefl, Nat.reduceLT, Int.cast_ofNat_Int, wq_c0, wq_c1, true_and, and_true, and_self, true_implies, forall_const, ne_eq, Decidable.not_not, not_true_eq_false, not_false_eq_true, List.map_nil, List.map_cons, List.sum_nil, List.sum_cons, List.length_cons, List.length_nil, Nat.le_refl, Nat.zero_le, reduceCtorEq, true_or, or_true, false_or, or_false, false_and, and_false, false_implies, Nat.zero_add, Nat.add_zero, Int.reduceEq, Int.reduceNe, Int.reduceLT, Int.reduceLE, Int.reduceNeg, Int.reduceToNat, Nat.not_lt_zero, Int.reduceAdd, fxs F, l0, l1]
      simp (disch := omega) only [w32_of]
      rw [y2]
      refine ⟨fun c0 => ?_, fun c0 => ⟨by omega, by omega, ?_⟩⟩
      · have hp : p = 21710 := by omega
        subst hp
        refine ⟨2171 - 0, by omega, fun a j h1 h2 => (if_neg h2).trans (fr a j h1 h2), 0, by rw [Int.natCast_zero], by omega, rfl, 9, by omega, by omega, w_eq, fun i hi => ?_, fun q hq => by omega⟩
        rw [w_ne (by decide), y6 i (by omega), if_pos (by omega), if_pos y1]
      · refine ⟨10000 + (21710 - (p + 1)), by omega, fun a j h1 h2 => (w_ne h1).trans (fr a j h1 h2), p + 1, congrArg (fun z => some (xI z)) (by omega), y1, (w_ne (by decide)).trans y2, by omega, by omega, rfl, fun i hi => ?_⟩
        by_cases hip : i + 2171 = p
        · rw [show (p : Int) - 2171 = i by omega, w_eq, if_pos (by omega), y6 p (by omega), if_neg (by omega)]
          congr 1
          omega
        · rw [w_nj (by omega), y6 i hi]
          congr 1
          by_cases hlt : i + 2171 < p
          · rw [if_pos hlt, if_pos (by omega)]
          · rw [if_neg hlt, if_neg (by omega)]
    · simp only [wq_g3, wq_gc, wq_g, wq_g1, wq_g2, eM_remembers, iM_remembers_0, iM_remembers_13, iM_remembers_42, iM_remembers_52, iM_remembers_54, iM_remembers_88, vM_remembers, wps, x_cnd, reduceIte, Nat.reduceAdd, Nat.reduceSub, Nat.reduceEqDiff, Nat.reduceLeDiff, Nat.lt_irrefl, Nat.reduceLT, Int.cast_ofNat_Int, wq_c0, wq_c1, true_and, and_true, and_self, true_implies, forall_const, ne_eq, Decidable.not_not, not_true_eq_false, not_false_eq_true, List.map_nil, List.map_cons, List.sum_nil, List.sum_cons, List.length_cons, List.length_nil, Nat.le_refl, Nat.zero_le, reduceCtorEq, true_or, or_true, false_or, or_false, false_and, and_false, false_implies, Nat.zero_add, Nat.add_zero, Int.reduceEq, Int.reduceNe, Int.reduceLT, Int.reduceLE, Int.reduceNeg, Int.reduceToNat, Nat.not_lt_zero, Int.reduceAdd, fxs F, l0, l1, y5]
      simp (disch := omega) only [w32_of]
      refine ⟨fun c0 => ?_, fun c0 => ⟨by omega, by omega, ?_⟩⟩
      · have hp : p = 2171 := by omega
        subst hp
        refine k _ ?_ (fun a j h1 h2 => (if_neg h2).trans (fr a j h1 h2))
        obtain ⟨-, -, -, -, ⟨e1, e2⟩, ⟨f1, f2, f3, f4, f5⟩, ⟨g1, g2, g3⟩⟩ := W
        have fr2 : ∀ a j, a ≠ 44 → ¬ (a = 41 ∧ j = 5) → x_w M1 41 5 ((c : Int) + 1) a j = M a j := fun a j h1 h2 => (if_neg h2).trans (fr a j h1 h2)
        refine ⟨F, ⟨?_, ?_, fun i hi => ?_⟩, ⟨(fr2 41 6 (by decide) (by decide)).trans e1, e2⟩, ⟨(fr2 41 8 (by decide) (by decide)).trans f1, f2, fun i hi => ?_, (fr2 41 15 (by decide) (by decide)).trans f4, (fr2 41 16 (by decide) (by decide)).trans f5⟩, (fr2 41 33 (by decide) (by decide)).trans g1, g2, fun i hi => (fr2 56 i (by decide) (by omega)).trans (g3 i hi)⟩
        · rw [w_eq]
          show (c : Int) + 1 = ((min (aH A + 1) 10 : Nat) : Int)
          omega
        · show min (aH A + 1) 10 ≤ 10
          omega
        · have hi : i < min (aH A + 1) 10 := hi
          show SG (if i = 0 then aS A else aG A (i - 1)) (fun k => x_w M1 41 5 ((c : Int) + 1) 44 (2171 * (((min (aH A + 1) 10 : Nat) : Int) - 1 - i) + k)) ∧ wfS (if i = 0 then aS A else aG A (i - 1)) (aI A)
          by_cases hi0 : i = 0
          · subst hi0
            rw [if_pos rfl]
            refine ⟨W0.G.cg (fun k h1 h2 => ?_) hN, W0.w⟩
            show x_w M1 41 5 ((c : Int) + 1) 44 (2171 * (((min (aH A + 1) 10 : Nat) : Int) - 1 - ((0 : Nat) : Int)) + k) = M 42 k
            rw [w_ne (by decide)]
            have h3 := y7 k.toNat (by omega)
            rw [show ((k.toNat : Nat) : Int) = k by omega] at h3
            rw [← h3]
            congr 1
            omega
          · rw [if_neg hi0]
            obtain ⟨q, rfl⟩ : ∃ q : Nat, i = q + 1 := ⟨i - 1, by omega⟩
            obtain ⟨hs1, hs2⟩ := hpast q (by omega)
            refine ⟨SG.cg hs1 (fun k h1 h2 => ?_) hs2.N, hs2⟩
            show x_w M1 41 5 ((c : Int) + 1) 44 (2171 * (((min (aH A + 1) 10 : Nat) : Int) - 1 - ((q + 1 : Nat) : Int)) + k) = M 44 (2171 * ((aH A : Int) - 1 - q) + k)
            rw [w_ne (by decide)]
            have h3 := y6 (2171 * (((min (aH A + 1) 10 : Nat) : Int) - 1 - ((q + 1 : Nat) : Int)) + k).toNat (by omega)
            rw [show (((2171 * (((min (aH A + 1) 10 : Nat) : Int) - 1 - ((q + 1 : Nat) : Int)) + k).toNat : Nat) : Int) = 2171 * (((min (aH A + 1) 10 : Nat) : Int) - 1 - ((q + 1 : Nat) : Int)) + k by omega] at h3
            rw [h3]
            congr 1
            by_cases h10 : aH A = 10
            · rw [if_pos h10]
              omega
            · rw [if_neg h10]
              omega
        · rw [fr2 46 i (by decide) (by omega)]
          exact f3 i hi
      · have e42 : M1 42 p = M 42 p := fr 42 p (by decide) (by omega)
        rw [e42]
        refine ⟨2171 - (p + 1), by omega, fun a j h1 h2 => (w_ne h1).trans (fr a j h1 h2), p + 1, congrArg (fun z => some (xI z)) (by omega), by omega, rfl, c, y3, y4, (w_ne (by decide)).trans y5, fun i hi => ?_, fun q hq => ?_⟩
        · rw [w_nj (by omega)]
          exact y6 i hi
        · by_cases hqp : q = p
          · subst hqp
            rw [show ((2171 * c + q : Nat) : Int) = 2171 * (c : Int) + q by omega, w_eq]
          · rw [w_nj (by omega)]
            exact y7 q (by omega)
theorem cM_undo (W : MW A M h) (k : ∀ v M', MW (dUndo A).2 M' h → FM M M' → MA (xk [0]) (dUndo A).1 v M' → Φ (.inl (some (xI v))) M' h) : x_Cal zM_undo [xA 41] M h Φ := by
  have F := W.F
  have hN := W.w.N
  have W0 := W
  obtain ⟨hc, hc10, hpast⟩ := W.2.2.2.1
  unfold dUndo at k
  refine x_metI kM_undo (Nat.le_of_ble_eq_true rfl) (fun t m ls st M' h' c2 n2 => t = 33 ∧ st = [] ∧ h' = h ∧ c2 = 0 ∧ n2 = 0 ∧ ls 0 = some (xA 41) ∧ aH A ≠ 0 ∧ (∀ a j, ¬ (a = 42 ∧ 0 ≤ j ∧ j < 2171) → ¬ (a = 41 ∧ (j = 0 ∨ j = 5)) → M' a j = M a j) ∧ M' 41 0 = 0 ∧ M' 41 5 = (aH A : Int) - 1 ∧ ∃ p : Nat, ls 1 = some (xI p) ∧ p ≤ 2171 ∧ m = 2171 - p ∧ ∀ q : Nat, q < p → M' 42 q = M 44 (2171 * ((aH A : Int) - 1) + q)) 20 ?_ ?_
  · simp only [wq_g3, wq_gc, wq_g, wq_g1, wq_g2, eM_undo, iM_undo_0, iM_undo_12, iM_undo_13, iM_undo_21, iM_undo_33, iM_undo_67, vM_undo, wps, x_cnd, reduceIte, Nat.reduceAdd, Nat.reduceSub, Nat.reduceEqDiff, Nat.reduceLeDiff, Nat.lt_irrefl, Nat.reduceLT, Int.cast_ofNat_Int, wq_c0, wq_c1, true_and, and_true, and_self, true_implies, forall_const, ne_eq, Decidable.not_not, not_true_eq_false, not_false_eq_true, List.map_nil, List.map_cons, List.sum_nil, List.sum_cons, List.length_cons, List.length_nil, Nat.le_refl, Nat.zero_le, reduceCtorEq, true_or, or_true, false_or, or_false, false_and, and_false, false_implies, Nat.zero_add, Nat.add_zero, Int.reduceEq, Int.reduceNe, Int.reduceLT, Int.reduceLE, Int.reduceNeg, Int.reduceToNat, Nat.not_lt_zero, Int.reduceAdd, fxs F, hc]
    refine ⟨fun c0 => cM_ref0 F ?_, fun c0 => cM_ref1 F (by decide) ?_⟩
    · simp only [wq_g3, wq_gc, wq_g, wq_g1, wq_g2, eM_undo, iM_undo_0, iM_undo_12, iM_undo_13, iM_undo_21, iM_undo_33, iM_undo_67, vM_undo, wps, x_cnd, reduceIte, Nat.reduceAdd, Nat.reduceSub, Nat.reduceEqDiff, Nat.reduceLeDiff, Nat.lt_irrefl, Nat.reduceLT, Int.cast_ofNat_Int, wq_c0, wq_c1, true_and, and_true, and_self, true_implies, forall_const, ne_eq, Decidable.not_not, not_true_eq_false, not_false_eq_true, List.map_nil, List.map_cons, List.sum_nil, List.sum_cons, List.length_cons, List.length_nil, Nat.le_refl, Nat.zero_le, reduceCtorEq, true_or, or_true, false_or, or_false, false_and, and_false, false_implies, Nat.zero_add, Nat.add_zero, Int.reduceEq, Int.reduceNe, Int.reduceLT, Int.reduceLE, Int.reduceNeg, Int.reduceToNat, Nat.not_lt_zero, Int.reduceAdd, fxs F]
      simp (disch := decide) only [w_ne, w_eq, w_nj]
      rw [hc]
      simp (disch := omega) only [w32_of]
      exact ⟨2171 - 0, by omega, fun a j h1 h2 => (if_neg (by omega)).trans (if_neg (by omega)), trivial, trivial, 0, by rw [Int.natCast_zero], by omega, rfl, fun q hq => by omega⟩
    · simp only [wq_g3, wq_gc, wq_g, wq_g1, wq_g2, eM_undo, iM_undo_0, iM_undo_12, iM_undo_13, iM_undo_21, iM_undo_33, iM_undo_67, vM_undo, wps, x_cnd, reduceIte, Nat.reduceAdd, Nat.reduceSub, Nat.reduceEqDiff, Nat.reduceLeDiff, Nat.lt_irrefl, Nat.reduceLT, Int.cast_ofNat_Int, wq_c0, wq_c1, true_and, and_true, and_self, true_implies, forall_const, ne_eq, Decidable.not_not, not_true_eq_false, not_false_eq_true, List.map_nil, List.map_cons, List.sum_nil, List.sum_cons, List.length_cons, List.length_nil, Nat.le_refl, Nat.zero_le, reduceCtorEq, true_or, or_true, false_or, or_false, false_and, and_false, false_implies, Nat.zero_add, Nat.add_zero, Int.reduceEq, Int.reduceNe, Int.reduceLT, Int.reduceLE, Int.reduceNeg, Int.reduceToNat, Nat.not_lt_zero, Int.reduceAdd, fxs F]
      rw [if_pos (by omega)] at k
      exact k _ _ W.thr (FM.r.w (by decide)) (ma_e w_eq rfl rfl)
  · rintro t m ls st M1 h' c2 n2 ⟨rfl, rfl, rfl, rfl, rfl, l0, y0, fr, t1, y1, p, l1, y2, y3, y4⟩
    rw [if_neg y0] at k
    simp only [wq_g3, wq_gc, wq_g, wq_g1, wq_g2, eM_undo, iM_undo_0, iM_undo_12, iM_undo_13, iM_undo_21, iM_undo_33, iM_undo_67, vM_undo, wps, x_cnd, reduceIte, Nat.reduceAdd, Nat.reduceSub, Nat.reduceEqDiff, Nat.reduceLeDiff, Nat.lt_irrefl, Nat.reduceLT, Int.cast_ofNat_Int, wq_c0, wq_c1, true_and, and_true, and_self, true_implies, forall_const, ne_eq, Decidable.not_not, not_true_eq_false, not_false_eq_true, List.map_nil, List.map_cons, List.sum_nil, List.sum_cons, List.length_cons, List.length_nil, Nat.le_refl, Nat.zero_le, reduceCtorEq, true_or, or_true, false_or, or_false, false_and, and_false, false_implies, Nat.zero_add, Nat.add_zero, Int.reduceEq, Int.reduceNe, Int.reduceLT, Int.reduceLE, Int.reduceNeg, Int.reduceToNat, Nat.not_lt_zero, Int.reduceAdd, fxs F, l0, l1, y1]
    simp (disch := omega) only [w32_of]
    refine ⟨fun c0 => ?_, fun c0 => ⟨by omega, by omega, ?_⟩⟩
    · have hp : p = 2171 := by omega
      subst hp
      refine k _ M1 ?_ (fun a j ha => fr a j (by omega) (by omega)) (ma_v t1 (congrArg Sum.inl (show ((aH A - 1 : Nat) : Int) = (aH A : Int) - 1 by omega)))
      obtain ⟨-, -, -, -, ⟨e1, e2⟩, ⟨f1, f2, f3, f4, f5⟩, ⟨g1, g2, g3⟩⟩ := W
      obtain ⟨hs1, hs2⟩ := hpast 0 (by omega)
      refine ⟨F, SG.cg hs1 (fun k h1 h2 => ?_) hs2.N, hs2, ⟨y1.trans ?_, ?_, fun i hi => ?_⟩, ⟨(fr 41 6 (by decide) (by decide)).trans e1, e2⟩, ⟨(fr 41 8 (by decide) (by decide)).trans f1, f2, fun i hi => ?_, (fr 41 15 (by decide) (by decide)).trans f4, (fr 41 16 (by decide) (by decide)).trans f5⟩, (fr 41 33 (by decide) (by decide)).trans g1, g2, fun i hi => (fr 56 i (by omega) (by omega)).trans (g3 i hi)⟩
      · have h3 := y4 k.toNat (by omega)
        rw [show ((k.toNat : Nat) : Int) = k by omega] at h3
        rw [h3]
        show M 44 _ = M 44 (2171 * ((aH A : Int) - 1 - ((0 : Nat) : Int)) + k)
        congr 1
        omega
      · show _ = ((aH A - 1 : Nat) : Int)
        omega
      · show aH A - 1 ≤ 10
        omega
      · have hi : i < aH A - 1 := hi
        obtain ⟨hq1, hq2⟩ := hpast (i + 1) (by omega)
        refine ⟨SG.cg hq1 (fun k h1 h2 => ?_) hq2.N, hq2⟩
        show M1 44 (2171 * (((aH A - 1 : Nat) : Int) - 1 - i) + k) = M 44 (2171 * ((aH A : Int) - 1 - ((i + 1 : Nat) : Int)) + k)
        rw [fr 44 _ (by omega) (by omega)]
        congr 1
        omega
      · rw [fr 46 i (by omega) (by omega)]
        exact f3 i hi
    · rw [fr 44 _ (by omega) (by omega)]
      refine ⟨2171 - (p + 1), by omega, y0, fun a j h1 h2 => (if_neg (by omega)).trans (fr a j h1 h2), (w_ne (by decide)).trans t1, (w_ne (by decide)).trans y1, p + 1, congrArg (fun z => some (xI z)) (by omega), by omega, rfl, fun q hq => ?_⟩
      by_cases hqp : q = p
      · subst hqp
        exact w_eq
      · rw [w_nj (by omega)]
        exact y4 q (by omega)
end MKEEP
