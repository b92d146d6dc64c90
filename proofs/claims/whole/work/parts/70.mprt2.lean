/-! the model reads: parts -/
section MSTP
variable {B : Int → Int} {n x : Nat} {l : Bool} {R : xRd} {M M' M0 : xM} {h : xH} {Φ : xO → xM → xH → Prop} {S : xSr}
set_option maxHeartbeats 1000000
theorem x_cmp_eq {a b : Int} : (x_cmp a b = 0) = (a = b) := by
  unfold x_cmp
  by_cases h1 : a < b
  · rw [if_pos h1]
    exact propext ⟨fun q => by omega, fun q => by omega⟩
  · rw [if_neg h1]
    by_cases h2 : a = b
    · rw [if_pos h2]
      exact propext ⟨fun _ => h2, fun _ => rfl⟩
    · rw [if_neg h2]
      exact propext ⟨fun q => by omega, fun q => by omega⟩
theorem cM_isNamed (F : Fx h) {P : Nat} {nm : Int → Int} (hP : P ≤ 6) (e2 : M 43 2 = P) (N : ∀ p : Nat, p < P → M 45 p = nm p) {w : Int} (k : Φ (.inl (some (xI (b01 (cn (fun p => nm p == w) P ≠ 0))))) M h) : x_Cal zM_isNamed [xA 41, xJ w] M h Φ := by
  refine x_metI kM_isNamed (Nat.le_of_ble_eq_true rfl) (fun t m ls st M' h' c n2 => t = 2 ∧ st = [] ∧ h' = h ∧ M' = M ∧ c = 0 ∧ n2 = 0 ∧ ls 0 = some (xA 41) ∧ ls 1 = some (xJ w) ∧ ∃ p : Nat, p ≤ P ∧ m = P - p ∧ ls 3 = some (xI p) ∧ ∀ q : Nat, q < p → nm q ≠ w) 20 ?_ ?_
  · simp only [wq_g3, wq_gc, wq_g, wq_g1, wq_g2, eM_isNamed, iM_isNamed_0, iM_isNamed_2, iM_isNamed_25, iM_isNamed_31, vM_isNamed, wps, x_cnd, reduceIte, Nat.reduceAdd, Nat.reduceSub, Nat.reduceEqDiff, Nat.reduceLeDiff, Nat.lt_irrefl, Nat.reduceLT, Int.cast_ofNat_Int, wq_c0, wq_c1, true_and, and_true, and_self, true_implies, forall_const, ne_eq, Decidable.not_not, not_true_eq_false, not_false_eq_true, List.map_nil, List.map_cons, List.sum_nil, List.sum_cons, List.length_cons, List.length_nil, Nat.le_refl, Nat.zero_le, reduceCtorEq, true_or, or_true, false_or, or_false, false_and, and_false, false_implies, Nat.zero_add, Nat.add_zero, Int.reduceEq, Int.reduceNe, Int.reduceLT, Int.reduceLE, Int.reduceNeg, Int.reduceToNat, Nat.not_lt_zero, Int.reduceAdd, fxs F]
    exact ⟨P - 0, 0, by omega, rfl, rfl, fun q hq => by omega⟩
  · rintro t m ls st M1 h' c n2 ⟨rfl, rfl, rfl, rfl, rfl, rfl, l0, l1, p, q1, q2, l2, q3⟩
    simp only [wq_g3, wq_gc, wq_g, wq_g1, wq_g2, eM_isNamed, iM_isNamed_0, iM_isNamed_2, iM_isNamed_25, iM_isNamed_31, vM_isNamed, wps, x_cnd, reduceIte, Nat.reduceAdd, Nat.reduceSub, Nat.reduceEqDiff, Nat.reduceLeDiff, Nat.lt_irrefl, Nat.reduceLT, Int.cast_ofNat_Int, wq_c0, wq_c1, true_and, and_true, and_self, true_implies, forall_const, ne_eq, Decidable.not_not, not_true_eq_false, not_false_eq_true, List.map_nil, List.map_cons, List.sum_nil, List.sum_cons, List.length_cons, List.length_nil, Nat.le_refl, Nat.zero_le, reduceCtorEq, true_or, or_true, false_or, or_false, false_and, and_false, false_implies, Nat.zero_add, Nat.add_zero, Int.reduceEq, Int.reduceNe, Int.reduceLT, Int.reduceLE, Int.reduceNeg, Int.reduceToNat, Nat.not_lt_zero, Int.reduceAdd, fxs F, l0, l1, l2, e2, x_cmp_eq]
    refine ⟨fun c0 => kr k (b01_f (fun q => q ?_)), fun c0 => ⟨by omega, ?_⟩⟩
    · have : ∀ q : Nat, q < P → (fun p : Int => nm p == w) q = (fun _ => false) (q : Int) := fun q hq => by
        have h4 := q3 q (by omega)
        simp only [beq_eq_false_iff_ne]
        exact h4
      rw [cn_congr (Q := fun _ => false) this, cn_nof]
    · rw [N p (by omega)]
      refine ⟨fun c1 => ⟨P - (p + 1), by omega, p + 1, by omega, rfl, by rw [w32_of (by omega)]; rfl, fun q hq => ?_⟩, fun c1 => kr k (b01_t (fun q => ?_))⟩
      · by_cases hqp : q = p
        · subst hqp
          exact c1
        · exact q3 q (by omega)
      · have h5 := cn_0 q (q := p) (by omega)
        simp only [beq_eq_false_iff_ne] at h5
        exact h5 c1
theorem cM_contentHere (F : Fx h) {w : Int} (e : M 41 17 = w) (k : Φ (.inl (some (xI (cOf w)))) M h) : x_Cal zM_contentHere [xA 41] M h Φ := by
  refine x_met0 kM_contentHere (Nat.le_of_ble_eq_true rfl) ?_
  simp only [wq_g3, wq_gc, wq_g, wq_g1, wq_g2, eM_contentHere, iM_contentHere_0, iM_contentHere_13, iM_contentHere_26, iM_contentHere_41, iM_contentHere_42, vM_contentHere, wps, x_cnd, reduceIte, Nat.reduceAdd, Nat.reduceSub, Nat.reduceEqDiff, Nat.reduceLeDiff, Nat.lt_irrefl, Nat.reduceLT, Int.cast_ofNat_Int, wq_c0, wq_c1, true_and, and_true, and_self, true_implies, forall_const, ne_eq, Decidable.not_not, not_true_eq_false, not_false_eq_true, List.map_nil, List.map_cons, List.sum_nil, List.sum_cons, List.length_cons, List.length_nil, Nat.le_refl, Nat.zero_le, reduceCtorEq, true_or, or_true, false_or, or_false, false_and, and_false, false_implies, Nat.zero_add, Nat.add_zero, Int.reduceEq, Int.reduceNe, Int.reduceLT, Int.reduceLE, Int.reduceNeg, Int.reduceToNat, Nat.not_lt_zero, Int.reduceAdd, fxs F, e, x_cmp_eq]
  unfold cOf at k
  refine ⟨fun c0 => ⟨fun c1 => ⟨fun c2 => ?_, fun c2 => ?_⟩, fun c1 => ?_⟩, fun c0 => ?_⟩
  · rw [if_neg c2, if_neg c0, if_neg c1] at k
    exact k
  · rw [if_pos c2] at k
    exact k
  · rw [if_neg (by omega), if_neg c0, if_pos c1] at k
    exact k
  · rw [if_neg (by omega), if_pos c0] at k
    exact k
theorem nuc_m {hi hi2 : Int} (h : hi2 ≤ hi) (c : nuc B n x l hi ≠ 0) : nuc B n x l hi2 = nuc B n x l hi := by
  unfold nuc at c ⊢
  by_cases h1 : kin B n x l ≠ 2
  · rw [if_pos h1, if_pos h1]
  · rw [if_neg h1] at c ⊢
    rw [if_neg h1]
    by_cases h2 : tnv B n x < 1 ∨ hi < tnv B n x
    · rw [if_pos h2, if_pos (by omega)]
    · rw [if_neg h2] at c
      exact absurd rfl c
theorem nuc_2 {hi : Int} (hk : kin B n x l = 2) (h : hi < tnv B n x) : nuc B n x l hi = 2 := by
  unfold nuc
  rw [if_neg (by omega), if_pos (Or.inr h)]
theorem nuc_0 {hi : Int} (hk : kin B n x l = 2) (h1 : 1 ≤ tnv B n x) (h : tnv B n x ≤ hi) : nuc B n x l hi = 0 := by
  unfold nuc
  rw [if_neg (by omega), if_neg (by omega)]
theorem kin_3w (h : ts B n x < n ∧ isLt B (ts B n x) = true) : kin B n x l ≠ 3 := fun q => by
  have h9 := kin_3.mp q
  have h8 := isLt_t.mp h.2
  rw [bAt, if_pos h.1] at h9
  omega
theorem cM_readContents (F : Fx h) {q0 : Nat} (hq : q0 < 6) (A : RS B n M0 x true (x, true, parS (rS R), rM R, rC R, rN R) M) (hP : sP (rS R) = q0) (k : mO B n M0 h Φ (pGr B n n x 0 R)) : x_Cal zM_readContents [xA 41, xI q0] M h Φ := by
  refine x_metI kM_readContents (Nat.le_of_ble_eq_true rfl) (fun t m ls st M' h' c n2 => st = [] ∧ h' = h ∧ c = 0 ∧ n2 = 0 ∧ ls 0 = some (xA 41) ∧ ls 1 = some (xI q0) ∧ ∃ (y d g : Nat) (R' : xRd), sP (rS R') = q0 ∧ ls 2 = some (xI d) ∧ n ≤ g + y ∧ ((t = 2 ∧ m = 200 * (n + 1 - y) ∧ d ≤ sN (rS R') ∧ RS B n M0 y true (y, true, parS (rS R'), rM R', rC R', rN R') M' ∧ mO B n M0 h Φ (pGr B n g y d R')) ∨ (t = 81 ∧ ∃ (c1 p a : Nat) (v : Int), m = 200 * (n + 1 - y) + (c1 - p) + 1 ∧ p ≤ c1 ∧ c1 ≤ 99 ∧ d + c1 ≤ sN (rS R') ∧ (0 ≤ v ∧ v ≤ 2) ∧ ls 3 = some (xI v) ∧ ls 4 = some (xI p) ∧ M' 41 14 = c1 ∧ wfR (y, true, parS (rS R'), rM R', rC R', rN R') ∧ RS B n M0 y true (y, true, parS (conR (rS R') q0 d p v), rM R', rC R', rN R') M' ∧ mO B n M0 h Φ (pGr B n g y (d + c1) (a, true, conR (rS R') (sP (rS R')) d c1 v, rM R', rC R', rN R'))))) 20 ?_ ?_
  · simp only [wq_g3, wq_gc, wq_g, wq_g1, wq_g2, eM_readContents, iM_readContents_0, iM_readContents_2, iM_readContents_21, iM_readContents_41, iM_readContents_53, iM_readContents_78, iM_readContents_81, iM_readContents_127, iM_readContents_137, vM_readContents, wps, x_cnd, reduceIte, Nat.reduceAdd, Nat.reduceSub, Nat.reduceEqDiff, Nat.reduceLeDiff, Nat.lt_irrefl, Nat.reduceLT, Int.cast_ofNat_Int, wq_c0, wq_c1, true_and, and_true, and_self, true_implies, forall_const, ne_eq, Decidable.not_not, not_true_eq_false, not_false_eq_true, List.map_nil, List.map_cons, List.sum_nil, List.sum_cons, List.length_cons, List.length_nil, Nat.le_refl, Nat.zero_le, reduceCtorEq, true_or, or_true, false_or, or_false, false_and, and_false, false_implies, Nat.zero_add, Nat.add_zero, Int.reduceEq, Int.reduceNe, Int.reduceLT, Int.reduceLE, Int.reduceNeg, Int.reduceToNat, Nat.not_lt_zero, Int.reduceAdd, fxs F]
    exact ⟨200 * (n + 1 - x), x, 0, n, R, hP, rfl, by omega, rfl, Nat.zero_le _, A, k⟩
  · rintro t m ls st M1 h' c n2 ⟨rfl, rfl, rfl, rfl, l0, l1, y, d, g, R', hP', l2, hg, ⟨rfl, hm, hd, A1, k1⟩ | ⟨rfl, c1, p, a, v, hm, hp, hc9, hdc, hv, l3, l4, e14, hW, A1, k1⟩⟩
    · have hN : sN (rS R') ≤ 150 := A1.W.1.N
      have hy := A1.T.le
      simp only [wq_g3, wq_gc, wq_g, wq_g1, wq_g2, eM_readContents, iM_readContents_0, iM_readContents_2, iM_readContents_21, iM_readContents_41, iM_readContents_53, iM_readContents_78, iM_readContents_81, iM_readContents_127, iM_readContents_137, vM_readContents, wps, x_cnd, reduceIte, Nat.reduceAdd, Nat.reduceSub, Nat.reduceEqDiff, Nat.reduceLeDiff, Nat.lt_irrefl, Nat.reduceLT, Int.cast_ofNat_Int, wq_c0, wq_c1, true_and, and_true, and_self, true_implies, forall_const, ne_eq, Decidable.not_not, not_true_eq_false, not_false_eq_true, List.map_nil, List.map_cons, List.sum_nil, List.sum_cons, List.length_cons, List.length_nil, Nat.le_refl, Nat.zero_le, reduceCtorEq, true_or, or_true, false_or, or_false, false_and, and_false, false_implies, Nat.zero_add, Nat.add_zero, Int.reduceEq, Int.reduceNe, Int.reduceLT, Int.reduceLE, Int.reduceNeg, Int.reduceToNat, Nat.not_lt_zero, Int.reduceAdd, fxs F, l0, l1, l2]
      refine cM_peek F A1.T (fun M2 R2 e12 e9 f2 => ?_)
      have A2 := A1.fr R2 f2
      have ht := R2.t
      simp only [wq_g3, wq_gc, wq_g, wq_g1, wq_g2, eM_readContents, iM_readContents_0, iM_readContents_2, iM_readContents_21, iM_readContents_41, iM_readContents_53, iM_readContents_78, iM_readContents_81, iM_readContents_127, iM_readContents_137, vM_readContents, wps, x_cnd, reduceIte, Nat.reduceAdd, Nat.reduceSub, Nat.reduceEqDiff, Nat.reduceLeDiff, Nat.lt_irrefl, Nat.reduceLT, Int.cast_ofNat_Int, wq_c0, wq_c1, true_and, and_true, and_self, true_implies, forall_const, ne_eq, Decidable.not_not, not_true_eq_false, not_false_eq_true, List.map_nil, List.map_cons, List.sum_nil, List.sum_cons, List.length_cons, List.length_nil, Nat.le_refl, Nat.zero_le, reduceCtorEq, true_or, or_true, false_or, or_false, false_and, and_false, false_implies, Nat.zero_add, Nat.add_zero, Int.reduceEq, Int.reduceNe, Int.reduceLT, Int.reduceLE, Int.reduceNeg, Int.reduceToNat, Nat.not_lt_zero, Int.reduceAdd, fxs F]
      refine cM_isLetter ?_
      simp only [wq_g3, wq_gc, wq_g, wq_g1, wq_g2, eM_readContents, iM_readContents_0, iM_readContents_2, iM_readContents_21, iM_readContents_41, iM_readContents_53, iM_readContents_78, iM_readContents_81, iM_readContents_127, iM_readContents_137, vM_readContents, wps, x_cnd, reduceIte, Nat.reduceAdd, Nat.reduceSub, Nat.reduceEqDiff, Nat.reduceLeDiff, Nat.lt_irrefl, Nat.reduceLT, Int.cast_ofNat_Int, wq_c0, wq_c1, true_and, and_true, and_self, true_implies, forall_const, ne_eq, Decidable.not_not, not_true_eq_false, not_false_eq_true, List.map_nil, List.map_cons, List.sum_nil, List.sum_cons, List.length_cons, List.length_nil, Nat.le_refl, Nat.zero_le, reduceCtorEq, true_or, or_true, false_or, or_false, false_and, and_false, false_implies, Nat.zero_add, Nat.add_zero, Int.reduceEq, Int.reduceNe, Int.reduceLT, Int.reduceLE, Int.reduceNeg, Int.reduceToNat, Nat.not_lt_zero, Int.reduceAdd, fxs F, b01_0, l0, l1, l2]
      rw [bAt_lt (by omega)]
      refine ⟨fun c0 => ?_, fun c0 => cM_readWord F A2.T A2.g (fun c1 M' fe => ?_) (fun M3 hk T3 f3 e17 e13 e12' => ?_)⟩
      · rw [pGr_0 (Or.inr (fun q => c0 ⟨(kin_w.mp q).1, (kin_w.mp q).2.1⟩))] at k1
        exact k1.1 M2 A2
      · simp only [wq_g3, wq_gc, wq_g, wq_g1, wq_g2, eM_readContents, iM_readContents_0, iM_readContents_2, iM_readContents_21, iM_readContents_41, iM_readContents_53, iM_readContents_78, iM_readContents_81, iM_readContents_127, iM_readContents_137, vM_readContents, wps, x_cnd, reduceIte, Nat.reduceAdd, Nat.reduceSub, Nat.reduceEqDiff, Nat.reduceLeDiff, Nat.lt_irrefl, Nat.reduceLT, Int.cast_ofNat_Int, wq_c0, wq_c1, true_and, and_true, and_self, true_implies, forall_const, ne_eq, Decidable.not_not, not_true_eq_false, not_false_eq_true, List.map_nil, List.map_cons, List.sum_nil, List.sum_cons, List.length_cons, List.length_nil, Nat.le_refl, Nat.zero_le, reduceCtorEq, true_or, or_true, false_or, or_false, false_and, and_false, false_implies, Nat.zero_add, Nat.add_zero, Int.reduceEq, Int.reduceNe, Int.reduceLT, Int.reduceLE, Int.reduceNeg, Int.reduceToNat, Nat.not_lt_zero, Int.reduceAdd, fxs F, l0, l1, l2]
        rw [pGr_0 (Or.inr c1)] at k1
        exact k1.2 (kin_3w c0) M' fe
      · have A3 := A2.fr T3 f3
        have hlt := ten_lt hy (show kin B n y true ≠ 0 by omega)
        obtain ⟨g', rfl⟩ : ∃ g', g = g' + 1 := ⟨g - 1, by omega⟩
        rw [pGr_s hk] at k1
        simp only [wq_g3, wq_gc, wq_g, wq_g1, wq_g2, eM_readContents, iM_readContents_0, iM_readContents_2, iM_readContents_21, iM_readContents_41, iM_readContents_53, iM_readContents_78, iM_readContents_81, iM_readContents_127, iM_readContents_137, vM_readContents, wps, x_cnd, reduceIte, Nat.reduceAdd, Nat.reduceSub, Nat.reduceEqDiff, Nat.reduceLeDiff, Nat.lt_irrefl, Nat.reduceLT, Int.cast_ofNat_Int, wq_c0, wq_c1, true_and, and_true, and_self, true_implies, forall_const, ne_eq, Decidable.not_not, not_true_eq_false, not_false_eq_true, List.map_nil, List.map_cons, List.sum_nil, List.sum_cons, List.length_cons, List.length_nil, Nat.le_refl, Nat.zero_le, reduceCtorEq, true_or, or_true, false_or, or_false, false_and, and_false, false_implies, Nat.zero_add, Nat.add_zero, Int.reduceEq, Int.reduceNe, Int.reduceLT, Int.reduceLE, Int.reduceNeg, Int.reduceToNat, Nat.not_lt_zero, Int.reduceAdd, fxs F, l0, l1, l2]
        refine cM_contentHere F e17 ?_
        simp only [wq_g3, wq_gc, wq_g, wq_g1, wq_g2, eM_readContents, iM_readContents_0, iM_readContents_2, iM_readContents_21, iM_readContents_41, iM_readContents_53, iM_readContents_78, iM_readContents_81, iM_readContents_127, iM_readContents_137, vM_readContents, wps, x_cnd, reduceIte, Nat.reduceAdd, Nat.reduceSub, Nat.reduceEqDiff, Nat.reduceLeDiff, Nat.lt_irrefl, Nat.reduceLT, Int.cast_ofNat_Int, wq_c0, wq_c1, true_and, and_true, and_self, true_implies, forall_const, ne_eq, Decidable.not_not, not_true_eq_false, not_false_eq_true, List.map_nil, List.map_cons, List.sum_nil, List.sum_cons, List.length_cons, List.length_nil, Nat.le_refl, Nat.zero_le, reduceCtorEq, true_or, or_true, false_or, or_false, false_and, and_false, false_implies, Nat.zero_add, Nat.add_zero, Int.reduceEq, Int.reduceNe, Int.reduceLT, Int.reduceLE, Int.reduceNeg, Int.reduceToNat, Nat.not_lt_zero, Int.reduceAdd, fxs F, l0, l1, l2, e12']
        refine ⟨fun c1 => cM_readNumber F A3.T A3.g (fun c2 M' fe => ?_) (fun M4 c2 i1 i2 i3 i4 T4 f4 e14 e12'' => ?_), fun c1 => cM_fails F A3.g (fun M' fe => ?_)⟩
        · rw [if_neg c1, nuc_m (show min 99 ((sN (rS R') : Int) - d) ≤ 99 by omega) c2, if_pos c2] at k1
          simp only [wq_g3, wq_gc, wq_g, wq_g1, wq_g2, eM_readContents, iM_readContents_0, iM_readContents_2, iM_readContents_21, iM_readContents_41, iM_readContents_53, iM_readContents_78, iM_readContents_81, iM_readContents_127, iM_readContents_137, vM_readContents, wps, x_cnd, reduceIte, Nat.reduceAdd, Nat.reduceSub, Nat.reduceEqDiff, Nat.reduceLeDiff, Nat.lt_irrefl, Nat.reduceLT, Int.cast_ofNat_Int, wq_c0, wq_c1, true_and, and_true, and_self, true_implies, forall_const, ne_eq, Decidable.not_not, not_true_eq_false, not_false_eq_true, List.map_nil, List.map_cons, List.sum_nil, List.sum_cons, List.length_cons, List.length_nil, Nat.le_refl, Nat.zero_le, reduceCtorEq, true_or, or_true, false_or, or_false, false_and, and_false, false_implies, Nat.zero_add, Nat.add_zero, Int.reduceEq, Int.reduceNe, Int.reduceLT, Int.reduceLE, Int.reduceNeg, Int.reduceToNat, Nat.not_lt_zero, Int.reduceAdd, fxs F, l0, l1, l2]
          exact k1 M' fe
        · have A4 := A3.fr T4 f4
          have e0 : M4 43 0 = sN (rS R') := A4.G.1.1
          have hlt2 := ten_lt (l := true) A3.T.le (show kin B n (ten B n y) true ≠ 0 by omega)
          obtain ⟨u, hu⟩ : ∃ u : Nat, tnv B n (ten B n y) = u := ⟨(tnv B n (ten B n y)).toNat, by omega⟩
          have hok := cOf_ok c1
          simp only [wq_g3, wq_gc, wq_g, wq_g1, wq_g2, eM_readContents, iM_readContents_0, iM_readContents_2, iM_readContents_21, iM_readContents_41, iM_readContents_53, iM_readContents_78, iM_readContents_81, iM_readContents_127, iM_readContents_137, vM_readContents, wps, x_cnd, reduceIte, Nat.reduceAdd, Nat.reduceSub, Nat.reduceEqDiff, Nat.reduceLeDiff, Nat.lt_irrefl, Nat.reduceLT, Int.cast_ofNat_Int, wq_c0, wq_c1, true_and, and_true, and_self, true_implies, forall_const, ne_eq, Decidable.not_not, not_true_eq_false, not_false_eq_true, List.map_nil, List.map_cons, List.sum_nil, List.sum_cons, List.length_cons, List.length_nil, Nat.le_refl, Nat.zero_le, reduceCtorEq, true_or, or_true, false_or, or_false, false_and, and_false, false_implies, Nat.zero_add, Nat.add_zero, Int.reduceEq, Int.reduceNe, Int.reduceLT, Int.reduceLE, Int.reduceNeg, Int.reduceToNat, Nat.not_lt_zero, Int.reduceAdd, fxs F, l0, l1, l2, e14, e0, e12'']
          rw [hu] at k1 e14 i2 i3
          rw [if_neg c1] at k1
          rw [hu]
          simp (disch := omega) only [w32_of]
          refine ⟨fun c3 => ?_, fun c3 => cM_fails F A4.g (fun M' fe => ?_)⟩
          · rw [if_neg (fun q => q (nuc_0 i1 (by omega) (by omega)))] at k1
            refine ⟨200 * (n + 1 - ten B n (ten B n y)) + (u - 0) + 1, by omega, ten B n (ten B n y), d, g', R', hP', rfl, by omega, u, 0, y, cOf (twv B n y), rfl, Nat.zero_le _, by omega, by omega, hok, rfl, rfl, rfl, A4.W, ?_, k1⟩
            have hz : conR (rS R') q0 d ((0 : Nat) : Int) (cOf (twv B n y)) = rS R' := conR_0
            rw [hz]
            exact A4
          · rw [nuc_2 i1 (by omega), if_pos (by decide)] at k1
            simp only [wq_g3, wq_gc, wq_g, wq_g1, wq_g2, eM_readContents, iM_readContents_0, iM_readContents_2, iM_readContents_21, iM_readContents_41, iM_readContents_53, iM_readContents_78, iM_readContents_81, iM_readContents_127, iM_readContents_137, vM_readContents, wps, x_cnd, reduceIte, Nat.reduceAdd, Nat.reduceSub, Nat.reduceEqDiff, Nat.reduceLeDiff, Nat.lt_irrefl, Nat.reduceLT, Int.cast_ofNat_Int, wq_c0, wq_c1, true_and, and_true, and_self, true_implies, forall_const, ne_eq, Decidable.not_not, not_true_eq_false, not_false_eq_true, List.map_nil, List.map_cons, List.sum_nil, List.sum_cons, List.length_cons, List.length_nil, Nat.le_refl, Nat.zero_le, reduceCtorEq, true_or, or_true, false_or, or_false, false_and, and_false, false_implies, Nat.zero_add, Nat.add_zero, Int.reduceEq, Int.reduceNe, Int.reduceLT, Int.reduceLE, Int.reduceNeg, Int.reduceToNat, Nat.not_lt_zero, Int.reduceAdd, fxs F, l0, l1, l2]
            exact k1 M' fe
        · rw [if_pos c1] at k1
          simp only [wq_g3, wq_gc, wq_g, wq_g1, wq_g2, eM_readContents, iM_readContents_0, iM_readContents_2, iM_readContents_21, iM_readContents_41, iM_readContents_53, iM_readContents_78, iM_readContents_81, iM_readContents_127, iM_readContents_137, vM_readContents, wps, x_cnd, reduceIte, Nat.reduceAdd, Nat.reduceSub, Nat.reduceEqDiff, Nat.reduceLeDiff, Nat.lt_irrefl, Nat.reduceLT, Int.cast_ofNat_Int, wq_c0, wq_c1, true_and, and_true, and_self, true_implies, forall_const, ne_eq, Decidable.not_not, not_true_eq_false, not_false_eq_true, List.map_nil, List.map_cons, List.sum_nil, List.sum_cons, List.length_cons, List.length_nil, Nat.le_refl, Nat.zero_le, reduceCtorEq, true_or, or_true, false_or, or_false, false_and, and_false, false_implies, Nat.zero_add, Nat.add_zero, Int.reduceEq, Int.reduceNe, Int.reduceLT, Int.reduceLE, Int.reduceNeg, Int.reduceToNat, Nat.not_lt_zero, Int.reduceAdd, fxs F, l0, l1, l2]
          exact k1 M' fe
    · have hN : sN (rS R') ≤ 150 := A1.W.1.N
      simp only [wq_g3, wq_gc, wq_g, wq_g1, wq_g2, eM_readContents, iM_readContents_0, iM_readContents_2, iM_readContents_21, iM_readContents_41, iM_readContents_53, iM_readContents_78, iM_readContents_81, iM_readContents_127, iM_readContents_137, vM_readContents, wps, x_cnd, reduceIte, Nat.reduceAdd, Nat.reduceSub, Nat.reduceEqDiff, Nat.reduceLeDiff, Nat.lt_irrefl, Nat.reduceLT, Int.cast_ofNat_Int, wq_c0, wq_c1, true_and, and_true, and_self, true_implies, forall_const, ne_eq, Decidable.not_not, not_true_eq_false, not_false_eq_true, List.map_nil, List.map_cons, List.sum_nil, List.sum_cons, List.length_cons, List.length_nil, Nat.le_refl, Nat.zero_le, reduceCtorEq, true_or, or_true, false_or, or_false, false_and, and_false, false_implies, Nat.zero_add, Nat.add_zero, Int.reduceEq, Int.reduceNe, Int.reduceLT, Int.reduceLE, Int.reduceNeg, Int.reduceToNat, Nat.not_lt_zero, Int.reduceAdd, fxs F, l0, l1, l2, l3, l4, e14]
      simp (disch := omega) only [w32_of]
      refine ⟨fun c0 => ?_, fun c0 => ⟨by omega, ?_⟩⟩
      · have hpc : p = c1 := by omega
        subst hpc
        refine ⟨200 * (n + 1 - y), by omega, y, d + p, g, (a, true, conR (rS R') (sP (rS R')) d p v, rM R', rC R', rN R'), hP', congrArg (fun z => some (xI z)) (by omega), hg, rfl, hdc, ?_, k1⟩
        rw [hP']
        exact A1
      · have hpn : d + p < sN (parS (conR (rS R') q0 d p v)) := by show d + p < sN (rS R'); omega
        have hw : M1 43 (154 + d + p) = pkw (parS (conR (rS R') q0 d p v)) ((d + p : Nat) : Int) := by
          rw [show (154 : Int) + d + p = 154 + ((d + p : Nat) : Int) by omega]
          exact (A1.G.2.1 (d + p) hpn).2
        have hw0 : wfS (parS (conR (rS R') q0 d p v)) (sN (parS (conR (rS R') q0 d p v)) : Nat) := A1.W.1
        have hG0 : SG (parS (conR (rS R') q0 d p v)) (M1 43) := A1.G
        rw [hw]
        refine cM_withContent hw0 hpn hq hv ?_
        have hcc : contS (parS (conR (rS R') q0 d p v)) q0 ((d + p : Nat) : Int) v = parS (conR (rS R') q0 d ((p + 1 : Nat) : Int) v) := by
          rw [show ((d + p : Nat) : Int) = (d : Int) + p by omega]
          exact congrArg parS (conR_s (S := rS R') (part := q0) (a := d) (v := v) p)
        rw [hcc]
        simp only [wq_g3, wq_gc, wq_g, wq_g1, wq_g2, eM_readContents, iM_readContents_0, iM_readContents_2, iM_readContents_21, iM_readContents_41, iM_readContents_53, iM_readContents_78, iM_readContents_81, iM_readContents_127, iM_readContents_137, vM_readContents, wps, x_cnd, reduceIte, Nat.reduceAdd, Nat.reduceSub, Nat.reduceEqDiff, Nat.reduceLeDiff, Nat.lt_irrefl, Nat.reduceLT, Int.cast_ofNat_Int, wq_c0, wq_c1, true_and, and_true, and_self, true_implies, forall_const, ne_eq, Decidable.not_not, not_true_eq_false, not_false_eq_true, List.map_nil, List.map_cons, List.sum_nil, List.sum_cons, List.length_cons, List.length_nil, Nat.le_refl, Nat.zero_le, reduceCtorEq, true_or, or_true, false_or, or_false, false_and, and_false, false_implies, Nat.zero_add, Nat.add_zero, Int.reduceEq, Int.reduceNe, Int.reduceLT, Int.reduceLE, Int.reduceNeg, Int.reduceToNat, Nat.not_lt_zero, Int.reduceAdd, fxs F, l0, l1, l2, l3, l4, e14]
        simp (disch := omega) only [w32_of]
        refine ⟨by omega, 200 * (n + 1 - y) + (c1 - (p + 1)) + 1, by omega, y, d, g, R', hP', rfl, hg, c1, p + 1, a, v, rfl, by omega, hc9, hdc, hv, rfl, congrArg (fun z => some (xI z)) (by omega), (w_ne (by decide)).trans e14, hW, ?_, k1⟩
        have G2 := SG.at' (f' := x_w M1 43 (154 + d + p) (pkw (parS (conR (rS R') q0 d ((p + 1 : Nat) : Int) v)) ((d + p : Nat) : Int)) 43) (S' := contS (parS (conR (rS R') q0 d p v)) q0 ((d + p : Nat) : Int) v) hG0 hN rfl rfl rfl rfl rfl rfl rfl rfl (fun r hr => by
          by_cases hrp : r = d + p
          · subst hrp
            rw [show (154 : Int) + ((d + p : Nat) : Int) = 154 + d + p by omega, w_eq, hcc]
          · rw [w_nj (by omega), pkw_con_o (by omega)]
            exact (hG0.2.1 r hr).2) (fun j hj => w_nj (by omega))
        rw [hcc] at G2
        have h18 : M1 41 18 = rM R' := A1.2.2.2.1.1
        have h19 : M1 41 19 = rC R' := A1.2.2.2.1.2
        have hNm : ∀ r : Nat, r < sP (rS R') + 1 → M1 45 r = rN R' r := A1.2.2.2.2.1
        have hW1 : wfR (y, true, parS (conR (rS R') q0 d ((p + 1 : Nat) : Int) v), rM R', rC R', rN R') := wfR_con hW hv
        exact A1.upd (R' := (y, true, parS (conR (rS R') q0 d ((p + 1 : Nat) : Int) v), rM R', rC R', rN R')) (f := fun a j h1 h2 h3 => w_ne h2) (G := G2) (e18 := (w_ne (by decide)).trans h18) (e19 := (w_ne (by decide)).trans h19) (N := fun r hr => (w_ne (by decide)).trans (hNm r hr)) (W := hW1)
theorem mO_m {Ψ : xO → xM → xH → Prop} {r : xRr} (k : mO B n M0 h Φ r) (m : ∀ v M', v = 0 ∨ v = 1 → Φ (.inl (some (xI v))) M' h → Ψ (.inl (some (xI v))) M' h) : mO B n M0 h Ψ r := by
  cases r with
  | inl e => exact fun M' fe => m 0 M' (Or.inl rfl) (k M' fe)
  | inr R' => exact ⟨fun M' fe => m 1 M' (Or.inr rfl) (k.1 M' fe), fun hk M' fe => m 0 M' (Or.inl rfl) (k.2 hk M' fe)⟩
theorem SG.par {f f' : Int → Int} (G : SG S f) (hN : sN S ≤ 150) (h2 : f' 2 = sP S + 1) (hf : ∀ k : Int, k ≠ 2 → f' k = f k) : SG (parS S) f' := by
  obtain ⟨⟨a1, a2, a3, a4⟩, e, c2, d, n⟩ := G
  refine ⟨⟨(hf 0 (by omega)).trans a1, (hf 1 (by omega)).trans a2, ?_, (hf 3 (by omega)).trans a4⟩, fun p hp => ⟨(hf _ (by omega)).trans (e p hp).1, (hf _ (by omega)).trans (e p hp).2⟩, fun k hk hne => ⟨(hf _ (by omega)).trans (c2 k hk hne).1, (hf _ (by omega)).trans (c2 k hk hne).2⟩, fun k k1 k2 => (hf _ (by omega)).trans (d k k1 k2), fun part h6 hq => ?_⟩
  · rw [h2]
    show (sP S : Int) + 1 = ((sP S + 1 : Nat) : Int)
    omega
  · obtain ⟨K, k1, k2, k3, k4⟩ := n part h6 hq
    refine ⟨K, k1, (hf _ (by omega)).trans k2, fun k hk => ?_, fun id hid => ?_⟩
    · rw [hf _ (by omega), hf _ (by omega)]
      exact k3 k hk
    · obtain ⟨k, hk, hk2⟩ := k4 id hid
      exact ⟨k, hk, (hf _ (by omega)).trans hk2⟩
theorem cM_readPart (F : Fx h) (A : RS B n M0 x true R M) (e12 : M 41 12 = ts B n (rX R)) (k : mO B n M0 h Φ (pPart B n x R)) : x_Cal zM_readPart [xA 41] M h Φ := by
  have hN := A.W.1.N
  have hP := A.W.1.P
  have e2 : M 43 2 = sP (rS R) := A.G.1.2.2.1
  unfold pPart at k
  refine x_met0 kM_readPart (Nat.le_of_ble_eq_true rfl) ?_
  simp only [wq_g3, wq_gc, wq_g, wq_g1, wq_g2, eM_readPart, iM_readPart_0, iM_readPart_23, iM_readPart_32, iM_readPart_51, iM_readPart_72, vM_readPart, wps, x_cnd, reduceIte, Nat.reduceAdd, Nat.reduceSub, Nat.reduceEqDiff, Nat.reduceLeDiff, Nat.lt_irrefl, Nat.reduceLT, Int.cast_ofNat_Int, wq_c0, wq_c1, true_and, and_true, and_self, true_implies, forall_const, ne_eq, Decidable.not_not, not_true_eq_false, not_false_eq_true, List.map_nil, List.map_cons, List.sum_nil, List.sum_cons, List.length_cons, List.length_nil, Nat.le_refl, Nat.zero_le, reduceCtorEq, true_or, or_true, false_or, or_false, false_and, and_false, false_implies, Nat.zero_add, Nat.add_zero, Int.reduceEq, Int.reduceNe, Int.reduceLT, Int.reduceLE, Int.reduceNeg, Int.reduceToNat, Nat.not_lt_zero, Int.reduceAdd, fxs F, e2, e12]
  refine ⟨fun c0 => cM_readWord F A.T A.g (fun c1 M' fe => ?_) (fun M1 hk T1 f1 e17 e13 e12' => ?_), fun c0 => cM_fails F A.g (fun M' fe => ?_)⟩
  · rw [if_neg (by omega), if_pos (Or.inl c1)] at k
    simp only [wq_g3, wq_gc, wq_g, wq_g1, wq_g2, eM_readPart, iM_readPart_0, iM_readPart_23, iM_readPart_32, iM_readPart_51, iM_readPart_72, vM_readPart, wps, x_cnd, reduceIte, Nat.reduceAdd, Nat.reduceSub, Nat.reduceEqDiff, Nat.reduceLeDiff, Nat.lt_irrefl, Nat.reduceLT, Int.cast_ofNat_Int, wq_c0, wq_c1, true_and, and_true, and_self, true_implies, forall_const, ne_eq, Decidable.not_not, not_true_eq_false, not_false_eq_true, List.map_nil, List.map_cons, List.sum_nil, List.sum_cons, List.length_cons, List.length_nil, Nat.le_refl, Nat.zero_le, reduceCtorEq, true_or, or_true, false_or, or_false, false_and, and_false, false_implies, Nat.zero_add, Nat.add_zero, Int.reduceEq, Int.reduceNe, Int.reduceLT, Int.reduceLE, Int.reduceNeg, Int.reduceToNat, Nat.not_lt_zero, Int.reduceAdd, fxs F]
    exact k M' fe
  · have A1 := A.fr T1 f1
    have e2' : M1 43 2 = sP (rS R) := A1.G.1.2.2.1
    rw [if_neg (by omega)] at k
    simp only [wq_g3, wq_gc, wq_g, wq_g1, wq_g2, eM_readPart, iM_readPart_0, iM_readPart_23, iM_readPart_32, iM_readPart_51, iM_readPart_72, vM_readPart, wps, x_cnd, reduceIte, Nat.reduceAdd, Nat.reduceSub, Nat.reduceEqDiff, Nat.reduceLeDiff, Nat.lt_irrefl, Nat.reduceLT, Int.cast_ofNat_Int, wq_c0, wq_c1, true_and, and_true, and_self, true_implies, forall_const, ne_eq, Decidable.not_not, not_true_eq_false, not_false_eq_true, List.map_nil, List.map_cons, List.sum_nil, List.sum_cons, List.length_cons, List.length_nil, Nat.le_refl, Nat.zero_le, reduceCtorEq, true_or, or_true, false_or, or_false, false_and, and_false, false_implies, Nat.zero_add, Nat.add_zero, Int.reduceEq, Int.reduceNe, Int.reduceLT, Int.reduceLE, Int.reduceNeg, Int.reduceToNat, Nat.not_lt_zero, Int.reduceAdd, fxs F, e13, e12', e17]
    refine ⟨fun c1 => ?_, fun c1 => cM_fails F A1.g (fun M' fe => ?_)⟩
    · rw [if_neg (by omega)] at k
      refine cM_isNamed F (P := sP (rS R)) (by omega) e2' A1.2.2.2.2.1 (w := twv B n x) ?_
      simp only [wq_g3, wq_gc, wq_g, wq_g1, wq_g2, eM_readPart, iM_readPart_0, iM_readPart_23, iM_readPart_32, iM_readPart_51, iM_readPart_72, vM_readPart, wps, x_cnd, reduceIte, Nat.reduceAdd, Nat.reduceSub, Nat.reduceEqDiff, Nat.reduceLeDiff, Nat.lt_irrefl, Nat.reduceLT, Int.cast_ofNat_Int, wq_c0, wq_c1, true_and, and_true, and_self, true_implies, forall_const, ne_eq, Decidable.not_not, not_true_eq_false, not_false_eq_true, List.map_nil, List.map_cons, List.sum_nil, List.sum_cons, List.length_cons, List.length_nil, Nat.le_refl, Nat.zero_le, reduceCtorEq, true_or, or_true, false_or, or_false, false_and, and_false, false_implies, Nat.zero_add, Nat.add_zero, Int.reduceEq, Int.reduceNe, Int.reduceLT, Int.reduceLE, Int.reduceNeg, Int.reduceToNat, Nat.not_lt_zero, Int.reduceAdd, fxs F, e17, b01_0, e12']
      simp (disch := omega) only [w32_of]
      refine ⟨fun c2 => ⟨by omega, ?_⟩, fun c2 => cM_fails F A1.g (fun M' fe => ?_)⟩
      · rw [if_neg (fun q => q c2)] at k
        have h18 : M1 41 18 = rM R := A1.2.2.2.1.1
        have h19 : M1 41 19 = rC R := A1.2.2.2.1.2
        have hNm : ∀ r : Nat, r < sP (rS R) → M1 45 r = rN R r := A1.2.2.2.2.1
        have hW1 : wfR (ten B n x, true, parS (rS R), rM R, rC R, up (sP (rS R)) (twv B n x) (rN R)) := wfR_par (x := ten B n x) (l := true) A1.W (by omega)
        have A2 := A1.upd (R' := (ten B n x, true, parS (rS R), rM R, rC R, up (sP (rS R)) (twv B n x) (rN R))) (M' := x_w (x_w M1 45 (sP (rS R)) (twv B n x)) 43 2 ((sP (rS R) : Int) + 1)) (f := fun a j h1 h2 h3 => by rw [w_ne h2, w_ne h3]) (G := SG.par (S := rS R) A1.G hN w_eq (fun j hj => by rw [w_nj hj, w_ne (by decide)])) (e18 := by rw [w_ne (by decide), w_ne (by decide)]; exact h18) (e19 := by rw [w_ne (by decide), w_ne (by decide)]; exact h19) (N := fun r hr => ?_) (W := hW1)
        · refine cM_readContents F (R := (x, true, rS R, rM R, rC R, up (sP (rS R)) (twv B n x) (rN R))) (by omega) A2 rfl (mO_m k (fun v M' hv q => ?_))
          simp only [wq_g3, wq_gc, wq_g, wq_g1, wq_g2, eM_readPart, iM_readPart_0, iM_readPart_23, iM_readPart_32, iM_readPart_51, iM_readPart_72, vM_readPart, wps, x_cnd, reduceIte, Nat.reduceAdd, Nat.reduceSub, Nat.reduceEqDiff, Nat.reduceLeDiff, Nat.lt_irrefl, Nat.reduceLT, Int.cast_ofNat_Int, wq_c0, wq_c1, true_and, and_true, and_self, true_implies, forall_const, ne_eq, Decidable.not_not, not_true_eq_false, not_false_eq_true, List.map_nil, List.map_cons, List.sum_nil, List.sum_cons, List.length_cons, List.length_nil, Nat.le_refl, Nat.zero_le, reduceCtorEq, true_or, or_true, false_or, or_false, false_and, and_false, false_implies, Nat.zero_add, Nat.add_zero, Int.reduceEq, Int.reduceNe, Int.reduceLT, Int.reduceLE, Int.reduceNeg, Int.reduceToNat, Nat.not_lt_zero, Int.reduceAdd, fxs F]
          exact ⟨hv, q⟩
        · have hr : r < sP (rS R) + 1 := hr
          show _ = up (sP (rS R)) (twv B n x) (rN R) r
          rw [w_ne (by decide)]
          by_cases hrp : r = sP (rS R)
          · subst hrp
            rw [w_eq, up_1]
          · rw [w_nj (by omega), up_2 (by omega)]
            exact hNm r (by omega)
      · rw [if_pos c2] at k
        simp only [wq_g3, wq_gc, wq_g, wq_g1, wq_g2, eM_readPart, iM_readPart_0, iM_readPart_23, iM_readPart_32, iM_readPart_51, iM_readPart_72, vM_readPart, wps, x_cnd, reduceIte, Nat.reduceAdd, Nat.reduceSub, Nat.reduceEqDiff, Nat.reduceLeDiff, Nat.lt_irrefl, Nat.reduceLT, Int.cast_ofNat_Int, wq_c0, wq_c1, true_and, and_true, and_self, true_implies, forall_const, ne_eq, Decidable.not_not, not_true_eq_false, not_false_eq_true, List.map_nil, List.map_cons, List.sum_nil, List.sum_cons, List.length_cons, List.length_nil, Nat.le_refl, Nat.zero_le, reduceCtorEq, true_or, or_true, false_or, or_false, false_and, and_false, false_implies, Nat.zero_add, Nat.add_zero, Int.reduceEq, Int.reduceNe, Int.reduceLT, Int.reduceLE, Int.reduceNeg, Int.reduceToNat, Nat.not_lt_zero, Int.reduceAdd, fxs F]
        exact k M' fe
    · rw [if_pos (Or.inr (by omega))] at k
      simp only [wq_g3, wq_gc, wq_g, wq_g1, wq_g2, eM_readPart, iM_readPart_0, iM_readPart_23, iM_readPart_32, iM_readPart_51, iM_readPart_72, vM_readPart, wps, x_cnd, reduceIte, Nat.reduceAdd, Nat.reduceSub, Nat.reduceEqDiff, Nat.reduceLeDiff, Nat.lt_irrefl, Nat.reduceLT, Int.cast_ofNat_Int, wq_c0, wq_c1, true_and, and_true, and_self, true_implies, forall_const, ne_eq, Decidable.not_not, not_true_eq_false, not_false_eq_true, List.map_nil, List.map_cons, List.sum_nil, List.sum_cons, List.length_cons, List.length_nil, Nat.le_refl, Nat.zero_le, reduceCtorEq, true_or, or_true, false_or, or_false, false_and, and_false, false_implies, Nat.zero_add, Nat.add_zero, Int.reduceEq, Int.reduceNe, Int.reduceLT, Int.reduceLE, Int.reduceNeg, Int.reduceToNat, Nat.not_lt_zero, Int.reduceAdd, fxs F]
      exact k M' fe
  · rw [if_pos (by omega)] at k
    simp only [wq_g3, wq_gc, wq_g, wq_g1, wq_g2, eM_readPart, iM_readPart_0, iM_readPart_23, iM_readPart_32, iM_readPart_51, iM_readPart_72, vM_readPart, wps, x_cnd, reduceIte, Nat.reduceAdd, Nat.reduceSub, Nat.reduceEqDiff, Nat.reduceLeDiff, Nat.lt_irrefl, Nat.reduceLT, Int.cast_ofNat_Int, wq_c0, wq_c1, true_and, and_true, and_self, true_implies, forall_const, ne_eq, Decidable.not_not, not_true_eq_false, not_false_eq_true, List.map_nil, List.map_cons, List.sum_nil, List.sum_cons, List.length_cons, List.length_nil, Nat.le_refl, Nat.zero_le, reduceCtorEq, true_or, or_true, false_or, or_false, false_and, and_false, false_implies, Nat.zero_add, Nat.add_zero, Int.reduceEq, Int.reduceNe, Int.reduceLT, Int.reduceLE, Int.reduceNeg, Int.reduceToNat, Nat.not_lt_zero, Int.reduceAdd, fxs F]
    exact k M' fe
end MSTP
