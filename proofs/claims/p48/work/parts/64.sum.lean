/-! bar, asked for one of its things; the sum; errata -/
section LAW4
variable {A : xAb} {M M' : xM} {h h' : xH} {Φ : xO → xM → xH → Prop}
set_option maxHeartbeats 2000000
theorem cP_barN (C : CW A M h) {b w : Int} (hw : 0 ≤ w ∧ w ≤ 8) (k : Φ (xo (anBar (aS A) b w)) M h) : x_Cal zP_barN [xA 1, xI b, xI w] M h Φ := by
  have hN := C.w.N
  refine x_met0 kP_barN (Nat.le_of_ble_eq_true rfl) ?_
  simp only [wq_g3, wq_gc, wq_g, wq_g1, wq_g2, eP_barN, iP_barN_0, iP_barN_56, iP_barN_58, iP_barN_68, iP_barN_78, iP_barN_88, iP_barN_98, iP_barN_108, iP_barN_123, iP_barN_124, iP_barN_125, iP_barN_135, vP_barN, wps, x_cnd, reduceIte, Nat.reduceAdd, Nat.reduceSub, Nat.reduceEqDiff, Nat.reduceLeDiff, Nat.lt_irrefl, Nat.reduceLT, Int.cast_ofNat_Int, wq_c0, wq_c1, true_and, and_true, and_self, true_implies, forall_const, ne_eq, Decidable.not_not, not_true_eq_false, not_false_eq_true, List.map_nil, List.map_cons, List.sum_nil, List.sum_cons, List.length_cons, List.length_nil, Nat.le_refl, Nat.zero_le, reduceCtorEq, true_or, or_true, false_or, or_false, false_and, and_false, false_implies, Nat.zero_add, Nat.add_zero, Int.reduceEq, Int.reduceNe, Int.reduceLT, Int.reduceLE, Int.reduceNeg, Int.reduceToNat, Nat.not_lt_zero, Int.reduceAdd, fxs C.F]
  unfold anBar at k
  refine cP_requirePlace C (fun c0 => ?_) (fun p p1 p2 p3 => ?_)
  · simp only [wq_g3, wq_gc, wq_g, wq_g1, wq_g2, eP_barN, iP_barN_0, iP_barN_56, iP_barN_58, iP_barN_68, iP_barN_78, iP_barN_88, iP_barN_98, iP_barN_108, iP_barN_123, iP_barN_124, iP_barN_125, iP_barN_135, vP_barN, wps, x_cnd, reduceIte, Nat.reduceAdd, Nat.reduceSub, Nat.reduceEqDiff, Nat.reduceLeDiff, Nat.lt_irrefl, Nat.reduceLT, Int.cast_ofNat_Int, wq_c0, wq_c1, true_and, and_true, and_self, true_implies, forall_const, ne_eq, Decidable.not_not, not_true_eq_false, not_false_eq_true, List.map_nil, List.map_cons, List.sum_nil, List.sum_cons, List.length_cons, List.length_nil, Nat.le_refl, Nat.zero_le, reduceCtorEq, true_or, or_true, false_or, or_false, false_and, and_false, false_implies, Nat.zero_add, Nat.add_zero, Int.reduceEq, Int.reduceNe, Int.reduceLT, Int.reduceLE, Int.reduceNeg, Int.reduceToNat, Nat.not_lt_zero, Int.reduceAdd, fxs C.F]
    exact ke k (by rw [if_pos c0])
  have e1 := C.V.lab p1
  have e2 : M 19 p = sB (aS A) p := C.R.bt p1
  have e3 : M 20 p = sX (aS A) p := C.R.x p1
  have e4 : M 21 p = sT (aS A) p := C.R.t p1
  have e5 : M 22 p = sD (aS A) p := C.R.d p1
  have e7 := C.V.lt p1
  have e8 := C.V.sit p1
  rw [if_neg (by omega), p2] at k
  simp only [wq_g3, wq_gc, wq_g, wq_g1, wq_g2, eP_barN, iP_barN_0, iP_barN_56, iP_barN_58, iP_barN_68, iP_barN_78, iP_barN_88, iP_barN_98, iP_barN_108, iP_barN_123, iP_barN_124, iP_barN_125, iP_barN_135, vP_barN, wps, x_cnd, reduceIte, Nat.reduceAdd, Nat.reduceSub, Nat.reduceEqDiff, Nat.reduceLeDiff, Nat.lt_irrefl, Nat.reduceLT, Int.cast_ofNat_Int, wq_c0, wq_c1, true_and, and_true, and_self, true_implies, forall_const, ne_eq, Decidable.not_not, not_true_eq_false, not_false_eq_true, List.map_nil, List.map_cons, List.sum_nil, List.sum_cons, List.length_cons, List.length_nil, Nat.le_refl, Nat.zero_le, reduceCtorEq, true_or, or_true, false_or, or_false, false_and, and_false, false_implies, Nat.zero_add, Nat.add_zero, Int.reduceEq, Int.reduceNe, Int.reduceLT, Int.reduceLE, Int.reduceNeg, Int.reduceToNat, Nat.not_lt_zero, Int.reduceAdd, fxs C.F, e1, e2, e3, e4, e5, e7, e8]
  refine ⟨fun c => ?_, fun c => ⟨by omega, ?_⟩, fun c => ⟨by omega, ?_⟩, fun c => ⟨by omega, ?_⟩, fun c => ⟨by omega, ?_⟩, fun c => ⟨by omega, ?_⟩, fun c => ?_, fun c => ⟨by omega, ?_⟩, fun c => ⟨by omega, ?_⟩, fun c => ?_⟩
  · exact kv k (by rw [if_pos c])
  · exact kv k (by subst c; rfl)
  · exact kv k (by subst c; rfl)
  · exact kv k (by subst c; rfl)
  · exact kv k (by subst c; rfl)
  · exact kv k (by subst c; rfl)
  · subst c
    refine cV_isPlayed C.F C.w C.V p1 ?_
    simp only [wq_g3, wq_gc, wq_g, wq_g1, wq_g2, eP_barN, iP_barN_0, iP_barN_56, iP_barN_58, iP_barN_68, iP_barN_78, iP_barN_88, iP_barN_98, iP_barN_108, iP_barN_123, iP_barN_124, iP_barN_125, iP_barN_135, vP_barN, wps, x_cnd, reduceIte, Nat.reduceAdd, Nat.reduceSub, Nat.reduceEqDiff, Nat.reduceLeDiff, Nat.lt_irrefl, Nat.reduceLT, Int.cast_ofNat_Int, wq_c0, wq_c1, true_and, and_true, and_self, true_implies, forall_const, ne_eq, Decidable.not_not, not_true_eq_false, not_false_eq_true, List.map_nil, List.map_cons, List.sum_nil, List.sum_cons, List.length_cons, List.length_nil, Nat.le_refl, Nat.zero_le, reduceCtorEq, true_or, or_true, false_or, or_false, false_and, and_false, false_implies, Nat.zero_add, Nat.add_zero, Int.reduceEq, Int.reduceNe, Int.reduceLT, Int.reduceLE, Int.reduceNeg, Int.reduceToNat, Nat.not_lt_zero, Int.reduceAdd, fxs C.F, b01_0]
    have k2 : Φ (.inl (some (xI (b01 (cov (aS A) p = 0))))) M h := kv k rfl
    refine ⟨fun c1 => ?_, fun c1 => ?_⟩
    · rw [b01_f c1] at k2
      exact k2
    · rw [b01_t c1] at k2
      exact k2
  · exact kv k (by subst c; rfl)
  · exact kv k (by subst c; rfl)
  · exact absurd c (by omega)
/-- what bar answers of a place -/
def bv (S : xSr) (p : Nat) (w : Int) : Int := if w = 0 then (p : Int) else if w = 1 then lab S p else if w = 2 then sB S p else if w = 3 then sX S p else if w = 4 then sT S p else if w = 5 then sD S p else if w = 6 then b01 (cov S p = 0) else if w = 7 then lt S p else sit S p
theorem anBar_at {S : xSr} {nid w : Int} {p : Nat} (W : wfS S nid) (hp : p < sN S) (hw : 0 ≤ w ∧ w ≤ 8) : anBar S (sI S p) w = .inl (bv S p w) := by
  have e := pl_at W hp
  unfold anBar bv
  rw [e, if_neg (by omega), Int.toNat_natCast]
  repeat' split
  all_goals first | rfl | omega
theorem cP_barV (C : CW A M h) {p : Nat} {w : Int} (hp : p < sN (aS A)) (hw : 0 ≤ w ∧ w ≤ 8) (k : Φ (.inl (some (xI (bv (aS A) p w)))) M h) : x_Cal zP_barN [xA 1, xI (sI (aS A) p), xI w] M h Φ := cP_barN C hw (by rw [anBar_at C.w hp hw]; exact k)
theorem cP_barAtV (C : CW A M h) {p : Nat} (hp : p < sN (aS A)) (k : Φ (.inl (some (xI (sI (aS A) p)))) M h) : x_Cal zP_barAt [xA 1, xI p] M h Φ := cP_barAt C (by unfold anBarAt; rw [if_pos (by omega)]; exact k)
theorem cP_contentV (C : CW A M h) {p : Nat} {part : Int} (hp : p < sN (aS A)) (h2 : 0 ≤ part ∧ part < sP (aS A)) (k : Φ (.inl (some (xI (sC (aS A) part p)))) M h) : x_Cal zP_content [xA 1, xI part, xI (sI (aS A) p)] M h Φ := cP_content C (by unfold anContent anPt; rw [if_pos h2, pl_at C.w hp, if_neg (by omega)]; exact k)
theorem cP_isPrintedV (C : CW A M h) {part : Int} (h2 : 0 ≤ part ∧ part < sP (aS A)) (k : Φ (.inl (some (xI (b01 (sQ (aS A) part = 1))))) M h) : x_Cal zP_isPrinted [xA 1, xI part] M h Φ := cP_isPrinted C (by unfold anPrinted anPt; rw [if_pos h2]; exact k)
/-- the sum, as numbers -/
def smW (S : xSr) (p : Nat) (a : Int) : Nat → Int
  | 0 => a
  | j + 1 => w64 (w64 (31 * smW S p a j) + bv S p ((j + 1 : Nat) : Int))
def smC (S : xSr) (p : Nat) (a : Int) : Nat → Int
  | 0 => a
  | j + 1 => w64 (w64 (31 * smC S p a j) + sC S j p)
def smT (S : xSr) : Nat → Int
  | 0 => w64 (w64 (31 * bs (hasC S) 10) + mkN S)
  | k + 1 => smC S k (smW S k (w64 (w64 (31 * smT S k) + sI S k)) 8) 3
def smP (S : xSr) : Nat → Int
  | 0 => smT S (sN S)
  | j + 1 => w64 (w64 (31 * smP S j) + b01 (sQ S j = 1))
theorem cl_sum (C : CW A M h) (hP : sP (aS A) = 3) (hN : sN (aS A) ≤ 66) (k : Φ (.inl (some (xJ (smP (aS A) 3)))) M h) : x_Cal zL_sum [xA 1] M h Φ := by
  have k1 := C.k1
  refine x_metI kL_sum (Nat.le_of_ble_eq_true rfl) (fun t m ls st M' h' c n => st = [] ∧ M' = M ∧ h' = h ∧ ls 0 = some (xA 1) ∧ (
    (t = 18 ∧ ∃ k : Nat, m = 100 * (200 - k) ∧ k ≤ sN (aS A) ∧ ls 3 = some (xI k) ∧ ls 1 = some (xJ (smT (aS A) k)) ∧ c ≤ 15 * k ∧ n ≤ 90 * k)
    ∨ (t = 46 ∧ ∃ k j : Nat, m + j + 10 = 100 * (200 - k) ∧ k < sN (aS A) ∧ j ≤ 8 ∧ ls 3 = some (xI k) ∧ ls 4 = some (xI (sI (aS A) k)) ∧ ls 5 = some (xI ((j + 1 : Nat) : Int)) ∧ ls 1 = some (xJ (smW (aS A) k (w64 (w64 (31 * smT (aS A) k) + sI (aS A) k)) j)) ∧ c ≤ 15 * k + 1 + j ∧ n ≤ 90 * k + 6 + 6 * j)
    ∨ (t = 78 ∧ ∃ k j : Nat, m + j + 30 = 100 * (200 - k) ∧ k < sN (aS A) ∧ j ≤ 3 ∧ ls 3 = some (xI k) ∧ ls 4 = some (xI (sI (aS A) k)) ∧ ls 5 = some (xI j) ∧ ls 1 = some (xJ (smC (aS A) k (smW (aS A) k (w64 (w64 (31 * smT (aS A) k) + sI (aS A) k)) 8) j)) ∧ c ≤ 15 * k + 9 + 2 * j ∧ n ≤ 90 * k + 54 + 12 * j)
    ∨ (t = 117 ∧ ∃ j : Nat, m = 10 - j ∧ j ≤ 3 ∧ ls 3 = some (xI j) ∧ ls 1 = some (xJ (smP (aS A) j)) ∧ c ≤ 990 + j ∧ n ≤ 5940 + 6 * j))) 20 ?_ ?_
  · simp only [wq_g3, wq_gc, wq_g, wq_g1, wq_g2, eL_sum, iL_sum_0, iL_sum_18, iL_sum_46, iL_sum_75, iL_sum_78, iL_sum_109, iL_sum_115, iL_sum_117, iL_sum_142, iL_sum_143, iL_sum_152, vL_sum, wps, x_cnd, reduceIte, Nat.reduceAdd, Nat.reduceSub, Nat.reduceEqDiff, Nat.reduceLeDiff, Nat.lt_irrefl, Nat.reduceLT, Int.cast_ofNat_Int, wq_c0, wq_c1, true_and, and_true, and_self, true_implies, forall_const, ne_eq, Decidable.not_not, not_true_eq_false, not_false_eq_true, List.map_nil, List.map_cons, List.sum_nil, List.sum_cons, List.length_cons, List.length_nil, Nat.le_refl, Nat.zero_le, reduceCtorEq, true_or, or_true, false_or, or_false, false_and, and_false, false_implies, Nat.zero_add, Nat.add_zero, Int.reduceEq, Int.reduceNe, Int.reduceLT, Int.reduceLE, Int.reduceNeg, Int.reduceToNat, Nat.not_lt_zero, Int.reduceAdd, k1]
    refine cP_cuts C ?_
    simp only [wq_g3, wq_gc, wq_g, wq_g1, wq_g2, eL_sum, iL_sum_0, iL_sum_18, iL_sum_46, iL_sum_75, iL_sum_78, iL_sum_109, iL_sum_115, iL_sum_117, iL_sum_142, iL_sum_143, iL_sum_152, vL_sum, wps, x_cnd, reduceIte, Nat.reduceAdd, Nat.reduceSub, Nat.reduceEqDiff, Nat.reduceLeDiff, Nat.lt_irrefl, Nat.reduceLT, Int.cast_ofNat_Int, wq_c0, wq_c1, true_and, and_true, and_self, true_implies, forall_const, ne_eq, Decidable.not_not, not_true_eq_false, not_false_eq_true, List.map_nil, List.map_cons, List.sum_nil, List.sum_cons, List.length_cons, List.length_nil, Nat.le_refl, Nat.zero_le, reduceCtorEq, true_or, or_true, false_or, or_false, false_and, and_false, false_implies, Nat.zero_add, Nat.add_zero, Int.reduceEq, Int.reduceNe, Int.reduceLT, Int.reduceLE, Int.reduceNeg, Int.reduceToNat, Nat.not_lt_zero, Int.reduceAdd, k1]
    refine cP_marks C ?_
    simp only [wq_g3, wq_gc, wq_g, wq_g1, wq_g2, eL_sum, iL_sum_0, iL_sum_18, iL_sum_46, iL_sum_75, iL_sum_78, iL_sum_109, iL_sum_115, iL_sum_117, iL_sum_142, iL_sum_143, iL_sum_152, vL_sum, wps, x_cnd, reduceIte, Nat.reduceAdd, Nat.reduceSub, Nat.reduceEqDiff, Nat.reduceLeDiff, Nat.lt_irrefl, Nat.reduceLT, Int.cast_ofNat_Int, wq_c0, wq_c1, true_and, and_true, and_self, true_implies, forall_const, ne_eq, Decidable.not_not, not_true_eq_false, not_false_eq_true, List.map_nil, List.map_cons, List.sum_nil, List.sum_cons, List.length_cons, List.length_nil, Nat.le_refl, Nat.zero_le, reduceCtorEq, true_or, or_true, false_or, or_false, false_and, and_false, false_implies, Nat.zero_add, Nat.add_zero, Int.reduceEq, Int.reduceNe, Int.reduceLT, Int.reduceLE, Int.reduceNeg, Int.reduceToNat, Nat.not_lt_zero, Int.reduceAdd, k1]
    exact ⟨_, 0, rfl, by omega, rfl, rfl⟩
  · rintro t m ls st M' h' c n ⟨rfl, rfl, rfl, l0, (⟨rfl, q, m1, q1, l3, l1, c1, n1⟩ | ⟨rfl, q, j, m1, q1, j1, l3, l4, l5, l1, c1, n1⟩ | ⟨rfl, q, j, m1, q1, j1, l3, l4, l5, l1, c1, n1⟩ | ⟨rfl, j, m1, j1, l3, l1, c1, n1⟩)⟩
    · simp only [wq_g3, wq_gc, wq_g, wq_g1, wq_g2, eL_sum, iL_sum_0, iL_sum_18, iL_sum_46, iL_sum_75, iL_sum_78, iL_sum_109, iL_sum_115, iL_sum_117, iL_sum_142, iL_sum_143, iL_sum_152, vL_sum, wps, x_cnd, reduceIte, Nat.reduceAdd, Nat.reduceSub, Nat.reduceEqDiff, Nat.reduceLeDiff, Nat.lt_irrefl, Nat.reduceLT, Int.cast_ofNat_Int, wq_c0, wq_c1, true_and, and_true, and_self, true_implies, forall_const, ne_eq, Decidable.not_not, not_true_eq_false, not_false_eq_true, List.map_nil, List.map_cons, List.sum_nil, List.sum_cons, List.length_cons, List.length_nil, Nat.le_refl, Nat.zero_le, reduceCtorEq, true_or, or_true, false_or, or_false, false_and, and_false, false_implies, Nat.zero_add, Nat.add_zero, Int.reduceEq, Int.reduceNe, Int.reduceLT, Int.reduceLE, Int.reduceNeg, Int.reduceToNat, Nat.not_lt_zero, Int.reduceAdd, k1, l0, l1, l3]
      (repeat refine ⟨by omega, ?_⟩)
      refine cP_bars C ?_
      simp only [wq_g3, wq_gc, wq_g, wq_g1, wq_g2, eL_sum, iL_sum_0, iL_sum_18, iL_sum_46, iL_sum_75, iL_sum_78, iL_sum_109, iL_sum_115, iL_sum_117, iL_sum_142, iL_sum_143, iL_sum_152, vL_sum, wps, x_cnd, reduceIte, Nat.reduceAdd, Nat.reduceSub, Nat.reduceEqDiff, Nat.reduceLeDiff, Nat.lt_irrefl, Nat.reduceLT, Int.cast_ofNat_Int, wq_c0, wq_c1, true_and, and_true, and_self, true_implies, forall_const, ne_eq, Decidable.not_not, not_true_eq_false, not_false_eq_true, List.map_nil, List.map_cons, List.sum_nil, List.sum_cons, List.length_cons, List.length_nil, Nat.le_refl, Nat.zero_le, reduceCtorEq, true_or, or_true, false_or, or_false, false_and, and_false, false_implies, Nat.zero_add, Nat.add_zero, Int.reduceEq, Int.reduceNe, Int.reduceLT, Int.reduceLE, Int.reduceNeg, Int.reduceToNat, Nat.not_lt_zero, Int.reduceAdd, k1, l0, l1, l3]
      refine ⟨fun c0 => ?_, fun c0 => ?_⟩
      · have hq : q = sN (aS A) := by omega
        subst hq
        exact ⟨10, by omega, 0, by omega, by omega, rfl, rfl, by omega, by omega⟩
      · (repeat refine ⟨by omega, ?_⟩)
        refine cP_barAtV C (p := q) (by omega) ?_
        simp only [wq_g3, wq_gc, wq_g, wq_g1, wq_g2, eL_sum, iL_sum_0, iL_sum_18, iL_sum_46, iL_sum_75, iL_sum_78, iL_sum_109, iL_sum_115, iL_sum_117, iL_sum_142, iL_sum_143, iL_sum_152, vL_sum, wps, x_cnd, reduceIte, Nat.reduceAdd, Nat.reduceSub, Nat.reduceEqDiff, Nat.reduceLeDiff, Nat.lt_irrefl, Nat.reduceLT, Int.cast_ofNat_Int, wq_c0, wq_c1, true_and, and_true, and_self, true_implies, forall_const, ne_eq, Decidable.not_not, not_true_eq_false, not_false_eq_true, List.map_nil, List.map_cons, List.sum_nil, List.sum_cons, List.length_cons, List.length_nil, Nat.le_refl, Nat.zero_le, reduceCtorEq, true_or, or_true, false_or, or_false, false_and, and_false, false_implies, Nat.zero_add, Nat.add_zero, Int.reduceEq, Int.reduceNe, Int.reduceLT, Int.reduceLE, Int.reduceNeg, Int.reduceToNat, Nat.not_lt_zero, Int.reduceAdd, k1, l0, l1, l3]
        exact ⟨100 * (200 - q) - 10, by omega, q, 0, by omega, by omega, by omega, rfl, rfl, rfl, rfl, by omega, by omega⟩
    · have e1 : ((j + 1 : Nat) : Int) = (j : Int) + 1 := by omega
      simp only [wq_g3, wq_gc, wq_g, wq_g1, wq_g2, eL_sum, iL_sum_0, iL_sum_18, iL_sum_46, iL_sum_75, iL_sum_78, iL_sum_109, iL_sum_115, iL_sum_117, iL_sum_142, iL_sum_143, iL_sum_152, vL_sum, wps, x_cnd, reduceIte, Nat.reduceAdd, Nat.reduceSub, Nat.reduceEqDiff, Nat.reduceLeDiff, Nat.lt_irrefl, Nat.reduceLT, Int.cast_ofNat_Int, wq_c0, wq_c1, true_and, and_true, and_self, true_implies, forall_const, ne_eq, Decidable.not_not, not_true_eq_false, not_false_eq_true, List.map_nil, List.map_cons, List.sum_nil, List.sum_cons, List.length_cons, List.length_nil, Nat.le_refl, Nat.zero_le, reduceCtorEq, true_or, or_true, false_or, or_false, false_and, and_false, false_implies, Nat.zero_add, Nat.add_zero, Int.reduceEq, Int.reduceNe, Int.reduceLT, Int.reduceLE, Int.reduceNeg, Int.reduceToNat, Nat.not_lt_zero, Int.reduceAdd, k1, l0, l1, l3, l4, l5]
      refine ⟨fun c0 => ?_, fun c0 => ?_⟩
      · have hj : j = 8 := by omega
        subst hj
        exact ⟨100 * (200 - q) - 30, by omega, q, 0, by omega, by omega, by omega, rfl, rfl, rfl, rfl, by omega, by omega⟩
      · (repeat refine ⟨by omega, ?_⟩)
        refine cP_barV C (p := q) (by omega) (by omega) ?_
        simp only [wq_g3, wq_gc, wq_g, wq_g1, wq_g2, eL_sum, iL_sum_0, iL_sum_18, iL_sum_46, iL_sum_75, iL_sum_78, iL_sum_109, iL_sum_115, iL_sum_117, iL_sum_142, iL_sum_143, iL_sum_152, vL_sum, wps, x_cnd, reduceIte, Nat.reduceAdd, Nat.reduceSub, Nat.reduceEqDiff, Nat.reduceLeDiff, Nat.lt_irrefl, Nat.reduceLT, Int.cast_ofNat_Int, wq_c0, wq_c1, true_and, and_true, and_self, true_implies, forall_const, ne_eq, Decidable.not_not, not_true_eq_false, not_false_eq_true, List.map_nil, List.map_cons, List.sum_nil, List.sum_cons, List.length_cons, List.length_nil, Nat.le_refl, Nat.zero_le, reduceCtorEq, true_or, or_true, false_or, or_false, false_and, and_false, false_implies, Nat.zero_add, Nat.add_zero, Int.reduceEq, Int.reduceNe, Int.reduceLT, Int.reduceLE, Int.reduceNeg, Int.reduceToNat, Nat.not_lt_zero, Int.reduceAdd, k1, l0, l1, l3, l4, l5]
        simp (disch := omega) only [w32_of]
        refine ⟨100 * (200 - q) - 10 - (j + 1), by omega, q, j + 1, by omega, by omega, by omega, rfl, rfl, ?_, rfl, by omega, by omega⟩
        congr 2
    · simp only [wq_g3, wq_gc, wq_g, wq_g1, wq_g2, eL_sum, iL_sum_0, iL_sum_18, iL_sum_46, iL_sum_75, iL_sum_78, iL_sum_109, iL_sum_115, iL_sum_117, iL_sum_142, iL_sum_143, iL_sum_152, vL_sum, wps, x_cnd, reduceIte, Nat.reduceAdd, Nat.reduceSub, Nat.reduceEqDiff, Nat.reduceLeDiff, Nat.lt_irrefl, Nat.reduceLT, Int.cast_ofNat_Int, wq_c0, wq_c1, true_and, and_true, and_self, true_implies, forall_const, ne_eq, Decidable.not_not, not_true_eq_false, not_false_eq_true, List.map_nil, List.map_cons, List.sum_nil, List.sum_cons, List.length_cons, List.length_nil, Nat.le_refl, Nat.zero_le, reduceCtorEq, true_or, or_true, false_or, or_false, false_and, and_false, false_implies, Nat.zero_add, Nat.add_zero, Int.reduceEq, Int.reduceNe, Int.reduceLT, Int.reduceLE, Int.reduceNeg, Int.reduceToNat, Nat.not_lt_zero, Int.reduceAdd, k1, l0, l1, l3, l4, l5]
      (repeat refine ⟨by omega, ?_⟩)
      refine cP_parts C ?_
      rw [hP]
      simp only [wq_g3, wq_gc, wq_g, wq_g1, wq_g2, eL_sum, iL_sum_0, iL_sum_18, iL_sum_46, iL_sum_75, iL_sum_78, iL_sum_109, iL_sum_115, iL_sum_117, iL_sum_142, iL_sum_143, iL_sum_152, vL_sum, wps, x_cnd, reduceIte, Nat.reduceAdd, Nat.reduceSub, Nat.reduceEqDiff, Nat.reduceLeDiff, Nat.lt_irrefl, Nat.reduceLT, Int.cast_ofNat_Int, wq_c0, wq_c1, true_and, and_true, and_self, true_implies, forall_const, ne_eq, Decidable.not_not, not_true_eq_false, not_false_eq_true, List.map_nil, List.map_cons, List.sum_nil, List.sum_cons, List.length_cons, List.length_nil, Nat.le_refl, Nat.zero_le, reduceCtorEq, true_or, or_true, false_or, or_false, false_and, and_false, false_implies, Nat.zero_add, Nat.add_zero, Int.reduceEq, Int.reduceNe, Int.reduceLT, Int.reduceLE, Int.reduceNeg, Int.reduceToNat, Nat.not_lt_zero, Int.reduceAdd, k1, l0, l1, l3, l4, l5]
      refine ⟨fun c0 => ?_, fun c0 => ?_⟩
      · have hj : j = 3 := by omega
        subst hj
        simp (disch := omega) only [w32_of]
        refine ⟨100 * (200 - (q + 1)), by omega, q + 1, rfl, by omega, ?_, rfl, by omega, by omega⟩
        congr 2
      · (repeat refine ⟨by omega, ?_⟩)
        refine cP_contentV C (p := q) (by omega) (by omega) ?_
        simp only [wq_g3, wq_gc, wq_g, wq_g1, wq_g2, eL_sum, iL_sum_0, iL_sum_18, iL_sum_46, iL_sum_75, iL_sum_78, iL_sum_109, iL_sum_115, iL_sum_117, iL_sum_142, iL_sum_143, iL_sum_152, vL_sum, wps, x_cnd, reduceIte, Nat.reduceAdd, Nat.reduceSub, Nat.reduceEqDiff, Nat.reduceLeDiff, Nat.lt_irrefl, Nat.reduceLT, Int.cast_ofNat_Int, wq_c0, wq_c1, true_and, and_true, and_self, true_implies, forall_const, ne_eq, Decidable.not_not, not_true_eq_false, not_false_eq_true, List.map_nil, List.map_cons, List.sum_nil, List.sum_cons, List.length_cons, List.length_nil, Nat.le_refl, Nat.zero_le, reduceCtorEq, true_or, or_true, false_or, or_false, false_and, and_false, false_implies, Nat.zero_add, Nat.add_zero, Int.reduceEq, Int.reduceNe, Int.reduceLT, Int.reduceLE, Int.reduceNeg, Int.reduceToNat, Nat.not_lt_zero, Int.reduceAdd, k1, l0, l1, l3, l4, l5]
        simp (disch := omega) only [w32_of]
        refine ⟨100 * (200 - q) - 30 - (j + 1), by omega, q, j + 1, by omega, by omega, by omega, rfl, rfl, ?_, rfl, by omega, by omega⟩
        congr 2
    · simp only [wq_g3, wq_gc, wq_g, wq_g1, wq_g2, eL_sum, iL_sum_0, iL_sum_18, iL_sum_46, iL_sum_75, iL_sum_78, iL_sum_109, iL_sum_115, iL_sum_117, iL_sum_142, iL_sum_143, iL_sum_152, vL_sum, wps, x_cnd, reduceIte, Nat.reduceAdd, Nat.reduceSub, Nat.reduceEqDiff, Nat.reduceLeDiff, Nat.lt_irrefl, Nat.reduceLT, Int.cast_ofNat_Int, wq_c0, wq_c1, true_and, and_true, and_self, true_implies, forall_const, ne_eq, Decidable.not_not, not_true_eq_false, not_false_eq_true, List.map_nil, List.map_cons, List.sum_nil, List.sum_cons, List.length_cons, List.length_nil, Nat.le_refl, Nat.zero_le, reduceCtorEq, true_or, or_true, false_or, or_false, false_and, and_false, false_implies, Nat.zero_add, Nat.add_zero, Int.reduceEq, Int.reduceNe, Int.reduceLT, Int.reduceLE, Int.reduceNeg, Int.reduceToNat, Nat.not_lt_zero, Int.reduceAdd, k1, l0, l1, l3]
      (repeat refine ⟨by omega, ?_⟩)
      refine cP_parts C ?_
      rw [hP]
      simp only [wq_g3, wq_gc, wq_g, wq_g1, wq_g2, eL_sum, iL_sum_0, iL_sum_18, iL_sum_46, iL_sum_75, iL_sum_78, iL_sum_109, iL_sum_115, iL_sum_117, iL_sum_142, iL_sum_143, iL_sum_152, vL_sum, wps, x_cnd, reduceIte, Nat.reduceAdd, Nat.reduceSub, Nat.reduceEqDiff, Nat.reduceLeDiff, Nat.lt_irrefl, Nat.reduceLT, Int.cast_ofNat_Int, wq_c0, wq_c1, true_and, and_true, and_self, true_implies, forall_const, ne_eq, Decidable.not_not, not_true_eq_false, not_false_eq_true, List.map_nil, List.map_cons, List.sum_nil, List.sum_cons, List.length_cons, List.length_nil, Nat.le_refl, Nat.zero_le, reduceCtorEq, true_or, or_true, false_or, or_false, false_and, and_false, false_implies, Nat.zero_add, Nat.add_zero, Int.reduceEq, Int.reduceNe, Int.reduceLT, Int.reduceLE, Int.reduceNeg, Int.reduceToNat, Nat.not_lt_zero, Int.reduceAdd, k1, l0, l1, l3]
      refine ⟨fun c0 => ?_, fun c0 => ?_⟩
      · have hj : j = 3 := by omega
        subst hj
        (repeat refine ⟨by omega, ?_⟩)
        exact k
      · (repeat refine ⟨by omega, ?_⟩)
        refine cP_isPrintedV C (part := (j : Int)) (by omega) ?_
        simp only [wq_g3, wq_gc, wq_g, wq_g1, wq_g2, eL_sum, iL_sum_0, iL_sum_18, iL_sum_46, iL_sum_75, iL_sum_78, iL_sum_109, iL_sum_115, iL_sum_117, iL_sum_142, iL_sum_143, iL_sum_152, vL_sum, wps, x_cnd, reduceIte, Nat.reduceAdd, Nat.reduceSub, Nat.reduceEqDiff, Nat.reduceLeDiff, Nat.lt_irrefl, Nat.reduceLT, Int.cast_ofNat_Int, wq_c0, wq_c1, true_and, and_true, and_self, true_implies, forall_const, ne_eq, Decidable.not_not, not_true_eq_false, not_false_eq_true, List.map_nil, List.map_cons, List.sum_nil, List.sum_cons, List.length_cons, List.length_nil, Nat.le_refl, Nat.zero_le, reduceCtorEq, true_or, or_true, false_or, or_false, false_and, and_false, false_implies, Nat.zero_add, Nat.add_zero, Int.reduceEq, Int.reduceNe, Int.reduceLT, Int.reduceLE, Int.reduceNeg, Int.reduceToNat, Nat.not_lt_zero, Int.reduceAdd, k1, l0, l1, l3, b01_0]
        refine ⟨fun c1 => ?_, fun c1 => ?_⟩
        · simp (disch := omega) only [w32_of]
          refine ⟨10 - (j + 1), by omega, j + 1, rfl, by omega, ?_, ?_, by omega, by omega⟩
          · congr 2
          · show _ = some (xJ (w64 (w64 (31 * smP (aS A) j) + b01 (sQ (aS A) j = 1))))
            rw [b01_f c1]
        · simp (disch := omega) only [w32_of]
          refine ⟨10 - (j + 1), by omega, j + 1, rfl, by omega, ?_, ?_, by omega, by omega⟩
          · congr 2
          · show _ = some (xJ (w64 (w64 (31 * smP (aS A) j) + b01 (sQ (aS A) j = 1))))
            rw [b01_t c1]
end LAW4
