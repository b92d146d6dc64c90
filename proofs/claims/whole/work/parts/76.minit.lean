/-! the model's constructor -/
def MD (h : xH) : Prop := hK h 41 = 8 ∧ hK h 42 = 20 ∧ hK h 43 = 20 ∧ hL h 42 = 2171 ∧ hL h 43 = 2171 ∧ hP h 41 1 = 42 ∧ hP h 41 2 = 43
theorem mds {h : xH} (F : MD h) : hK h 41 = 8 ∧ hK h 42 = 20 ∧ hK h 43 = 20 ∧ hL h 42 = 2171 ∧ hL h 43 = 2171 ∧ hP h 41 1 = 42 ∧ hP h 41 2 = 43 := F
def mdH1 (h : xH) : xH := x_pw (x_new (x_pw (x_new (x_pw (x_new (x_pw (x_new (x_pw (x_new (h) 20 2171) 41 1 42) 20 2171) 41 2 43) 20 21710) 41 3 44) 22 6) 41 4 45) 20 800) 41 7 46
def mdH2 (h : xH) : xH := x_pw (x_new (x_pw (x_new (x_pw (x_new (x_pw (x_new (x_pw (x_new (mdH1 h) 20 150) 41 20 47) 20 150) 41 21 48) 20 150) 41 22 49) 20 41) 41 23 50) 20 150) 41 24 51
def mdH (h : xH) : xH := x_pw (x_new (x_pw (x_new (x_pw (x_new (x_pw (x_new (x_pw (x_new (mdH2 h) 20 150) 41 25 52) 20 151) 41 27 53) 20 300) 41 29 54) 20 41) 41 31 55) 20 4000) 41 32 56
def mdZ (M : xM) (h : xH) : xM := x_z (x_z (x_z (x_z (x_z (x_z (x_z (x_z (x_z (x_z (x_w (x_z (x_z (x_z (x_z (x_z (M) (h)) (x_pw (x_new (h) 20 2171) 41 1 42)) (x_pw (x_new (x_pw (x_new (h) 20 2171) 41 1 42) 20 2171) 41 2 43)) (x_pw (x_new (x_pw (x_new (x_pw (x_new (h) 20 2171) 41 1 42) 20 2171) 41 2 43) 20 21710) 41 3 44)) (x_pw (x_new (x_pw (x_new (x_pw (x_new (x_pw (x_new (h) 20 2171) 41 1 42) 20 2171) 41 2 43) 20 21710) 41 3 44) 22 6) 41 4 45)) 41 16 (-1)) (x_pw (x_new (x_pw (x_new (x_pw (x_new (x_pw (x_new (x_pw (x_new (h) 20 2171) 41 1 42) 20 2171) 41 2 43) 20 21710) 41 3 44) 22 6) 41 4 45) 20 800) 41 7 46)) (x_pw (x_new (x_pw (x_new (x_pw (x_new (x_pw (x_new (x_pw (x_new (x_pw (x_new (h) 20 2171) 41 1 42) 20 2171) 41 2 43) 20 21710) 41 3 44) 22 6) 41 4 45) 20 800) 41 7 46) 20 150) 41 20 47)) (x_pw (x_new (x_pw (x_new (x_pw (x_new (x_pw (x_new (x_pw (x_new (x_pw (x_new (x_pw (x_new (h) 20 2171) 41 1 42) 20 2171) 41 2 43) 20 21710) 41 3 44) 22 6) 41 4 45) 20 800) 41 7 46) 20 150) 41 20 47) 20 150) 41 21 48)) (x_pw (x_new (x_pw (x_new (x_pw (x_new (x_pw (x_new (x_pw (x_new (x_pw (x_new (x_pw (x_new (x_pw (x_new (h) 20 2171) 41 1 42) 20 2171) 41 2 43) 20 21710) 41 3 44) 22 6) 41 4 45) 20 800) 41 7 46) 20 150) 41 20 47) 20 150) 41 21 48) 20 150) 41 22 49)) (x_pw (x_new (x_pw (x_new (x_pw (x_new (x_pw (x_new (x_pw (x_new (x_pw (x_new (x_pw (x_new (x_pw (x_new (x_pw (x_new (h) 20 2171) 41 1 42) 20 2171) 41 2 43) 20 21710) 41 3 44) 22 6) 41 4 45) 20 800) 41 7 46) 20 150) 41 20 47) 20 150) 41 21 48) 20 150) 41 22 49) 20 41) 41 23 50)) (x_pw (x_new (x_pw (x_new (x_pw (x_new (x_pw (x_new (x_pw (x_new (x_pw (x_new (x_pw (x_new (x_pw (x_new (x_pw (x_new (x_pw (x_new (h) 20 2171) 41 1 42) 20 2171) 41 2 43) 20 21710) 41 3 44) 22 6) 41 4 45) 20 800) 41 7 46) 20 150) 41 20 47) 20 150) 41 21 48) 20 150) 41 22 49) 20 41) 41 23 50) 20 150) 41 24 51)) (x_pw (x_new (x_pw (x_new (x_pw (x_new (x_pw (x_new (x_pw (x_new (x_pw (x_new (x_pw (x_new (x_pw (x_new (x_pw (x_new (x_pw (x_new (x_pw (x_new (h) 20 2171) 41 1 42) 20 2171) 41 2 43) 20 21710) 41 3 44) 22 6) 41 4 45) 20 800) 41 7 46) 20 150) 41 20 47) 20 150) 41 21 48) 20 150) 41 22 49) 20 41) 41 23 50) 20 150) 41 24 51) 20 150) 41 25 52)) (x_pw (x_new (x_pw (x_new (x_pw (x_new (x_pw (x_new (x_pw (x_new (x_pw (x_new (x_pw (x_new (x_pw (x_new (x_pw (x_new (x_pw (x_new (x_pw (x_new (x_pw (x_new (h) 20 2171) 41 1 42) 20 2171) 41 2 43) 20 21710) 41 3 44) 22 6) 41 4 45) 20 800) 41 7 46) 20 150) 41 20 47) 20 150) 41 21 48) 20 150) 41 22 49) 20 41) 41 23 50) 20 150) 41 24 51) 20 150) 41 25 52) 20 151) 41 27 53)) (x_pw (x_new (x_pw (x_new (x_pw (x_new (x_pw (x_new (x_pw (x_new (x_pw (x_new (x_pw (x_new (x_pw (x_new (x_pw (x_new (x_pw (x_new (x_pw (x_new (x_pw (x_new (x_pw (x_new (h) 20 2171) 41 1 42) 20 2171) 41 2 43) 20 21710) 41 3 44) 22 6) 41 4 45) 20 800) 41 7 46) 20 150) 41 20 47) 20 150) 41 21 48) 20 150) 41 22 49) 20 41) 41 23 50) 20 150) 41 24 51) 20 150) 41 25 52) 20 151) 41 27 53) 20 300) 41 29 54)) (x_pw (x_new (x_pw (x_new (x_pw (x_new (x_pw (x_new (x_pw (x_new (x_pw (x_new (x_pw (x_new (x_pw (x_new (x_pw (x_new (x_pw (x_new (x_pw (x_new (x_pw (x_new (x_pw (x_new (x_pw (x_new (h) 20 2171) 41 1 42) 20 2171) 41 2 43) 20 21710) 41 3 44) 22 6) 41 4 45) 20 800) 41 7 46) 20 150) 41 20 47) 20 150) 41 21 48) 20 150) 41 22 49) 20 41) 41 23 50) 20 150) 41 24 51) 20 150) 41 25 52) 20 151) 41 27 53) 20 300) 41 29 54) 20 41) 41 31 55)
def mdK (a : Nat) : Nat := if a = 45 then 22 else 20
def mdL (a : Nat) : Int := [2171, 2171, 21710, 6, 800, 150, 150, 150, 41, 150, 150, 151, 300, 41, 4000].getD (a - 42) 0
section MINIT
variable {B : Int → Int} {M M' : xM} {h h' : xH} {Φ : xO → xM → xH → Prop} {A : xAb}
set_option maxHeartbeats 1000000
theorem cM_clears0 (F : MD h) (k : ∀ M', (∀ j : Int, 0 ≤ j → j < 2171 → M' 43 j = if 324 ≤ j ∧ j ≤ 364 then -1 else 0) → (∀ a j, a ≠ 43 → M' a j = M a j) → Φ (.inl none) M' h) : x_Cal zM_clears [xA 41] M h Φ := by
  refine x_metI kM_clears (Nat.le_of_ble_eq_true rfl) (fun t m ls st M' h' c n2 => st = [] ∧ h' = h ∧ c = 0 ∧ n2 = 0 ∧ ls 0 = some (xA 41) ∧ (∀ a j, a ≠ 43 → M' a j = M a j) ∧ ∃ p : Nat, ls 1 = some (xI p) ∧ ((t = 2 ∧ p ≤ 2171 ∧ m = 5000 - p ∧ ∀ j : Int, 0 ≤ j → j < p → M' 43 j = 0) ∨ (t = 24 ∧ p ≤ 41 ∧ m = 41 - p ∧ ∀ j : Int, 0 ≤ j → j < 2171 → M' 43 j = if 324 ≤ j ∧ j < 324 + p then -1 else 0))) 20 ?_ ?_
  · simp only [wq_g3, wq_gc, wq_g, wq_g1, wq_g2, eM_clears, iM_clears_0, iM_clears_2, iM_clears_22, iM_clears_24, iM_clears_47, vM_clears, wps, x_cnd, reduceIte, Nat.reduceAdd, Nat.reduceSub, Nat.reduceEqDiff, Nat.reduceLeDiff, Nat.lt_irrefl, Nat.reduceLT, Int.cast_ofNat_Int, wq_c0, wq_c1, true_and, and_true, and_self, true_implies, forall_const, ne_eq, Decidable.not_not, not_true_eq_false, not_false_eq_true, List.map_nil, List.map_cons, List.sum_nil, List.sum_cons, List.length_cons, List.length_nil, Nat.le_refl, Nat.zero_le, reduceCtorEq, true_or, or_true, false_or, or_false, false_and, and_false, false_implies, Nat.zero_add, Nat.add_zero, Int.reduceEq, Int.reduceNe, Int.reduceLT, Int.reduceLE, Int.reduceNeg, Int.reduceToNat, Nat.not_lt_zero, Int.reduceAdd, mds F]
    exact ⟨5000 - 0, fun _ _ => trivial, 0, rfl, by omega, rfl, fun j h1 h2 => by omega⟩
  · rintro t m ls st M1 h' c n2 ⟨rfl, rfl, rfl, rfl, l0, f, p, l1, ⟨rfl, y1, y2, y3⟩ | ⟨rfl, y1, y2, y3⟩⟩
    · simp only [wq_g3, wq_gc, wq_g, wq_g1, wq_g2, eM_clears, iM_clears_0, iM_clears_2, iM_clears_22, iM_clears_24, iM_clears_47, vM_clears, wps, x_cnd, reduceIte, Nat.reduceAdd, Nat.reduceSub, Nat.reduceEqDiff, Nat.reduceLeDiff, Nat.lt_irrefl, Nat.reduceLT, Int.cast_ofNat_Int, wq_c0, wq_c1, true_and, and_true, and_self, true_implies, forall_const, ne_eq, Decidable.not_not, not_true_eq_false, not_false_eq_true, List.map_nil, List.map_cons, List.sum_nil, List.sum_cons, List.length_cons, List.length_nil, Nat.le_refl, Nat.zero_le, reduceCtorEq, true_or, or_true, false_or, or_false, false_and, and_false, false_implies, Nat.zero_add, Nat.add_zero, Int.reduceEq, Int.reduceNe, Int.reduceLT, Int.reduceLE, Int.reduceNeg, Int.reduceToNat, Nat.not_lt_zero, Int.reduceAdd, mds F, l0, l1]
      simp (disch := omega) only [w32_of]
      refine ⟨fun c0 => ⟨41 - 0, by omega, f, 0, rfl, by omega, rfl, fun j h1 h2 => ?_⟩, fun c0 => ⟨by omega, 5000 - (p + 1), by omega, fun a j ha => (w_ne ha).trans (f a j ha), p + 1, congrArg (fun z => some (xI z)) (by omega), by omega, rfl, fun j h1 h2 => ?_⟩⟩
      · rw [if_neg (by omega)]
        exact y3 j h1 (by omega)
      · by_cases hj : j = p
        · rw [hj, w_eq]
        · rw [w_nj hj]
          exact y3 j h1 (by omega)
    · simp only [wq_g3, wq_gc, wq_g, wq_g1, wq_g2, eM_clears, iM_clears_0, iM_clears_2, iM_clears_22, iM_clears_24, iM_clears_47, vM_clears, wps, x_cnd, reduceIte, Nat.reduceAdd, Nat.reduceSub, Nat.reduceEqDiff, Nat.reduceLeDiff, Nat.lt_irrefl, Nat.reduceLT, Int.cast_ofNat_Int, wq_c0, wq_c1, true_and, and_true, and_self, true_implies, forall_const, ne_eq, Decidable.not_not, not_true_eq_false, not_false_eq_true, List.map_nil, List.map_cons, List.sum_nil, List.sum_cons, List.length_cons, List.length_nil, Nat.le_refl, Nat.zero_le, reduceCtorEq, true_or, or_true, false_or, or_false, false_and, and_false, false_implies, Nat.zero_add, Nat.add_zero, Int.reduceEq, Int.reduceNe, Int.reduceLT, Int.reduceLE, Int.reduceNeg, Int.reduceToNat, Nat.not_lt_zero, Int.reduceAdd, mds F, l0, l1]
      simp (disch := omega) only [w32_of]
      refine ⟨fun c0 => k M1 (fun j h1 h2 => ?_) f, fun c0 => ⟨by omega, 41 - (p + 1), by omega, fun a j ha => (w_ne ha).trans (f a j ha), p + 1, congrArg (fun z => some (xI z)) (by omega), by omega, rfl, fun j h1 h2 => ?_⟩⟩
      · rw [y3 j h1 h2]
        by_cases hj : 324 ≤ j ∧ j ≤ 364
        · rw [if_pos (by omega), if_pos hj]
        · rw [if_neg (by omega), if_neg hj]
      · by_cases hj : j = 324 + p
        · rw [hj, w_eq, if_pos (by omega)]
        · rw [w_nj hj, y3 j h1 h2]
          by_cases hj2 : 324 ≤ j ∧ j < 324 + p
          · rw [if_pos hj2, if_pos (by omega)]
          · rw [if_neg hj2, if_neg (by omega)]
theorem cM_takesDraft0 (F : MD h) (k : ∀ M', (∀ j : Int, 0 ≤ j → j < 2171 → M' 42 j = M 43 j) → M' 41 6 = M 43 0 → M' 41 5 = 0 → (∀ a j, a ≠ 42 → ¬ (a = 41 ∧ (j = 5 ∨ j = 6)) → M' a j = M a j) → Φ (.inl none) M' h) : x_Cal zM_takesDraft [xA 41] M h Φ := by
  refine x_metI kM_takesDraft (Nat.le_of_ble_eq_true rfl) (fun t m ls st M' h' c n2 => st = [] ∧ h' = h ∧ c = 0 ∧ n2 = 0 ∧ ls 0 = some (xA 41) ∧ (∀ a j, a ≠ 42 → M' a j = M a j) ∧ ∃ p : Nat, ls 1 = some (xI p) ∧ t = 2 ∧ p ≤ 2171 ∧ m = 2171 - p ∧ ∀ j : Int, 0 ≤ j → j < p → M' 42 j = M 43 j) 20 ?_ ?_
  · simp only [wq_g3, wq_gc, wq_g, wq_g1, wq_g2, eM_takesDraft, iM_takesDraft_0, iM_takesDraft_2, iM_takesDraft_27, vM_takesDraft, wps, x_cnd, reduceIte, Nat.reduceAdd, Nat.reduceSub, Nat.reduceEqDiff, Nat.reduceLeDiff, Nat.lt_irrefl, Nat.reduceLT, Int.cast_ofNat_Int, wq_c0, wq_c1, true_and, and_true, and_self, true_implies, forall_const, ne_eq, Decidable.not_not, not_true_eq_false, not_false_eq_true, List.map_nil, List.map_cons, List.sum_nil, List.sum_cons, List.length_cons, List.length_nil, Nat.le_refl, Nat.zero_le, reduceCtorEq, true_or, or_true, false_or, or_false, false_and, and_false, false_implies, Nat.zero_add, Nat.add_zero, Int.reduceEq, Int.reduceNe, Int.reduceLT, Int.reduceLE, Int.reduceNeg, Int.reduceToNat, Nat.not_lt_zero, Int.reduceAdd, mds F]
    exact ⟨2171 - 0, fun _ _ => trivial, 0, rfl, by omega, rfl, fun j h1 h2 => by omega⟩
  · rintro t m ls st M1 h' c n2 ⟨rfl, rfl, rfl, rfl, l0, f, p, l1, rfl, y1, y2, y3⟩
    simp only [wq_g3, wq_gc, wq_g, wq_g1, wq_g2, eM_takesDraft, iM_takesDraft_0, iM_takesDraft_2, iM_takesDraft_27, vM_takesDraft, wps, x_cnd, reduceIte, Nat.reduceAdd, Nat.reduceSub, Nat.reduceEqDiff, Nat.reduceLeDiff, Nat.lt_irrefl, Nat.reduceLT, Int.cast_ofNat_Int, wq_c0, wq_c1, true_and, and_true, and_self, true_implies, forall_const, ne_eq, Decidable.not_not, not_true_eq_false, not_false_eq_true, List.map_nil, List.map_cons, List.sum_nil, List.sum_cons, List.length_cons, List.length_nil, Nat.le_refl, Nat.zero_le, reduceCtorEq, true_or, or_true, false_or, or_false, false_and, and_false, false_implies, Nat.zero_add, Nat.add_zero, Int.reduceEq, Int.reduceNe, Int.reduceLT, Int.reduceLE, Int.reduceNeg, Int.reduceToNat, Nat.not_lt_zero, Int.reduceAdd, mds F, l0, l1]
    simp (disch := omega) only [w32_of]
    refine ⟨fun c0 => ?_, fun c0 => ⟨by omega, by omega, 2171 - (p + 1), by omega, fun a j ha => (w_ne ha).trans (f a j ha), p + 1, congrArg (fun z => some (xI z)) (by omega), by omega, rfl, fun j h1 h2 => ?_⟩⟩
    · refine k _ (fun j h1 h2 => ?_) ?_ w_eq (fun a j h1 h2 => ?_)
      · rw [w_ne (by decide), w_ne (by decide)]
        exact y3 j h1 (by omega)
      · rw [w_nj (by decide), w_eq]
        exact y3 0 (by omega) (by omega)
      · rw [x_w, if_neg (by omega), x_w, if_neg (by omega)]
        exact f a j h1
    · by_cases hj : j = p
      · rw [hj, w_eq]
        exact f 43 p (by decide)
      · rw [w_nj hj]
        exact y3 j h1 (by omega)

theorem mdH1_n (e : hn h = 42) : hn (mdH1 h) = 47 := by
  simp only [mdH1, hn_pw, hn_new, e, Nat.reduceAdd]
theorem mdH2_n (e : hn h = 42) : hn (mdH2 h) = 52 := by
  simp only [mdH2, hn_pw, hn_new, mdH1_n e, Nat.reduceAdd]
theorem mdH_n (e : hn h = 42) : hn (mdH h) = 57 := by
  simp only [mdH, hn_pw, hn_new, mdH2_n e, Nat.reduceAdd]
theorem mdH1_K (e : hn h = 42) (a : Nat) : hK (mdH1 h) a = if 42 ≤ a ∧ a ≤ 46 then mdK a else hK h a := by
  simp only [mdH1, hK_pw, hK_new, hn_pw, hn_new, e, Nat.reduceAdd, mdK]
  (repeat' split) <;> first | rfl | (exfalso; omega)
theorem mdH2_K (e : hn h = 42) (a : Nat) : hK (mdH2 h) a = if 42 ≤ a ∧ a ≤ 51 then mdK a else hK h a := by
  simp only [mdH2, hK_pw, hK_new, hn_pw, hn_new, mdH1_n e, mdH1_K e, Nat.reduceAdd, mdK]
  (repeat' split) <;> first | rfl | (exfalso; omega)
theorem mdH_K (e : hn h = 42) (a : Nat) : hK (mdH h) a = if 42 ≤ a ∧ a ≤ 56 then mdK a else hK h a := by
  simp only [mdH, hK_pw, hK_new, hn_pw, hn_new, mdH2_n e, mdH2_K e, Nat.reduceAdd, mdK]
  (repeat' split) <;> first | rfl | (exfalso; omega)
theorem mdH1_L (e : hn h = 42) (a : Nat) : hL (mdH1 h) a = if 42 ≤ a ∧ a ≤ 46 then mdL a else hL h a := by
  simp only [mdH1, hL_pw, hL_new, hn_pw, hn_new, e, Nat.reduceAdd]
  by_cases h1 : 42 ≤ a ∧ a ≤ 46
  · have : a = 42 ∨ a = 43 ∨ a = 44 ∨ a = 45 ∨ a = 46 := by omega
    rcases this with rfl | rfl | rfl | rfl | rfl <;> rfl
  · rw [if_neg h1, if_neg (by omega), if_neg (by omega), if_neg (by omega), if_neg (by omega), if_neg (by omega)]
theorem mdH2_L (e : hn h = 42) (a : Nat) : hL (mdH2 h) a = if 42 ≤ a ∧ a ≤ 51 then mdL a else hL h a := by
  simp only [mdH2, hL_pw, hL_new, hn_pw, hn_new, mdH1_n e, mdH1_L e, Nat.reduceAdd]
  by_cases h1 : 47 ≤ a ∧ a ≤ 51
  · have : a = 47 ∨ a = 48 ∨ a = 49 ∨ a = 50 ∨ a = 51 := by omega
    rcases this with rfl | rfl | rfl | rfl | rfl <;> rfl
  · rw [if_neg (by omega), if_neg (by omega), if_neg (by omega), if_neg (by omega), if_neg (by omega)]
    by_cases h2 : 42 ≤ a ∧ a ≤ 46
    · rw [if_pos h2, if_pos (by omega)]
    · rw [if_neg h2, if_neg (by omega)]
theorem mdH_L (e : hn h = 42) (a : Nat) : hL (mdH h) a = if 42 ≤ a ∧ a ≤ 56 then mdL a else hL h a := by
  simp only [mdH, hL_pw, hL_new, hn_pw, hn_new, mdH2_n e, mdH2_L e, Nat.reduceAdd]
  by_cases h1 : 52 ≤ a ∧ a ≤ 56
  · have : a = 52 ∨ a = 53 ∨ a = 54 ∨ a = 55 ∨ a = 56 := by omega
    rcases this with rfl | rfl | rfl | rfl | rfl <;> rfl
  · rw [if_neg (by omega), if_neg (by omega), if_neg (by omega), if_neg (by omega), if_neg (by omega)]
    by_cases h2 : 42 ≤ a ∧ a ≤ 51
    · rw [if_pos h2, if_pos (by omega)]
    · rw [if_neg h2, if_neg (by omega)]
theorem mdH1_P41 (e : hn h = 42) (j : Int) : hP (mdH1 h) 41 j = if j = 7 then 46 else if j = 4 then 45 else if j = 3 then 44 else if j = 2 then 43 else if j = 1 then 42 else hP (h) 41 j := by
  simp only [mdH1, hP_pw, hP_new, hn_pw, hn_new, e, Nat.reduceAdd, true_and]
  (repeat' split) <;> first | rfl | (exfalso; omega)
theorem mdH1_P0 (e : hn h = 42) {a : Nat} (ha : a < 41) (j : Int) : hP (mdH1 h) a j = hP h a j := by
  have q : a ≠ 41 := by omega
  simp only [mdH1, hP_pw, hP_new, hn_pw, hn_new, e, q, Nat.reduceAdd, false_and, if_false]
  rw [if_neg (show ¬ a = 46 by omega), if_neg (show ¬ a = 45 by omega), if_neg (show ¬ a = 44 by omega), if_neg (show ¬ a = 43 by omega), if_neg (show ¬ a = 42 by omega)]
theorem mdH2_P41 (e : hn h = 42) (j : Int) : hP (mdH2 h) 41 j = if j = 24 then 51 else if j = 23 then 50 else if j = 22 then 49 else if j = 21 then 48 else if j = 20 then 47 else hP (mdH1 h) 41 j := by
  simp only [mdH2, hP_pw, hP_new, hn_pw, hn_new, mdH1_n e, Nat.reduceAdd, true_and]
  (repeat' split) <;> first | rfl | (exfalso; omega)
theorem mdH2_P0 (e : hn h = 42) {a : Nat} (ha : a < 41) (j : Int) : hP (mdH2 h) a j = hP h a j := by
  have q : a ≠ 41 := by omega
  simp only [mdH2, hP_pw, hP_new, hn_pw, hn_new, mdH1_n e, mdH1_P0 e ha, q, Nat.reduceAdd, false_and, if_false]
  rw [if_neg (show ¬ a = 51 by omega), if_neg (show ¬ a = 50 by omega), if_neg (show ¬ a = 49 by omega), if_neg (show ¬ a = 48 by omega), if_neg (show ¬ a = 47 by omega)]
theorem mdH_P41 (e : hn h = 42) (j : Int) : hP (mdH h) 41 j = if j = 32 then 56 else if j = 31 then 55 else if j = 29 then 54 else if j = 27 then 53 else if j = 25 then 52 else hP (mdH2 h) 41 j := by
  simp only [mdH, hP_pw, hP_new, hn_pw, hn_new, mdH2_n e, Nat.reduceAdd, true_and]
  (repeat' split) <;> first | rfl | (exfalso; omega)
theorem mdH_P0 (e : hn h = 42) {a : Nat} (ha : a < 41) (j : Int) : hP (mdH h) a j = hP h a j := by
  have q : a ≠ 41 := by omega
  simp only [mdH, hP_pw, hP_new, hn_pw, hn_new, mdH2_n e, mdH2_P0 e ha, q, Nat.reduceAdd, false_and, if_false]
  rw [if_neg (show ¬ a = 56 by omega), if_neg (show ¬ a = 55 by omega), if_neg (show ¬ a = 54 by omega), if_neg (show ¬ a = 53 by omega), if_neg (show ¬ a = 52 by omega)]
theorem mdZ_at (e : hn h = 42) (a : Nat) (j : Int) : mdZ M h a j = if 42 ≤ a ∧ a ≤ 56 then 0 else if a = 41 ∧ j = 16 then -1 else M a j := by
  simp only [mdZ, x_z_at, x_w, hn_pw, hn_new, e, Nat.reduceAdd]
  by_cases h2 : 42 ≤ a ∧ a ≤ 56
  · rw [if_pos h2]
    have : a = 42 ∨ a = 43 ∨ a = 44 ∨ a = 45 ∨ a = 46 ∨ a = 47 ∨ a = 48 ∨ a = 49 ∨ a = 50 ∨ a = 51 ∨ a = 52 ∨ a = 53 ∨ a = 54 ∨ a = 55 ∨ a = 56 := by omega
    rcases this with rfl | rfl | rfl | rfl | rfl | rfl | rfl | rfl | rfl | rfl | rfl | rfl | rfl | rfl | rfl <;> simp
  · rw [if_neg h2, if_neg (show ¬ a = 56 by omega), if_neg (show ¬ a = 55 by omega), if_neg (show ¬ a = 54 by omega), if_neg (show ¬ a = 53 by omega), if_neg (show ¬ a = 52 by omega), if_neg (show ¬ a = 51 by omega), if_neg (show ¬ a = 50 by omega), if_neg (show ¬ a = 49 by omega), if_neg (show ¬ a = 48 by omega), if_neg (show ¬ a = 47 by omega)]
    by_cases h3 : a = 41 ∧ j = 16
    · rw [if_pos h3, if_pos h3]
    · rw [if_neg h3, if_neg h3, if_neg (show ¬ a = 46 by omega), if_neg (show ¬ a = 45 by omega), if_neg (show ¬ a = 44 by omega), if_neg (show ¬ a = 43 by omega), if_neg (show ¬ a = 42 by omega)]
theorem mdH_MD (hr : hn h = 42) (hk : hK h 41 = 8) : MD (mdH h) := by
  unfold MD
  rw [mdH_K hr, mdH_K hr, mdH_K hr, mdH_L hr, mdH_L hr, mdH_P41 hr, mdH_P41 hr, mdH2_P41 hr, mdH2_P41 hr, mdH1_P41 hr, mdH1_P41 hr]
  exact ⟨hk, rfl, rfl, rfl, rfl, rfl, rfl⟩
/-- the model's objects as they are made -/
def MI (M : xM) (h : xH) : Prop := hK h 41 = 8 ∧ (∀ a, 42 ≤ a → a ≤ 56 → hK h a = mdK a ∧ hL h a = mdL a) ∧ (hP h 41 1 = 42 ∧ hP h 41 2 = 43 ∧ hP h 41 3 = 44 ∧ hP h 41 4 = 45 ∧ hP h 41 7 = 46 ∧ hP h 41 20 = 47 ∧ hP h 41 21 = 48 ∧ hP h 41 22 = 49 ∧ hP h 41 23 = 50 ∧ hP h 41 24 = 51 ∧ hP h 41 25 = 52 ∧ hP h 41 27 = 53 ∧ hP h 41 29 = 54 ∧ hP h 41 31 = 55 ∧ hP h 41 32 = 56) ∧
  SG S0 (M 42) ∧ (M 41 5 = 0 ∧ M 41 6 = 0 ∧ M 41 8 = 0 ∧ M 41 15 = 0 ∧ M 41 16 = -1 ∧ M 41 33 = 0)
theorem cM_init (hr : hn h = 42) (hk : hK h 41 = 8) (h0 : ∀ j, M 41 j = 0) (k : ∀ M', (∀ a j, a < 41 → M' a j = M a j) → MI M' (mdH h) → Φ (.inl none) M' (mdH h)) : x_Cal zM_init [xA 41] M h Φ := by
  refine x_met0 kM_init (Nat.le_of_ble_eq_true rfl) ?_
  simp only [wq_g3, wq_gc, wq_g, wq_g1, wq_g2, eM_init, iM_init_0, vM_init, wps, x_cnd, reduceIte, Nat.reduceAdd, Nat.reduceSub, Nat.reduceEqDiff, Nat.reduceLeDiff, Nat.lt_irrefl, Nat.reduceLT, Int.cast_ofNat_Int, wq_c0, wq_c1, true_and, and_true, and_self, true_implies, forall_const, ne_eq, Decidable.not_not, not_true_eq_false, not_false_eq_true, List.map_nil, List.map_cons, List.sum_nil, List.sum_cons, List.length_cons, List.length_nil, Nat.le_refl, Nat.zero_le, reduceCtorEq, true_or, or_true, false_or, or_false, false_and, and_false, false_implies, Nat.zero_add, Nat.add_zero, Int.reduceEq, Int.reduceNe, Int.reduceLT, Int.reduceLE, Int.reduceNeg, Int.reduceToNat, Nat.not_lt_zero, Int.reduceAdd, hk, hn_new, hn_pw, hr, hK_new, hK_pw, Nat.reduceAdd]
  have D := mdH_MD hr hk
  refine cM_clears0 (M := mdZ M h) (h := mdH h) D (fun M1 c1 f1 => ?_)
  simp only [wq_g3, wq_gc, wq_g, wq_g1, wq_g2, eM_init, iM_init_0, vM_init, wps, x_cnd, reduceIte, Nat.reduceAdd, Nat.reduceSub, Nat.reduceEqDiff, Nat.reduceLeDiff, Nat.lt_irrefl, Nat.reduceLT, Int.cast_ofNat_Int, wq_c0, wq_c1, true_and, and_true, and_self, true_implies, forall_const, ne_eq, Decidable.not_not, not_true_eq_false, not_false_eq_true, List.map_nil, List.map_cons, List.sum_nil, List.sum_cons, List.length_cons, List.length_nil, Nat.le_refl, Nat.zero_le, reduceCtorEq, true_or, or_true, false_or, or_false, false_and, and_false, false_implies, Nat.zero_add, Nat.add_zero, Int.reduceEq, Int.reduceNe, Int.reduceLT, Int.reduceLE, Int.reduceNeg, Int.reduceToNat, Nat.not_lt_zero, Int.reduceAdd]
  refine ⟨D.1, cM_takesDraft0 D (fun M2 d1 d2 d3 d4 => ?_)⟩
  simp only [wq_g3, wq_gc, wq_g, wq_g1, wq_g2, eM_init, iM_init_0, vM_init, wps, x_cnd, reduceIte, Nat.reduceAdd, Nat.reduceSub, Nat.reduceEqDiff, Nat.reduceLeDiff, Nat.lt_irrefl, Nat.reduceLT, Int.cast_ofNat_Int, wq_c0, wq_c1, true_and, and_true, and_self, true_implies, forall_const, ne_eq, Decidable.not_not, not_true_eq_false, not_false_eq_true, List.map_nil, List.map_cons, List.sum_nil, List.sum_cons, List.length_cons, List.length_nil, Nat.le_refl, Nat.zero_le, reduceCtorEq, true_or, or_true, false_or, or_false, false_and, and_false, false_implies, Nat.zero_add, Nat.add_zero, Int.reduceEq, Int.reduceNe, Int.reduceLT, Int.reduceLE, Int.reduceNeg, Int.reduceToNat, Nat.not_lt_zero, Int.reduceAdd]
  have G : SG S0 (M2 42) := SG_0 (fun j h1 h2 => (d1 j h1 h2).trans (c1 j h1 h2))
  have tot : ∀ a j, a ≠ 42 → a ≠ 43 → ¬ (a = 41 ∧ (j = 5 ∨ j = 6)) → M2 a j = mdZ M h a j := fun a j h1 h2 h3 => (d4 a j h1 h3).trans (f1 a j h2)
  have z41 : ∀ j : Int, j ≠ 5 → j ≠ 6 → j ≠ 16 → M2 41 j = 0 := fun j h1 h2 h3 => by
    rw [tot 41 j (by decide) (by decide) (by omega), mdZ_at hr, if_neg (by decide), if_neg (by omega)]
    exact h0 j
  refine k M2 (fun a j ha => ?_) ⟨?_, fun a h1 h2 => ?_, ?_, G, d3, ?_, z41 8 (by decide) (by decide) (by decide), z41 15 (by decide) (by decide) (by decide), ?_, z41 33 (by decide) (by decide) (by decide)⟩
  · rw [tot a j (by omega) (by omega) (by omega), mdZ_at hr, if_neg (by omega), if_neg (by omega)]
  · rw [mdH_K hr, if_neg (by decide)]
    exact hk
  · rw [mdH_K hr, mdH_L hr, if_pos (by omega), if_pos (by omega)]
    exact ⟨rfl, rfl⟩
  · simp only [mdH_P41 hr, mdH2_P41 hr, mdH1_P41 hr]
    exact ⟨rfl, rfl, rfl, rfl, rfl, rfl, rfl, rfl, rfl, rfl, rfl, rfl, rfl, rfl, rfl⟩
  · rw [d2, c1 0 (by decide) (by decide)]
    rfl
  · rw [tot 41 16 (by decide) (by decide) (by decide), mdZ_at hr, if_neg (by decide), if_pos (by decide)]
end MINIT
