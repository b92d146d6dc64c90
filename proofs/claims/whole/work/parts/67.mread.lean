/-! the model reads: tokens -/
/-- the model at the token behind x -/
def RT (B : Int → Int) (n x : Nat) (l : Bool) (M : xM) : Prop := (M 41 10 = n ∧ n ≤ 800 ∧ ∀ i : Nat, i < n → M 46 i = B i ∧ 0 ≤ B i ∧ B i < 256) ∧ (x ≤ n ∧ ∃ y : Nat, M 41 9 = y ∧ x ≤ y ∧ y ≤ ts B n x) ∧ M 41 11 = if l = true then (x : Int) else -1
def bAt (B : Int → Int) (n p : Nat) : Int := if p < n then B p else -1
/-- after a reading that went well only these have changed -/
def FR (M M' : xM) : Prop := ∀ a j, ¬ (a = 41 ∧ (j = 9 ∨ j = 11 ∨ j = 12 ∨ j = 13 ∨ j = 14 ∨ j = 17)) → M' a j = M a j
section MREAD
variable {B : Int → Int} {n x : Nat} {l : Bool} {M M' : xM} {h : xH} {Φ : xO → xM → xH → Prop}
set_option maxHeartbeats 1000000
theorem RT.n8 (R : RT B n x l M) : n ≤ 800 := R.1.2.1
theorem RT.le (R : RT B n x l M) : x ≤ n := R.2.1.1
theorem RT.t (R : RT B n x l M) : x ≤ ts B n x ∧ ts B n x ≤ n ∧ ts B n x ≤ ten B n x ∧ ten B n x ≤ n := by
  have h1 := ts_rng (B := B) R.le
  have h2 := ten_rng (B := B) R.le
  omega
theorem FR.r : FR M M := fun _ _ _ => rfl
theorem FR.t {M2 : xM} (f : FR M M') (g : FR M' M2) : FR M M2 := fun a j ha => (g a j ha).trans (f a j ha)
theorem FR.w {j v : Int} (f : FR M M') (hj : j = 9 ∨ j = 11 ∨ j = 12 ∨ j = 13 ∨ j = 14 ∨ j = 17) : FR M (x_w M' 41 j v) := fun a i ha => (if_neg (by rintro ⟨rfl, rfl⟩; exact ha ⟨rfl, hj⟩)).trans (f a i ha)
theorem cM_byteAt (F : Fx h) (T : M 41 10 = n ∧ n ≤ 800 ∧ ∀ i : Nat, i < n → M 46 i = B i ∧ 0 ≤ B i ∧ B i < 256) {p : Nat} (k : Φ (.inl (some (xI (bAt B n p)))) M h) : x_Cal zM_byteAt [xA 41, xI p] M h Φ := by
  obtain ⟨t1, t2, t3⟩ := T
  unfold bAt at k
  refine x_met0 kM_byteAt (Nat.le_of_ble_eq_true rfl) ?_
  simp only [wq_g3, wq_gc, wq_g, wq_g1, wq_g2, eM_byteAt, iM_byteAt_0, iM_byteAt_17, iM_byteAt_18, vM_byteAt, wps, x_cnd, reduceIte, Nat.reduceAdd, Nat.reduceSub, Nat.reduceEqDiff, Nat.reduceLeDiff, Nat.lt_irrefl, Nat.reduceLT, Int.cast_ofNat_Int, wq_c0, wq_c1, true_and, and_true, and_self, true_implies, forall_const, ne_eq, Decidable.not_not, not_true_eq_false, not_false_eq_true, List.map_nil, List.map_cons, List.sum_nil, List.sum_cons, List.length_cons, List.length_nil, Nat.le_refl, Nat.zero_le, reduceCtorEq, true_or, or_true, false_or, or_false, false_and, and_false, false_implies, Nat.zero_add, Nat.add_zero, Int.reduceEq, Int.reduceNe, Int.reduceLT, Int.reduceLE, Int.reduceNeg, Int.reduceToNat, Nat.not_lt_zero, Int.reduceAdd, fxs F, t1]
  refine ⟨fun c0 => kr k (if_neg (by omega)), fun c0 => ⟨by omega, ?_⟩⟩
  rw [(t3 p (by omega)).1]
  exact kr k (if_pos (by omega))
theorem cM_isLetter {v : Int} (k : Φ (.inl (some (xI (b01 (97 ≤ v ∧ v ≤ 122))))) M h) : x_Cal zM_isLetter [xI v] M h Φ := by
  refine x_met0 kM_isLetter (Nat.le_of_ble_eq_true rfl) ?_
  simp only [wq_g3, wq_gc, wq_g, wq_g1, wq_g2, eM_isLetter, iM_isLetter_0, vM_isLetter, wps, x_cnd, reduceIte, Nat.reduceAdd, Nat.reduceSub, Nat.reduceEqDiff, Nat.reduceLeDiff, Nat.lt_irrefl, Nat.reduceLT, Int.cast_ofNat_Int, wq_c0, wq_c1, true_and, and_true, and_self, true_implies, forall_const, ne_eq, Decidable.not_not, not_true_eq_false, not_false_eq_true, List.map_nil, List.map_cons, List.sum_nil, List.sum_cons, List.length_cons, List.length_nil, Nat.le_refl, Nat.zero_le, reduceCtorEq, true_or, or_true, false_or, or_false, false_and, and_false, false_implies, Nat.zero_add, Nat.add_zero, Int.reduceEq, Int.reduceNe, Int.reduceLT, Int.reduceLE, Int.reduceNeg, Int.reduceToNat, Nat.not_lt_zero, Int.reduceAdd]
  refine cM_in ?_
  simp only [wq_g3, wq_gc, wq_g, wq_g1, wq_g2, eM_isLetter, iM_isLetter_0, vM_isLetter, wps, x_cnd, reduceIte, Nat.reduceAdd, Nat.reduceSub, Nat.reduceEqDiff, Nat.reduceLeDiff, Nat.lt_irrefl, Nat.reduceLT, Int.cast_ofNat_Int, wq_c0, wq_c1, true_and, and_true, and_self, true_implies, forall_const, ne_eq, Decidable.not_not, not_true_eq_false, not_false_eq_true, List.map_nil, List.map_cons, List.sum_nil, List.sum_cons, List.length_cons, List.length_nil, Nat.le_refl, Nat.zero_le, reduceCtorEq, true_or, or_true, false_or, or_false, false_and, and_false, false_implies, Nat.zero_add, Nat.add_zero, Int.reduceEq, Int.reduceNe, Int.reduceLT, Int.reduceLE, Int.reduceNeg, Int.reduceToNat, Nat.not_lt_zero, Int.reduceAdd]
  exact ⟨b01_e, k⟩
theorem cM_isDigit {v : Int} (k : Φ (.inl (some (xI (b01 (48 ≤ v ∧ v ≤ 57))))) M h) : x_Cal zM_isDigit [xI v] M h Φ := by
  refine x_met0 kM_isDigit (Nat.le_of_ble_eq_true rfl) ?_
  simp only [wq_g3, wq_gc, wq_g, wq_g1, wq_g2, eM_isDigit, iM_isDigit_0, vM_isDigit, wps, x_cnd, reduceIte, Nat.reduceAdd, Nat.reduceSub, Nat.reduceEqDiff, Nat.reduceLeDiff, Nat.lt_irrefl, Nat.reduceLT, Int.cast_ofNat_Int, wq_c0, wq_c1, true_and, and_true, and_self, true_implies, forall_const, ne_eq, Decidable.not_not, not_true_eq_false, not_false_eq_true, List.map_nil, List.map_cons, List.sum_nil, List.sum_cons, List.length_cons, List.length_nil, Nat.le_refl, Nat.zero_le, reduceCtorEq, true_or, or_true, false_or, or_false, false_and, and_false, false_implies, Nat.zero_add, Nat.add_zero, Int.reduceEq, Int.reduceNe, Int.reduceLT, Int.reduceLE, Int.reduceNeg, Int.reduceToNat, Nat.not_lt_zero, Int.reduceAdd]
  refine cM_in ?_
  simp only [wq_g3, wq_gc, wq_g, wq_g1, wq_g2, eM_isDigit, iM_isDigit_0, vM_isDigit, wps, x_cnd, reduceIte, Nat.reduceAdd, Nat.reduceSub, Nat.reduceEqDiff, Nat.reduceLeDiff, Nat.lt_irrefl, Nat.reduceLT, Int.cast_ofNat_Int, wq_c0, wq_c1, true_and, and_true, and_self, true_implies, forall_const, ne_eq, Decidable.not_not, not_true_eq_false, not_false_eq_true, List.map_nil, List.map_cons, List.sum_nil, List.sum_cons, List.length_cons, List.length_nil, Nat.le_refl, Nat.zero_le, reduceCtorEq, true_or, or_true, false_or, or_false, false_and, and_false, false_implies, Nat.zero_add, Nat.add_zero, Int.reduceEq, Int.reduceNe, Int.reduceLT, Int.reduceLE, Int.reduceNeg, Int.reduceToNat, Nat.not_lt_zero, Int.reduceAdd]
  exact ⟨b01_e, k⟩
theorem cM_peek (F : Fx h) (R : RT B n x l M) (k : ∀ M', RT B n x l M' → M' 41 12 = ts B n x → M' 41 9 = ts B n x → FR M M' → Φ (.inl (some (xI (bAt B n (ts B n x))))) M' h) : x_Cal zM_peek [xA 41] M h Φ := by
  obtain ⟨s1, s2, s3, s4⟩ := ren_spec (P := isSp B) (n := n) R.le
  obtain ⟨⟨t1, t2, t3⟩, ⟨hx, y0, z1, z2, z3⟩, e11⟩ := R
  refine x_metI kM_peek (Nat.le_of_ble_eq_true rfl) (fun t m ls st M' h' c2 n2 => t = 0 ∧ st = [] ∧ h' = h ∧ c2 = 0 ∧ n2 = 0 ∧ ls 0 = some (xA 41) ∧ (∀ a j, ¬ (a = 41 ∧ j = 9) → M' a j = M a j) ∧ ∃ y : Nat, M' 41 9 = y ∧ x ≤ y ∧ y ≤ ts B n x ∧ m = n + 1 - y) 20 ?_ ?_
  · simp only [wq_g3, wq_gc, wq_g, wq_g1, wq_g2, eM_peek, iM_peek_0, iM_peek_26, iM_peek_39, vM_peek, wps, x_cnd, reduceIte, Nat.reduceAdd, Nat.reduceSub, Nat.reduceEqDiff, Nat.reduceLeDiff, Nat.lt_irrefl, Nat.reduceLT, Int.cast_ofNat_Int, wq_c0, wq_c1, true_and, and_true, and_self, true_implies, forall_const, ne_eq, Decidable.not_not, not_true_eq_false, not_false_eq_true, List.map_nil, List.map_cons, List.sum_nil, List.sum_cons, List.length_cons, List.length_nil, Nat.le_refl, Nat.zero_le, reduceCtorEq, true_or, or_true, false_or, or_false, false_and, and_false, false_implies, Nat.zero_add, Nat.add_zero, Int.reduceEq, Int.reduceNe, Int.reduceLT, Int.reduceLE, Int.reduceNeg, Int.reduceToNat, Nat.not_lt_zero, Int.reduceAdd, fxs F]
    exact ⟨n + 1 - y0, fun _ _ _ => trivial, y0, z1, z2, z3, rfl⟩
  · rintro t m ls st M1 h' c2 n2 ⟨rfl, rfl, rfl, rfl, rfl, l0, fr, y, y1, y2, y3, y4⟩
    have hT : M1 41 10 = n ∧ n ≤ 800 ∧ ∀ i : Nat, i < n → M1 46 i = B i ∧ 0 ≤ B i ∧ B i < 256 := ⟨(fr 41 10 (by decide)).trans t1, t2, fun i hi => ⟨(fr 46 i (by omega)).trans (t3 i hi).1, (t3 i hi).2⟩⟩
    simp only [wq_g3, wq_gc, wq_g, wq_g1, wq_g2, eM_peek, iM_peek_0, iM_peek_26, iM_peek_39, vM_peek, wps, x_cnd, reduceIte, Nat.reduceAdd, Nat.reduceSub, Nat.reduceEqDiff, Nat.reduceLeDiff, Nat.lt_irrefl, Nat.reduceLT, Int.cast_ofNat_Int, wq_c0, wq_c1, true_and, and_true, and_self, true_implies, forall_const, ne_eq, Decidable.not_not, not_true_eq_false, not_false_eq_true, List.map_nil, List.map_cons, List.sum_nil, List.sum_cons, List.length_cons, List.length_nil, Nat.le_refl, Nat.zero_le, reduceCtorEq, true_or, or_true, false_or, or_false, false_and, and_false, false_implies, Nat.zero_add, Nat.add_zero, Int.reduceEq, Int.reduceNe, Int.reduceLT, Int.reduceLE, Int.reduceNeg, Int.reduceToNat, Nat.not_lt_zero, Int.reduceAdd, fxs F, l0, y1]
    refine cM_byteAt F hT ?_
    simp only [wq_g3, wq_gc, wq_g, wq_g1, wq_g2, eM_peek, iM_peek_0, iM_peek_26, iM_peek_39, vM_peek, wps, x_cnd, reduceIte, Nat.reduceAdd, Nat.reduceSub, Nat.reduceEqDiff, Nat.reduceLeDiff, Nat.lt_irrefl, Nat.reduceLT, Int.cast_ofNat_Int, wq_c0, wq_c1, true_and, and_true, and_self, true_implies, forall_const, ne_eq, Decidable.not_not, not_true_eq_false, not_false_eq_true, List.map_nil, List.map_cons, List.sum_nil, List.sum_cons, List.length_cons, List.length_nil, Nat.le_refl, Nat.zero_le, reduceCtorEq, true_or, or_true, false_or, or_false, false_and, and_false, false_implies, Nat.zero_add, Nat.add_zero, Int.reduceEq, Int.reduceNe, Int.reduceLT, Int.reduceLE, Int.reduceNeg, Int.reduceToNat, Nat.not_lt_zero, Int.reduceAdd, fxs F, l0, y1]
    have go : (B y = 32 ∨ B y = 10) → y < n → ∃ m2, m2 < m ∧ (∀ (a : Nat) (j : Int), ¬ (a = 41 ∧ j = 9) → x_w M1 41 9 (w32 ((y : Int) + 1)) a j = M a j) ∧ ∃ y_1 : Nat, x_w M1 41 9 (w32 ((y : Int) + 1)) 41 9 = y_1 ∧ x ≤ y_1 ∧ y_1 ≤ ts B n x ∧ m2 = n + 1 - y_1 := fun hb hyn => by
      have hyt : y ≠ ts B n x := fun e => by
        have h9 := s4 (by show ts B n x < n; omega)
        have h8 : isSp B y = true := isSp_t.mpr hb
        rw [show ((ren (isSp B) n x : Nat) : Int) = y from by rw [e]; rfl, h8] at h9
        exact absurd h9 (by decide)
      exact ⟨n + 1 - (y + 1), by omega, fun a j ha => (if_neg ha).trans (fr a j ha), y + 1, by rw [w_eq, w32_of (by omega)]; omega, by omega, by omega, rfl⟩
    have bt : ∀ c : Int, 0 ≤ c → bAt B n y = c → y < n ∧ B y = c := fun c hc e => by
      unfold bAt at e
      by_cases hyn : y < n
      · rw [if_pos hyn] at e
        exact ⟨hyn, e⟩
      · rw [if_neg hyn] at e
        omega
    refine ⟨fun c0 => go (Or.inl (bt 32 (by decide) c0).2) (bt 32 (by decide) c0).1, fun c0 => cM_byteAt F hT ?_⟩
    simp only [wq_g3, wq_gc, wq_g, wq_g1, wq_g2, eM_peek, iM_peek_0, iM_peek_26, iM_peek_39, vM_peek, wps, x_cnd, reduceIte, Nat.reduceAdd, Nat.reduceSub, Nat.reduceEqDiff, Nat.reduceLeDiff, Nat.lt_irrefl, Nat.reduceLT, Int.cast_ofNat_Int, wq_c0, wq_c1, true_and, and_true, and_self, true_implies, forall_const, ne_eq, Decidable.not_not, not_true_eq_false, not_false_eq_true, List.map_nil, List.map_cons, List.sum_nil, List.sum_cons, List.length_cons, List.length_nil, Nat.le_refl, Nat.zero_le, reduceCtorEq, true_or, or_true, false_or, or_false, false_and, and_false, false_implies, Nat.zero_add, Nat.add_zero, Int.reduceEq, Int.reduceNe, Int.reduceLT, Int.reduceLE, Int.reduceNeg, Int.reduceToNat, Nat.not_lt_zero, Int.reduceAdd, fxs F, l0, y1]
    refine ⟨fun c1 => ?_, fun c1 => go (Or.inr (bt 10 (by decide) c1).2) (bt 10 (by decide) c1).1⟩
    have hye : y = ts B n x := by
      by_cases hlt : y < ts B n x
      · have h8 := isSp_t.mp (s3 y y2 hlt)
        have hyn : y < n := by
          have : ts B n x ≤ n := s2
          omega
        unfold bAt at c0 c1
        rw [if_pos hyn] at c0 c1
        exact absurd h8 (fun q => q.elim c0 c1)
      · omega
    subst hye
    have fr2 : FR M (x_w M1 41 12 (ts B n x)) := fun a j ha => (if_neg (by omega)).trans (fr a j (by omega))
    have e9 : x_w M1 41 12 (ts B n x) 41 9 = ts B n x := (w_nj (by decide)).trans y1
    have hT2 : x_w M1 41 12 (ts B n x) 41 10 = n ∧ n ≤ 800 ∧ ∀ i : Nat, i < n → x_w M1 41 12 (ts B n x) 46 i = B i ∧ 0 ≤ B i ∧ B i < 256 := ⟨(w_nj (by decide)).trans hT.1, t2, fun i hi => ⟨(w_ne (by decide)).trans (hT.2.2 i hi).1, (t3 i hi).2⟩⟩
    rw [e9]
    refine cM_byteAt F hT2 ?_
    simp only [wq_g3, wq_gc, wq_g, wq_g1, wq_g2, eM_peek, iM_peek_0, iM_peek_26, iM_peek_39, vM_peek, wps, x_cnd, reduceIte, Nat.reduceAdd, Nat.reduceSub, Nat.reduceEqDiff, Nat.reduceLeDiff, Nat.lt_irrefl, Nat.reduceLT, Int.cast_ofNat_Int, wq_c0, wq_c1, true_and, and_true, and_self, true_implies, forall_const, ne_eq, Decidable.not_not, not_true_eq_false, not_false_eq_true, List.map_nil, List.map_cons, List.sum_nil, List.sum_cons, List.length_cons, List.length_nil, Nat.le_refl, Nat.zero_le, reduceCtorEq, true_or, or_true, false_or, or_false, false_and, and_false, false_implies, Nat.zero_add, Nat.add_zero, Int.reduceEq, Int.reduceNe, Int.reduceLT, Int.reduceLE, Int.reduceNeg, Int.reduceToNat, Nat.not_lt_zero, Int.reduceAdd, fxs F]
    exact k _ ⟨hT2, ⟨hx, ts B n x, e9, y2, Nat.le_refl _⟩, (w_nj (by decide)).trans ((fr 41 11 (by decide)).trans e11)⟩ w_eq e9 fr2
theorem bAt_lt {p : Nat} (hp : p ≤ n) : (97 ≤ bAt B n p ∧ bAt B n p ≤ 122) ↔ (p < n ∧ isLt B p = true) := by
  unfold bAt
  rw [isLt_t]
  by_cases h1 : p < n
  · rw [if_pos h1]
    omega
  · rw [if_neg h1]
    omega
theorem bAt_dg {p : Nat} (hp : p ≤ n) : (48 ≤ bAt B n p ∧ bAt B n p ≤ 57) ↔ (p < n ∧ isDg B p = true) := by
  unfold bAt
  rw [isDg_t]
  by_cases h1 : p < n
  · rw [if_pos h1]
    omega
  · rw [if_neg h1]
    omega
/-- a failure of the model's reading -/
def FE (M0 : xM) (c : Int) (p : Nat) (M : xM) : Prop := M 41 15 = c ∧ M 41 16 = p ∧ ∀ a j, ¬ (a = 41 ∧ (9 ≤ j ∧ j ≤ 19)) → a ≠ 43 → a ≠ 45 → M a j = M0 a j
/-- what a reading may change -/
def FO (M0 M : xM) : Prop := ∀ a j, ¬ (a = 41 ∧ (9 ≤ j ∧ j ≤ 19)) → a ≠ 43 → a ≠ 45 → M a j = M0 a j
theorem FR.o {M0 : xM} (g : FO M0 M) (f : FR M M') : FO M0 M' := fun a j h1 h2 h3 => (f a j (by omega)).trans (g a j h1 h2 h3)
theorem cM_fails (F : Fx h) {M0 : xM} (g : FO M0 M) {c : Int} {p : Nat} (k : ∀ M', FE M0 c p M' → Φ (.inl (some (xI 0))) M' h) : x_Cal zM_fails [xA 41, xI c, xI p] M h Φ := by
  refine x_met0 kM_fails (Nat.le_of_ble_eq_true rfl) ?_
  simp only [wq_g3, wq_gc, wq_g, wq_g1, wq_g2, eM_fails, iM_fails_0, vM_fails, wps, x_cnd, reduceIte, Nat.reduceAdd, Nat.reduceSub, Nat.reduceEqDiff, Nat.reduceLeDiff, Nat.lt_irrefl, Nat.reduceLT, Int.cast_ofNat_Int, wq_c0, wq_c1, true_and, and_true, and_self, true_implies, forall_const, ne_eq, Decidable.not_not, not_true_eq_false, not_false_eq_true, List.map_nil, List.map_cons, List.sum_nil, List.sum_cons, List.length_cons, List.length_nil, Nat.le_refl, Nat.zero_le, reduceCtorEq, true_or, or_true, false_or, or_false, false_and, and_false, false_implies, Nat.zero_add, Nat.add_zero, Int.reduceEq, Int.reduceNe, Int.reduceLT, Int.reduceLE, Int.reduceNeg, Int.reduceToNat, Nat.not_lt_zero, Int.reduceAdd, fxs F]
  exact k _ ⟨(w_nj (by decide)).trans w_eq, w_eq, fun a j h1 h2 h3 => (if_neg (by omega)).trans ((if_neg (by omega)).trans (g a j h1 h2 h3))⟩
theorem cM_passes (F : Fx h) (R : RT B n x l M) {e : Nat} (he : e ≤ n) (k : ∀ M', RT B n e true M' → FR M M' → (∀ j, (j = 12 ∨ j = 13 ∨ j = 14 ∨ j = 17) → M' 41 j = M 41 j) → Φ (.inl (some (xI 1))) M' h) : x_Cal zM_passes [xA 41, xI e] M h Φ := by
  have hts := ts_rng (B := B) he
  obtain ⟨⟨t1, t2, t3⟩, -, -⟩ := R
  refine x_met0 kM_passes (Nat.le_of_ble_eq_true rfl) ?_
  simp only [wq_g3, wq_gc, wq_g, wq_g1, wq_g2, eM_passes, iM_passes_0, vM_passes, wps, x_cnd, reduceIte, Nat.reduceAdd, Nat.reduceSub, Nat.reduceEqDiff, Nat.reduceLeDiff, Nat.lt_irrefl, Nat.reduceLT, Int.cast_ofNat_Int, wq_c0, wq_c1, true_and, and_true, and_self, true_implies, forall_const, ne_eq, Decidable.not_not, not_true_eq_false, not_false_eq_true, List.map_nil, List.map_cons, List.sum_nil, List.sum_cons, List.length_cons, List.length_nil, Nat.le_refl, Nat.zero_le, reduceCtorEq, true_or, or_true, false_or, or_false, false_and, and_false, false_implies, Nat.zero_add, Nat.add_zero, Int.reduceEq, Int.reduceNe, Int.reduceLT, Int.reduceLE, Int.reduceNeg, Int.reduceToNat, Nat.not_lt_zero, Int.reduceAdd, fxs F]
  refine k _ ⟨⟨(w_nj (by decide)).trans ((w_nj (by decide)).trans t1), t2, fun i hi => ⟨(w_ne (by decide)).trans ((w_ne (by decide)).trans (t3 i hi).1), (t3 i hi).2⟩⟩, ⟨he, e, (w_nj (by decide)).trans w_eq, Nat.le_refl _, hts.1⟩, w_eq.trans (if_pos rfl).symm⟩ ((FR.r.w (by decide)).w (by decide)) (fun j hj => (w_nj (by omega)).trans (w_nj (by omega)))
theorem RT.w {j v : Int} (R : RT B n x l M) (hj : j ≠ 9 ∧ j ≠ 10 ∧ j ≠ 11) : RT B n x l (x_w M 41 j v) := by
  obtain ⟨⟨t1, t2, t3⟩, ⟨hx, y0, z1, z2, z3⟩, e11⟩ := R
  exact ⟨⟨(w_nj (by omega)).trans t1, t2, fun i hi => ⟨(w_ne (by decide)).trans (t3 i hi).1, (t3 i hi).2⟩⟩, ⟨hx, y0, (w_nj (by omega)).trans z1, z2, z3⟩, (w_nj (by omega)).trans e11⟩
theorem wdk_32h {s : Nat} : ∀ {k : Nat}, Lts B s k → wdk 32 B s k < ((32 ^ k : Nat) : Int)
  | 0, _ => by show (0 : Int) < 1; omega
  | k + 1, h => by
    have h1 := wdk_32h (k := k) (fun q hq => h q (by omega))
    have h2 := h k (by omega)
    have e : ((32 ^ (k + 1) : Nat) : Int) = 32 * ((32 ^ k : Nat) : Int) := by rw [Nat.pow_succ]; push_cast; omega
    rw [e, wdk_s]
    omega
theorem wdk_32 {s k : Nat} (h : Lts B s k) (h6 : k ≤ 6) : 0 ≤ wdk 32 B s k ∧ wdk 32 B s k < 1073741825 := by
  have h1 := wdk_32h h
  have h2 : 32 ^ k ≤ 32 ^ 6 := Nat.pow_le_pow_right (by decide) h6
  have h3 := (wdk_0 (Or.inr rfl) h).1
  omega
theorem cM_readWord (F : Fx h) (R : RT B n x l M) {M0 : xM} (g : FO M0 M) (k0 : kin B n x l ≠ 1 → ∀ M', FE M0 1 (ts B n x) M' → Φ (.inl (some (xI 0))) M' h) (k1 : ∀ M', kin B n x l = 1 → RT B n (ten B n x) true M' → FR M M' → M' 41 17 = twv B n x → M' 41 13 = ((ten B n x - ts B n x : Nat) : Int) → M' 41 12 = ts B n x → Φ (.inl (some (xI 1))) M' h) : x_Cal zM_readWord [xA 41] M h Φ := by
  have hn8 := R.n8
  obtain ⟨t1, t2, t3, t4⟩ := R.t
  refine x_metI kM_readWord (Nat.le_of_ble_eq_true rfl) (fun t m ls st M' h' c2 n2 => t = 41 ∧ st = [] ∧ h' = h ∧ c2 = 0 ∧ n2 = 0 ∧ ls 0 = some (xA 41) ∧ RT B n x l M' ∧ FR M M' ∧ M' 41 12 = ts B n x ∧ kin B n x l = 1 ∧ ∃ p : Nat, ts B n x ≤ p ∧ p ≤ ten B n x ∧ m = n + 1 - p ∧ ls 1 = some (xI p) ∧ M' 41 17 = if p - ts B n x ≤ 6 then wdk 32 B (ts B n x) (p - ts B n x) else 0) 20 ?_ ?_
  · simp only [wq_g3, wq_gc, wq_g, wq_g1, wq_g2, eM_readWord, iM_readWord_0, iM_readWord_21, iM_readWord_31, iM_readWord_41, iM_readWord_86, iM_readWord_87, iM_readWord_97, vM_readWord, wps, x_cnd, reduceIte, Nat.reduceAdd, Nat.reduceSub, Nat.reduceEqDiff, Nat.reduceLeDiff, Nat.lt_irrefl, Nat.reduceLT, Int.cast_ofNat_Int, wq_c0, wq_c1, true_and, and_true, and_self, true_implies, forall_const, ne_eq, Decidable.not_not, not_true_eq_false, not_false_eq_true, List.map_nil, List.map_cons, List.sum_nil, List.sum_cons, List.length_cons, List.length_nil, Nat.le_refl, Nat.zero_le, reduceCtorEq, true_or, or_true, false_or, or_false, false_and, and_false, false_implies, Nat.zero_add, Nat.add_zero, Int.reduceEq, Int.reduceNe, Int.reduceLT, Int.reduceLE, Int.reduceNeg, Int.reduceToNat, Nat.not_lt_zero, Int.reduceAdd, fxs F]
    refine cM_peek F R (fun M1 R1 e12 e9 f1 => ?_)
    simp only [wq_g3, wq_gc, wq_g, wq_g1, wq_g2, eM_readWord, iM_readWord_0, iM_readWord_21, iM_readWord_31, iM_readWord_41, iM_readWord_86, iM_readWord_87, iM_readWord_97, vM_readWord, wps, x_cnd, reduceIte, Nat.reduceAdd, Nat.reduceSub, Nat.reduceEqDiff, Nat.reduceLeDiff, Nat.lt_irrefl, Nat.reduceLT, Int.cast_ofNat_Int, wq_c0, wq_c1, true_and, and_true, and_self, true_implies, forall_const, ne_eq, Decidable.not_not, not_true_eq_false, not_false_eq_true, List.map_nil, List.map_cons, List.sum_nil, List.sum_cons, List.length_cons, List.length_nil, Nat.le_refl, Nat.zero_le, reduceCtorEq, true_or, or_true, false_or, or_false, false_and, and_false, false_implies, Nat.zero_add, Nat.add_zero, Int.reduceEq, Int.reduceNe, Int.reduceLT, Int.reduceLE, Int.reduceNeg, Int.reduceToNat, Nat.not_lt_zero, Int.reduceAdd, fxs F]
    refine cM_isLetter ?_
    have e11 := R1.2.2
    simp only [wq_g3, wq_gc, wq_g, wq_g1, wq_g2, eM_readWord, iM_readWord_0, iM_readWord_21, iM_readWord_31, iM_readWord_41, iM_readWord_86, iM_readWord_87, iM_readWord_97, vM_readWord, wps, x_cnd, reduceIte, Nat.reduceAdd, Nat.reduceSub, Nat.reduceEqDiff, Nat.reduceLeDiff, Nat.lt_irrefl, Nat.reduceLT, Int.cast_ofNat_Int, wq_c0, wq_c1, true_and, and_true, and_self, true_implies, forall_const, ne_eq, Decidable.not_not, not_true_eq_false, not_false_eq_true, List.map_nil, List.map_cons, List.sum_nil, List.sum_cons, List.length_cons, List.length_nil, Nat.le_refl, Nat.zero_le, reduceCtorEq, true_or, or_true, false_or, or_false, false_and, and_false, false_implies, Nat.zero_add, Nat.add_zero, Int.reduceEq, Int.reduceNe, Int.reduceLT, Int.reduceLE, Int.reduceNeg, Int.reduceToNat, Nat.not_lt_zero, Int.reduceAdd, fxs F, b01_0, e12, e11]
    rw [bAt_lt t2]
    have hel : ((ts B n x : Int) = if l = true then (x : Int) else -1) ↔ (l = true ∧ ts B n x = x) := by
      cases l with
      | true =>
        rw [if_pos rfl]
        exact ⟨fun q => ⟨rfl, by omega⟩, fun q => by omega⟩
      | false =>
        rw [if_neg (by decide)]
        exact ⟨fun q => by omega, fun q => absurd q.1 (by decide)⟩
    have g1 : FO M0 M1 := f1.o g
    refine ⟨fun c0 => cM_fails F g1 (fun M' fe => ?_), fun c0 => ⟨fun c1 => ?_, fun c1 => cM_fails F g1 (fun M' fe => ?_)⟩⟩
    · simp only [wq_g3, wq_gc, wq_g, wq_g1, wq_g2, eM_readWord, iM_readWord_0, iM_readWord_21, iM_readWord_31, iM_readWord_41, iM_readWord_86, iM_readWord_87, iM_readWord_97, vM_readWord, wps, x_cnd, reduceIte, Nat.reduceAdd, Nat.reduceSub, Nat.reduceEqDiff, Nat.reduceLeDiff, Nat.lt_irrefl, Nat.reduceLT, Int.cast_ofNat_Int, wq_c0, wq_c1, true_and, and_true, and_self, true_implies, forall_const, ne_eq, Decidable.not_not, not_true_eq_false, not_false_eq_true, List.map_nil, List.map_cons, List.sum_nil, List.sum_cons, List.length_cons, List.length_nil, Nat.le_refl, Nat.zero_le, reduceCtorEq, true_or, or_true, false_or, or_false, false_and, and_false, false_implies, Nat.zero_add, Nat.add_zero, Int.reduceEq, Int.reduceNe, Int.reduceLT, Int.reduceLE, Int.reduceNeg, Int.reduceToNat, Nat.not_lt_zero, Int.reduceAdd, fxs F]
      exact k0 (fun q => c0 ⟨(kin_w.mp q).1, (kin_w.mp q).2.1⟩) M' fe
    · have hk : kin B n x l = 1 := kin_w.mpr ⟨c0.1, c0.2, fun q => c1 (hel.mpr q)⟩
      refine ⟨n + 1 - ts B n x, R1.w (by decide), f1.w (by decide), (w_nj (by decide)).trans e12, hk, ts B n x, Nat.le_refl _, t3, rfl, rfl, ?_⟩
      rw [w_eq, Nat.sub_self, if_pos (by decide)]
      rfl
    · simp only [wq_g3, wq_gc, wq_g, wq_g1, wq_g2, eM_readWord, iM_readWord_0, iM_readWord_21, iM_readWord_31, iM_readWord_41, iM_readWord_86, iM_readWord_87, iM_readWord_97, vM_readWord, wps, x_cnd, reduceIte, Nat.reduceAdd, Nat.reduceSub, Nat.reduceEqDiff, Nat.reduceLeDiff, Nat.lt_irrefl, Nat.reduceLT, Int.cast_ofNat_Int, wq_c0, wq_c1, true_and, and_true, and_self, true_implies, forall_const, ne_eq, Decidable.not_not, not_true_eq_false, not_false_eq_true, List.map_nil, List.map_cons, List.sum_nil, List.sum_cons, List.length_cons, List.length_nil, Nat.le_refl, Nat.zero_le, reduceCtorEq, true_or, or_true, false_or, or_false, false_and, and_false, false_implies, Nat.zero_add, Nat.add_zero, Int.reduceEq, Int.reduceNe, Int.reduceLT, Int.reduceLE, Int.reduceNeg, Int.reduceToNat, Nat.not_lt_zero, Int.reduceAdd, fxs F]
      exact k0 (fun q => (kin_w.mp q).2.2 (hel.mp c1)) M' fe
  · rintro t m ls st M1 h' c2 n2 ⟨rfl, rfl, rfl, rfl, rfl, l0, R1, f1, e12, hk, p, y1, y2, y3, l1, y4⟩
    simp only [wq_g3, wq_gc, wq_g, wq_g1, wq_g2, eM_readWord, iM_readWord_0, iM_readWord_21, iM_readWord_31, iM_readWord_41, iM_readWord_86, iM_readWord_87, iM_readWord_97, vM_readWord, wps, x_cnd, reduceIte, Nat.reduceAdd, Nat.reduceSub, Nat.reduceEqDiff, Nat.reduceLeDiff, Nat.lt_irrefl, Nat.reduceLT, Int.cast_ofNat_Int, wq_c0, wq_c1, true_and, and_true, and_self, true_implies, forall_const, ne_eq, Decidable.not_not, not_true_eq_false, not_false_eq_true, List.map_nil, List.map_cons, List.sum_nil, List.sum_cons, List.length_cons, List.length_nil, Nat.le_refl, Nat.zero_le, reduceCtorEq, true_or, or_true, false_or, or_false, false_and, and_false, false_implies, Nat.zero_add, Nat.add_zero, Int.reduceEq, Int.reduceNe, Int.reduceLT, Int.reduceLE, Int.reduceNeg, Int.reduceToNat, Nat.not_lt_zero, Int.reduceAdd, fxs F, l0, l1, e12]
    refine cM_byteAt F R1.1 ?_
    simp only [wq_g3, wq_gc, wq_g, wq_g1, wq_g2, eM_readWord, iM_readWord_0, iM_readWord_21, iM_readWord_31, iM_readWord_41, iM_readWord_86, iM_readWord_87, iM_readWord_97, vM_readWord, wps, x_cnd, reduceIte, Nat.reduceAdd, Nat.reduceSub, Nat.reduceEqDiff, Nat.reduceLeDiff, Nat.lt_irrefl, Nat.reduceLT, Int.cast_ofNat_Int, wq_c0, wq_c1, true_and, and_true, and_self, true_implies, forall_const, ne_eq, Decidable.not_not, not_true_eq_false, not_false_eq_true, List.map_nil, List.map_cons, List.sum_nil, List.sum_cons, List.length_cons, List.length_nil, Nat.le_refl, Nat.zero_le, reduceCtorEq, true_or, or_true, false_or, or_false, false_and, and_false, false_implies, Nat.zero_add, Nat.add_zero, Int.reduceEq, Int.reduceNe, Int.reduceLT, Int.reduceLE, Int.reduceNeg, Int.reduceToNat, Nat.not_lt_zero, Int.reduceAdd, fxs F, l0, l1, e12]
    refine cM_isLetter ?_
    simp only [wq_g3, wq_gc, wq_g, wq_g1, wq_g2, eM_readWord, iM_readWord_0, iM_readWord_21, iM_readWord_31, iM_readWord_41, iM_readWord_86, iM_readWord_87, iM_readWord_97, vM_readWord, wps, x_cnd, reduceIte, Nat.reduceAdd, Nat.reduceSub, Nat.reduceEqDiff, Nat.reduceLeDiff, Nat.lt_irrefl, Nat.reduceLT, Int.cast_ofNat_Int, wq_c0, wq_c1, true_and, and_true, and_self, true_implies, forall_const, ne_eq, Decidable.not_not, not_true_eq_false, not_false_eq_true, List.map_nil, List.map_cons, List.sum_nil, List.sum_cons, List.length_cons, List.length_nil, Nat.le_refl, Nat.zero_le, reduceCtorEq, true_or, or_true, false_or, or_false, false_and, and_false, false_implies, Nat.zero_add, Nat.add_zero, Int.reduceEq, Int.reduceNe, Int.reduceLT, Int.reduceLE, Int.reduceNeg, Int.reduceToNat, Nat.not_lt_zero, Int.reduceAdd, fxs F, l0, l1, e12, b01_0]
    rw [bAt_lt (by omega)]
    obtain ⟨k2, k3, k4⟩ := kin_Lts R.le hk
    obtain ⟨q1, q2, q3⟩ := kin_w.mp hk
    obtain ⟨s1, s2, s3, s4⟩ := ren_spec (P := isLt B) (n := n) (x := ts B n x) (by omega)
    have hte : ten B n x = ren (isLt B) n (ts B n x) := ten_w hk
    refine ⟨fun c0 => ?_, fun c0 => ?_⟩
    · have hp : p = ten B n x := by
        by_cases hlt : p < ten B n x
        · exact absurd ⟨by omega, s3 p y1 (by omega)⟩ c0
        · omega
      subst hp
      rw [w32_of (by omega)]
      refine cM_passes F (R1.w (j := 13) (by decide)) (by omega) (fun M' R' f' e' => ?_)
      simp only [wq_g3, wq_gc, wq_g, wq_g1, wq_g2, eM_readWord, iM_readWord_0, iM_readWord_21, iM_readWord_31, iM_readWord_41, iM_readWord_86, iM_readWord_87, iM_readWord_97, vM_readWord, wps, x_cnd, reduceIte, Nat.reduceAdd, Nat.reduceSub, Nat.reduceEqDiff, Nat.reduceLeDiff, Nat.lt_irrefl, Nat.reduceLT, Int.cast_ofNat_Int, wq_c0, wq_c1, true_and, and_true, and_self, true_implies, forall_const, ne_eq, Decidable.not_not, not_true_eq_false, not_false_eq_true, List.map_nil, List.map_cons, List.sum_nil, List.sum_cons, List.length_cons, List.length_nil, Nat.le_refl, Nat.zero_le, reduceCtorEq, true_or, or_true, false_or, or_false, false_and, and_false, false_implies, Nat.zero_add, Nat.add_zero, Int.reduceEq, Int.reduceNe, Int.reduceLT, Int.reduceLE, Int.reduceNeg, Int.reduceToNat, Nat.not_lt_zero, Int.reduceAdd, fxs F]
      refine k1 M' hk R' ((f1.w (by decide)).t f') ?_ ?_ ?_
      · rw [e' 17 (by decide), w_nj (by decide), y4]
        unfold twv
        rw [← ten_w hk]
      · rw [e' 13 (by decide), w_eq]
        omega
      · rw [e' 12 (by decide), w_nj (by decide)]
        exact e12
    · have hlt : p < ten B n x := by
        by_cases hlt : p < ten B n x
        · exact hlt
        · have hp : p = ren (isLt B) n (ts B n x) := by omega
          have h9 := s4 (by omega)
          rw [← hp, c0.2] at h9
          exact absurd h9 (by decide)
      have hL : Lts B (ts B n x) (p - ts B n x) := fun q hq => k4 q (by omega)
      have hb := k4 (p - ts B n x) (by omega)
      rw [show ts B n x + (p - ts B n x) = p by omega] at hb
      simp (disch := omega) only [w32_of]
      refine ⟨fun c1 => ⟨n + 1 - (p + 1), by omega, R1.w (by decide), f1.w (by decide), (w_nj (by decide)).trans e12, hk, p + 1, by omega, by omega, rfl, congrArg (fun z => some (xI z)) (by omega), ?_⟩, fun c1 => cM_byteAt F R1.1 ?_⟩
      · rw [w_eq, if_neg (by omega)]
        rfl
      · rw [if_pos (by omega)] at y4
        have hwb := wdk_32 hL (by omega)
        rw [show bAt B n p = B p from if_pos c0.1]
        simp only [wq_g3, wq_gc, wq_g, wq_g1, wq_g2, eM_readWord, iM_readWord_0, iM_readWord_21, iM_readWord_31, iM_readWord_41, iM_readWord_86, iM_readWord_87, iM_readWord_97, vM_readWord, wps, x_cnd, reduceIte, Nat.reduceAdd, Nat.reduceSub, Nat.reduceEqDiff, Nat.reduceLeDiff, Nat.lt_irrefl, Nat.reduceLT, Int.cast_ofNat_Int, wq_c0, wq_c1, true_and, and_true, and_self, true_implies, forall_const, ne_eq, Decidable.not_not, not_true_eq_false, not_false_eq_true, List.map_nil, List.map_cons, List.sum_nil, List.sum_cons, List.length_cons, List.length_nil, Nat.le_refl, Nat.zero_le, reduceCtorEq, true_or, or_true, false_or, or_false, false_and, and_false, false_implies, Nat.zero_add, Nat.add_zero, Int.reduceEq, Int.reduceNe, Int.reduceLT, Int.reduceLE, Int.reduceNeg, Int.reduceToNat, Nat.not_lt_zero, Int.reduceAdd, fxs F, l0, l1, e12, y4]
        rw [w64_of (x := 32 * wdk 32 B (ts B n x) (p - ts B n x)) (by omega), w64_of (x := 32 * wdk 32 B (ts B n x) (p - ts B n x) + B p) (by omega), w64_of (by omega)]
        simp (disch := omega) only [w32_of]
        refine ⟨n + 1 - (p + 1), by omega, R1.w (by decide), f1.w (by decide), (w_nj (by decide)).trans e12, hk, p + 1, by omega, by omega, rfl, congrArg (fun z => some (xI z)) (by omega), ?_⟩
        rw [w_eq, if_pos (by omega), show p + 1 - ts B n x = (p - ts B n x) + 1 by omega, wdk_s, show ts B n x + (p - ts B n x) = p by omega]
        omega
theorem cM_readNumber (F : Fx h) (R : RT B n x l M) {M0 : xM} (g : FO M0 M) {hi : Int} (k0 : nuc B n x l hi ≠ 0 → ∀ M', FE M0 (nuc B n x l hi) (ts B n x) M' → Φ (.inl (some (xI 0))) M' h) (k1 : ∀ M', nuc B n x l hi = 0 → kin B n x l = 2 → 1 ≤ tnv B n x → tnv B n x ≤ hi → tnv B n x ≤ 9999 → RT B n (ten B n x) true M' → FR M M' → M' 41 14 = tnv B n x → M' 41 12 = ts B n x → Φ (.inl (some (xI 1))) M' h) : x_Cal zM_readNumber [xA 41, xI 1, xI hi] M h Φ := by
  have hn8 := R.n8
  obtain ⟨t1, t2, t3, t4⟩ := R.t
  refine x_metI kM_readNumber (Nat.le_of_ble_eq_true rfl) (fun t m ls st M' h' c2 n2 => t = 41 ∧ st = [] ∧ h' = h ∧ c2 = 0 ∧ n2 = 0 ∧ ls 0 = some (xA 41) ∧ ls 1 = some (xI 1) ∧ ls 2 = some (xI hi) ∧ RT B n x l M' ∧ FR M M' ∧ M' 41 12 = ts B n x ∧ ts B n x < n ∧ isDg B (ts B n x) = true ∧ ¬ (l = true ∧ ts B n x = x) ∧ ∃ p : Nat, ts B n x ≤ p ∧ p ≤ tde B n x ∧ m = n + 1 - p ∧ ls 3 = some (xI p) ∧ (0 ≤ M' 41 14 ∧ M' 41 14 ≤ 9999) ∧ (p - ts B n x ≤ 4 → M' 41 14 = nvk B (ts B n x) (p - ts B n x))) 20 ?_ ?_
  · simp only [wq_g3, wq_gc, wq_g, wq_g1, wq_g2, eM_readNumber, iM_readNumber_0, iM_readNumber_21, iM_readNumber_31, iM_readNumber_41, iM_readNumber_82, iM_readNumber_86, iM_readNumber_96, iM_readNumber_116, iM_readNumber_138, vM_readNumber, wps, x_cnd, reduceIte, Nat.reduceAdd, Nat.reduceSub, Nat.reduceEqDiff, Nat.reduceLeDiff, Nat.lt_irrefl, Nat.reduceLT, Int.cast_ofNat_Int, wq_c0, wq_c1, true_and, and_true, and_self, true_implies, forall_const, ne_eq, Decidable.not_not, not_true_eq_false, not_false_eq_true, List.map_nil, List.map_cons, List.sum_nil, List.sum_cons, List.length_cons, List.length_nil, Nat.le_refl, Nat.zero_le, reduceCtorEq, true_or, or_true, false_or, or_false, false_and, and_false, false_implies, Nat.zero_add, Nat.add_zero, Int.reduceEq, Int.reduceNe, Int.reduceLT, Int.reduceLE, Int.reduceNeg, Int.reduceToNat, Nat.not_lt_zero, Int.reduceAdd, fxs F]
    refine cM_peek F R (fun M1 R1 e12 e9 f1 => ?_)
    simp only [wq_g3, wq_gc, wq_g, wq_g1, wq_g2, eM_readNumber, iM_readNumber_0, iM_readNumber_21, iM_readNumber_31, iM_readNumber_41, iM_readNumber_82, iM_readNumber_86, iM_readNumber_96, iM_readNumber_116, iM_readNumber_138, vM_readNumber, wps, x_cnd, reduceIte, Nat.reduceAdd, Nat.reduceSub, Nat.reduceEqDiff, Nat.reduceLeDiff, Nat.lt_irrefl, Nat.reduceLT, Int.cast_ofNat_Int, wq_c0, wq_c1, true_and, and_true, and_self, true_implies, forall_const, ne_eq, Decidable.not_not, not_true_eq_false, not_false_eq_true, List.map_nil, List.map_cons, List.sum_nil, List.sum_cons, List.length_cons, List.length_nil, Nat.le_refl, Nat.zero_le, reduceCtorEq, true_or, or_true, false_or, or_false, false_and, and_false, false_implies, Nat.zero_add, Nat.add_zero, Int.reduceEq, Int.reduceNe, Int.reduceLT, Int.reduceLE, Int.reduceNeg, Int.reduceToNat, Nat.not_lt_zero, Int.reduceAdd, fxs F]
    refine cM_isDigit ?_
    have e11 := R1.2.2
    simp only [wq_g3, wq_gc, wq_g, wq_g1, wq_g2, eM_readNumber, iM_readNumber_0, iM_readNumber_21, iM_readNumber_31, iM_readNumber_41, iM_readNumber_82, iM_readNumber_86, iM_readNumber_96, iM_readNumber_116, iM_readNumber_138, vM_readNumber, wps, x_cnd, reduceIte, Nat.reduceAdd, Nat.reduceSub, Nat.reduceEqDiff, Nat.reduceLeDiff, Nat.lt_irrefl, Nat.reduceLT, Int.cast_ofNat_Int, wq_c0, wq_c1, true_and, and_true, and_self, true_implies, forall_const, ne_eq, Decidable.not_not, not_true_eq_false, not_false_eq_true, List.map_nil, List.map_cons, List.sum_nil, List.sum_cons, List.length_cons, List.length_nil, Nat.le_refl, Nat.zero_le, reduceCtorEq, true_or, or_true, false_or, or_false, false_and, and_false, false_implies, Nat.zero_add, Nat.add_zero, Int.reduceEq, Int.reduceNe, Int.reduceLT, Int.reduceLE, Int.reduceNeg, Int.reduceToNat, Nat.not_lt_zero, Int.reduceAdd, fxs F, b01_0, e12, e11]
    rw [bAt_dg t2]
    have hel : ((ts B n x : Int) = if l = true then (x : Int) else -1) ↔ (l = true ∧ ts B n x = x) := by
      cases l with
      | true =>
        rw [if_pos rfl]
        exact ⟨fun q => ⟨rfl, by omega⟩, fun q => by omega⟩
      | false =>
        rw [if_neg (by decide)]
        exact ⟨fun q => by omega, fun q => absurd q.1 (by decide)⟩
    have g1 : FO M0 M1 := f1.o g
    have hnuc : kin B n x l ≠ 2 → nuc B n x l hi = 1 := fun q => if_pos q
    refine ⟨fun c0 => cM_fails F g1 (fun M' fe => ?_), fun c0 => ⟨fun c1 => ?_, fun c1 => cM_fails F g1 (fun M' fe => ?_)⟩⟩
    · simp only [wq_g3, wq_gc, wq_g, wq_g1, wq_g2, eM_readNumber, iM_readNumber_0, iM_readNumber_21, iM_readNumber_31, iM_readNumber_41, iM_readNumber_82, iM_readNumber_86, iM_readNumber_96, iM_readNumber_116, iM_readNumber_138, vM_readNumber, wps, x_cnd, reduceIte, Nat.reduceAdd, Nat.reduceSub, Nat.reduceEqDiff, Nat.reduceLeDiff, Nat.lt_irrefl, Nat.reduceLT, Int.cast_ofNat_Int, wq_c0, wq_c1, true_and, and_true, and_self, true_implies, forall_const, ne_eq, Decidable.not_not, not_true_eq_false, not_false_eq_true, List.map_nil, List.map_cons, List.sum_nil, List.sum_cons, List.length_cons, List.length_nil, Nat.le_refl, Nat.zero_le, reduceCtorEq, true_or, or_true, false_or, or_false, false_and, and_false, false_implies, Nat.zero_add, Nat.add_zero, Int.reduceEq, Int.reduceNe, Int.reduceLT, Int.reduceLE, Int.reduceNeg, Int.reduceToNat, Nat.not_lt_zero, Int.reduceAdd, fxs F]
      have h1 := hnuc (fun q => c0 ⟨(kin_n.mp q).1, (kin_n.mp q).2.1⟩)
      exact k0 (by omega) M' (h1 ▸ fe)
    · obtain ⟨d1, d2, d3⟩ := tde_spec R1.le c0.2 c0.1
      refine ⟨n + 1 - ts B n x, R1.w (by decide), f1.w (by decide), (w_nj (by decide)).trans e12, c0.1, c0.2, fun q => c1 (hel.mpr q), ts B n x, Nat.le_refl _, by omega, rfl, by rw [w_nj (by decide), e12], by rw [w_eq]; decide, fun _ => ?_⟩
      rw [w_eq, Nat.sub_self]
      rfl
    · simp only [wq_g3, wq_gc, wq_g, wq_g1, wq_g2, eM_readNumber, iM_readNumber_0, iM_readNumber_21, iM_readNumber_31, iM_readNumber_41, iM_readNumber_82, iM_readNumber_86, iM_readNumber_96, iM_readNumber_116, iM_readNumber_138, vM_readNumber, wps, x_cnd, reduceIte, Nat.reduceAdd, Nat.reduceSub, Nat.reduceEqDiff, Nat.reduceLeDiff, Nat.lt_irrefl, Nat.reduceLT, Int.cast_ofNat_Int, wq_c0, wq_c1, true_and, and_true, and_self, true_implies, forall_const, ne_eq, Decidable.not_not, not_true_eq_false, not_false_eq_true, List.map_nil, List.map_cons, List.sum_nil, List.sum_cons, List.length_cons, List.length_nil, Nat.le_refl, Nat.zero_le, reduceCtorEq, true_or, or_true, false_or, or_false, false_and, and_false, false_implies, Nat.zero_add, Nat.add_zero, Int.reduceEq, Int.reduceNe, Int.reduceLT, Int.reduceLE, Int.reduceNeg, Int.reduceToNat, Nat.not_lt_zero, Int.reduceAdd, fxs F]
      have h1 := hnuc (fun q => (kin_n.mp q).2.2.1 (hel.mp c1))
      exact k0 (by omega) M' (h1 ▸ fe)
  · rintro t m ls st M1 h' c2 n2 ⟨rfl, rfl, rfl, rfl, rfl, l0, l1, l2, R1, f1, e12, q1, q2, q3, p, y1, y2, y3, l3, y4, y5⟩
    obtain ⟨d1, d2, d3⟩ := tde_spec R1.le q2 q1
    simp only [wq_g3, wq_gc, wq_g, wq_g1, wq_g2, eM_readNumber, iM_readNumber_0, iM_readNumber_21, iM_readNumber_31, iM_readNumber_41, iM_readNumber_82, iM_readNumber_86, iM_readNumber_96, iM_readNumber_116, iM_readNumber_138, vM_readNumber, wps, x_cnd, reduceIte, Nat.reduceAdd, Nat.reduceSub, Nat.reduceEqDiff, Nat.reduceLeDiff, Nat.lt_irrefl, Nat.reduceLT, Int.cast_ofNat_Int, wq_c0, wq_c1, true_and, and_true, and_self, true_implies, forall_const, ne_eq, Decidable.not_not, not_true_eq_false, not_false_eq_true, List.map_nil, List.map_cons, List.sum_nil, List.sum_cons, List.length_cons, List.length_nil, Nat.le_refl, Nat.zero_le, reduceCtorEq, true_or, or_true, false_or, or_false, false_and, and_false, false_implies, Nat.zero_add, Nat.add_zero, Int.reduceEq, Int.reduceNe, Int.reduceLT, Int.reduceLE, Int.reduceNeg, Int.reduceToNat, Nat.not_lt_zero, Int.reduceAdd, fxs F, l0, l1, l2, l3, e12]
    refine cM_byteAt F R1.1 ?_
    simp only [wq_g3, wq_gc, wq_g, wq_g1, wq_g2, eM_readNumber, iM_readNumber_0, iM_readNumber_21, iM_readNumber_31, iM_readNumber_41, iM_readNumber_82, iM_readNumber_86, iM_readNumber_96, iM_readNumber_116, iM_readNumber_138, vM_readNumber, wps, x_cnd, reduceIte, Nat.reduceAdd, Nat.reduceSub, Nat.reduceEqDiff, Nat.reduceLeDiff, Nat.lt_irrefl, Nat.reduceLT, Int.cast_ofNat_Int, wq_c0, wq_c1, true_and, and_true, and_self, true_implies, forall_const, ne_eq, Decidable.not_not, not_true_eq_false, not_false_eq_true, List.map_nil, List.map_cons, List.sum_nil, List.sum_cons, List.length_cons, List.length_nil, Nat.le_refl, Nat.zero_le, reduceCtorEq, true_or, or_true, false_or, or_false, false_and, and_false, false_implies, Nat.zero_add, Nat.add_zero, Int.reduceEq, Int.reduceNe, Int.reduceLT, Int.reduceLE, Int.reduceNeg, Int.reduceToNat, Nat.not_lt_zero, Int.reduceAdd, fxs F, l0, l1, l2, l3, e12]
    refine cM_isDigit ?_
    simp only [wq_g3, wq_gc, wq_g, wq_g1, wq_g2, eM_readNumber, iM_readNumber_0, iM_readNumber_21, iM_readNumber_31, iM_readNumber_41, iM_readNumber_82, iM_readNumber_86, iM_readNumber_96, iM_readNumber_116, iM_readNumber_138, vM_readNumber, wps, x_cnd, reduceIte, Nat.reduceAdd, Nat.reduceSub, Nat.reduceEqDiff, Nat.reduceLeDiff, Nat.lt_irrefl, Nat.reduceLT, Int.cast_ofNat_Int, wq_c0, wq_c1, true_and, and_true, and_self, true_implies, forall_const, ne_eq, Decidable.not_not, not_true_eq_false, not_false_eq_true, List.map_nil, List.map_cons, List.sum_nil, List.sum_cons, List.length_cons, List.length_nil, Nat.le_refl, Nat.zero_le, reduceCtorEq, true_or, or_true, false_or, or_false, false_and, and_false, false_implies, Nat.zero_add, Nat.add_zero, Int.reduceEq, Int.reduceNe, Int.reduceLT, Int.reduceLE, Int.reduceNeg, Int.reduceToNat, Nat.not_lt_zero, Int.reduceAdd, fxs F, l0, l1, l2, l3, e12, b01_0]
    rw [bAt_dg (by omega)]
    obtain ⟨s1, s2, s3, s4⟩ := ren_spec (P := isDg B) (n := n) (x := ts B n x) (by omega)
    have hte : tde B n x = ren (isDg B) n (ts B n x) := rfl
    have g1 : FO M0 M1 := f1.o g
    refine ⟨fun c0 => ?_, fun c0 => ?_⟩
    · have hp : p = tde B n x := by
        by_cases hlt : p < tde B n x
        · exact absurd ⟨by omega, s3 p y1 (by omega)⟩ c0
        · omega
      subst hp
      simp (disch := omega) only [w32_of]
      refine ⟨fun c1 => cM_in ?_, fun c1 => cM_fails F g1 (fun M' fe => ?_)⟩
      · have hk : kin B n x l = 2 := kin_n.mpr ⟨q1, q2, q3, by omega⟩
        have hv : M1 41 14 = tnv B n x := y5 (by omega)
        have hten : ten B n x = tde B n x := ten_n hk
        rw [hv] at y4 ⊢
        simp only [wq_g3, wq_gc, wq_g, wq_g1, wq_g2, eM_readNumber, iM_readNumber_0, iM_readNumber_21, iM_readNumber_31, iM_readNumber_41, iM_readNumber_82, iM_readNumber_86, iM_readNumber_96, iM_readNumber_116, iM_readNumber_138, vM_readNumber, wps, x_cnd, reduceIte, Nat.reduceAdd, Nat.reduceSub, Nat.reduceEqDiff, Nat.reduceLeDiff, Nat.lt_irrefl, Nat.reduceLT, Int.cast_ofNat_Int, wq_c0, wq_c1, true_and, and_true, and_self, true_implies, forall_const, ne_eq, Decidable.not_not, not_true_eq_false, not_false_eq_true, List.map_nil, List.map_cons, List.sum_nil, List.sum_cons, List.length_cons, List.length_nil, Nat.le_refl, Nat.zero_le, reduceCtorEq, true_or, or_true, false_or, or_false, false_and, and_false, false_implies, Nat.zero_add, Nat.add_zero, Int.reduceEq, Int.reduceNe, Int.reduceLT, Int.reduceLE, Int.reduceNeg, Int.reduceToNat, Nat.not_lt_zero, Int.reduceAdd, fxs F, l0, l1, l2, l3, e12, b01_0]
        refine ⟨fun c2 => ?_, fun c2 => cM_fails F g1 (fun M' fe => ?_)⟩
        · rw [← hten]
          refine cM_passes F R1 t4 (fun M' R' f' e' => ?_)
          simp only [wq_g3, wq_gc, wq_g, wq_g1, wq_g2, eM_readNumber, iM_readNumber_0, iM_readNumber_21, iM_readNumber_31, iM_readNumber_41, iM_readNumber_82, iM_readNumber_86, iM_readNumber_96, iM_readNumber_116, iM_readNumber_138, vM_readNumber, wps, x_cnd, reduceIte, Nat.reduceAdd, Nat.reduceSub, Nat.reduceEqDiff, Nat.reduceLeDiff, Nat.lt_irrefl, Nat.reduceLT, Int.cast_ofNat_Int, wq_c0, wq_c1, true_and, and_true, and_self, true_implies, forall_const, ne_eq, Decidable.not_not, not_true_eq_false, not_false_eq_true, List.map_nil, List.map_cons, List.sum_nil, List.sum_cons, List.length_cons, List.length_nil, Nat.le_refl, Nat.zero_le, reduceCtorEq, true_or, or_true, false_or, or_false, false_and, and_false, false_implies, Nat.zero_add, Nat.add_zero, Int.reduceEq, Int.reduceNe, Int.reduceLT, Int.reduceLE, Int.reduceNeg, Int.reduceToNat, Nat.not_lt_zero, Int.reduceAdd, fxs F, l0]
          refine k1 M' ?_ hk c2.1 c2.2 y4.2 R' (f1.t f') ((e' 14 (by decide)).trans hv) ((e' 12 (by decide)).trans e12)
          unfold nuc
          rw [if_neg (fun q => q hk), if_neg (by omega)]
        · simp only [wq_g3, wq_gc, wq_g, wq_g1, wq_g2, eM_readNumber, iM_readNumber_0, iM_readNumber_21, iM_readNumber_31, iM_readNumber_41, iM_readNumber_82, iM_readNumber_86, iM_readNumber_96, iM_readNumber_116, iM_readNumber_138, vM_readNumber, wps, x_cnd, reduceIte, Nat.reduceAdd, Nat.reduceSub, Nat.reduceEqDiff, Nat.reduceLeDiff, Nat.lt_irrefl, Nat.reduceLT, Int.cast_ofNat_Int, wq_c0, wq_c1, true_and, and_true, and_self, true_implies, forall_const, ne_eq, Decidable.not_not, not_true_eq_false, not_false_eq_true, List.map_nil, List.map_cons, List.sum_nil, List.sum_cons, List.length_cons, List.length_nil, Nat.le_refl, Nat.zero_le, reduceCtorEq, true_or, or_true, false_or, or_false, false_and, and_false, false_implies, Nat.zero_add, Nat.add_zero, Int.reduceEq, Int.reduceNe, Int.reduceLT, Int.reduceLE, Int.reduceNeg, Int.reduceToNat, Nat.not_lt_zero, Int.reduceAdd, fxs F, l0]
          have h2 : nuc B n x l hi = 2 := by
            unfold nuc
            rw [if_neg (fun q => q hk), if_pos (by omega)]
          exact k0 (by omega) M' (h2 ▸ fe)
      · simp only [wq_g3, wq_gc, wq_g, wq_g1, wq_g2, eM_readNumber, iM_readNumber_0, iM_readNumber_21, iM_readNumber_31, iM_readNumber_41, iM_readNumber_82, iM_readNumber_86, iM_readNumber_96, iM_readNumber_116, iM_readNumber_138, vM_readNumber, wps, x_cnd, reduceIte, Nat.reduceAdd, Nat.reduceSub, Nat.reduceEqDiff, Nat.reduceLeDiff, Nat.lt_irrefl, Nat.reduceLT, Int.cast_ofNat_Int, wq_c0, wq_c1, true_and, and_true, and_self, true_implies, forall_const, ne_eq, Decidable.not_not, not_true_eq_false, not_false_eq_true, List.map_nil, List.map_cons, List.sum_nil, List.sum_cons, List.length_cons, List.length_nil, Nat.le_refl, Nat.zero_le, reduceCtorEq, true_or, or_true, false_or, or_false, false_and, and_false, false_implies, Nat.zero_add, Nat.add_zero, Int.reduceEq, Int.reduceNe, Int.reduceLT, Int.reduceLE, Int.reduceNeg, Int.reduceToNat, Nat.not_lt_zero, Int.reduceAdd, fxs F, l0]
        have h1 : nuc B n x l hi = 1 := if_pos (fun q => by have := (kin_n.mp q).2.2.2; omega)
        exact k0 (by omega) M' (h1 ▸ fe)
    · have hlt : p < tde B n x := by
        by_cases hlt : p < tde B n x
        · exact hlt
        · have hp : p = ren (isDg B) n (ts B n x) := by omega
          have h9 := s4 (by omega)
          rw [← hp, c0.2] at h9
          exact absurd h9 (by decide)
      have hb := d3 p y1 hlt
      simp (disch := omega) only [w32_of]
      refine ⟨fun c1 => ⟨n + 1 - (p + 1), by omega, R1.w (by decide), f1.w (by decide), (w_nj (by decide)).trans e12, q1, q2, q3, p + 1, by omega, by omega, rfl, congrArg (fun z => some (xI z)) (by omega), by rw [w_eq]; exact y4, fun h4 => by omega⟩, fun c1 => cM_byteAt F R1.1 ?_⟩
      have hv := y5 (by omega)
      have hnr := nvk_rng (B := B) (s := ts B n x) (k := p - ts B n x) (fun q hq => d3 _ (by omega) (by omega))
      have h3 := p10' (k := p - ts B n x) (by omega)
      rw [show bAt B n p = B p from if_pos c0.1, hv]
      simp only [wq_g3, wq_gc, wq_g, wq_g1, wq_g2, eM_readNumber, iM_readNumber_0, iM_readNumber_21, iM_readNumber_31, iM_readNumber_41, iM_readNumber_82, iM_readNumber_86, iM_readNumber_96, iM_readNumber_116, iM_readNumber_138, vM_readNumber, wps, x_cnd, reduceIte, Nat.reduceAdd, Nat.reduceSub, Nat.reduceEqDiff, Nat.reduceLeDiff, Nat.lt_irrefl, Nat.reduceLT, Int.cast_ofNat_Int, wq_c0, wq_c1, true_and, and_true, and_self, true_implies, forall_const, ne_eq, Decidable.not_not, not_true_eq_false, not_false_eq_true, List.map_nil, List.map_cons, List.sum_nil, List.sum_cons, List.length_cons, List.length_nil, Nat.le_refl, Nat.zero_le, reduceCtorEq, true_or, or_true, false_or, or_false, false_and, and_false, false_implies, Nat.zero_add, Nat.add_zero, Int.reduceEq, Int.reduceNe, Int.reduceLT, Int.reduceLE, Int.reduceNeg, Int.reduceToNat, Nat.not_lt_zero, Int.reduceAdd, fxs F, l0, l1, l2, l3, e12]
      simp (disch := omega) only [w32_of]
      refine ⟨n + 1 - (p + 1), by omega, R1.w (by decide), f1.w (by decide), (w_nj (by decide)).trans e12, q1, q2, q3, p + 1, by omega, by omega, rfl, congrArg (fun z => some (xI z)) (by omega), by rw [w_eq]; omega, fun h4 => ?_⟩
      rw [w_eq, show p + 1 - ts B n x = (p - ts B n x) + 1 by omega]
      show _ = 10 * nvk B (ts B n x) (p - ts B n x) + (B ((ts B n x + (p - ts B n x) : Nat) : Int) - 48)
      rw [show ts B n x + (p - ts B n x) = p by omega]
      omega
theorem kin_3 : kin B n x l = 3 ↔ bAt B n (ts B n x) = 59 := by
  unfold kin bAt
  by_cases h1 : n ≤ ts B n x
  · have h1' : ¬ ts B n x < n := by omega
    rw [if_pos h1, if_neg h1']
    omega
  · have h1' : ts B n x < n := by omega
    rw [if_neg h1, if_pos h1']
    by_cases h2 : isLt B (ts B n x) = true
    · rw [if_pos h2]
      have := isLt_t.mp h2
      split <;> omega
    · rw [if_neg h2]
      by_cases h3 : isDg B (ts B n x) = true
      · rw [if_pos h3]
        have := isDg_t.mp h3
        split <;> omega
      · rw [if_neg h3]
        split <;> omega
theorem ten_3 (h : kin B n x l = 3) : ten B n x = ts B n x + 1 ∧ ts B n x < n := by
  have h4 := kin_3.mp h
  unfold bAt at h4
  by_cases h1 : ts B n x < n
  · rw [if_pos h1] at h4
    unfold ten
    rw [if_neg (by omega), if_neg (fun q => by have := isLt_t.mp q; omega), if_neg (fun q => by have := isDg_t.mp q; omega)]
    exact ⟨rfl, h1⟩
  · rw [if_neg h1] at h4
    omega
theorem cM_readSemicolon (F : Fx h) (R : RT B n x l M) {M0 : xM} (g : FO M0 M) (k0 : kin B n x l ≠ 3 → ∀ M', FE M0 1 (ts B n x) M' → Φ (.inl (some (xI 0))) M' h) (k1 : ∀ M', kin B n x l = 3 → RT B n (ten B n x) false M' → FR M M' → Φ (.inl (some (xI 1))) M' h) : x_Cal zM_readSemicolon [xA 41] M h Φ := by
  have hn8 := R.n8
  obtain ⟨t1, t2, t3, t4⟩ := R.t
  refine x_met0 kM_readSemicolon (Nat.le_of_ble_eq_true rfl) ?_
  simp only [wq_g3, wq_gc, wq_g, wq_g1, wq_g2, eM_readSemicolon, iM_readSemicolon_0, iM_readSemicolon_19, vM_readSemicolon, wps, x_cnd, reduceIte, Nat.reduceAdd, Nat.reduceSub, Nat.reduceEqDiff, Nat.reduceLeDiff, Nat.lt_irrefl, Nat.reduceLT, Int.cast_ofNat_Int, wq_c0, wq_c1, true_and, and_true, and_self, true_implies, forall_const, ne_eq, Decidable.not_not, not_true_eq_false, not_false_eq_true, List.map_nil, List.map_cons, List.sum_nil, List.sum_cons, List.length_cons, List.length_nil, Nat.le_refl, Nat.zero_le, reduceCtorEq, true_or, or_true, false_or, or_false, false_and, and_false, false_implies, Nat.zero_add, Nat.add_zero, Int.reduceEq, Int.reduceNe, Int.reduceLT, Int.reduceLE, Int.reduceNeg, Int.reduceToNat, Nat.not_lt_zero, Int.reduceAdd, fxs F]
  refine cM_peek F R (fun M1 R1 e12 e9 f1 => ?_)
  simp only [wq_g3, wq_gc, wq_g, wq_g1, wq_g2, eM_readSemicolon, iM_readSemicolon_0, iM_readSemicolon_19, vM_readSemicolon, wps, x_cnd, reduceIte, Nat.reduceAdd, Nat.reduceSub, Nat.reduceEqDiff, Nat.reduceLeDiff, Nat.lt_irrefl, Nat.reduceLT, Int.cast_ofNat_Int, wq_c0, wq_c1, true_and, and_true, and_self, true_implies, forall_const, ne_eq, Decidable.not_not, not_true_eq_false, not_false_eq_true, List.map_nil, List.map_cons, List.sum_nil, List.sum_cons, List.length_cons, List.length_nil, Nat.le_refl, Nat.zero_le, reduceCtorEq, true_or, or_true, false_or, or_false, false_and, and_false, false_implies, Nat.zero_add, Nat.add_zero, Int.reduceEq, Int.reduceNe, Int.reduceLT, Int.reduceLE, Int.reduceNeg, Int.reduceToNat, Nat.not_lt_zero, Int.reduceAdd, fxs F, e12]
  rw [← kin_3 (l := l)]
  refine ⟨fun c0 => ?_, fun c0 => cM_fails F (f1.o g) (fun M' fe => ?_)⟩
  · obtain ⟨h1, h2⟩ := ten_3 c0
    rw [w32_of (by omega)]
    obtain ⟨⟨r1, r2, r3⟩, -, -⟩ := R1
    have ht := ts_rng (B := B) (show ten B n x ≤ n by omega)
    refine k1 _ c0 ⟨⟨(w_nj (by decide)).trans ((w_nj (by decide)).trans r1), r2, fun i hi => ⟨(w_ne (by decide)).trans ((w_ne (by decide)).trans (r3 i hi).1), (r3 i hi).2⟩⟩, ⟨t4, ten B n x, ?_, Nat.le_refl _, ht.1⟩, w_eq.trans (if_neg (by decide)).symm⟩ ((f1.w (by decide)).w (by decide))
    rw [w_nj (by decide), w_eq]
    omega
  · simp only [wq_g3, wq_gc, wq_g, wq_g1, wq_g2, eM_readSemicolon, iM_readSemicolon_0, iM_readSemicolon_19, vM_readSemicolon, wps, x_cnd, reduceIte, Nat.reduceAdd, Nat.reduceSub, Nat.reduceEqDiff, Nat.reduceLeDiff, Nat.lt_irrefl, Nat.reduceLT, Int.cast_ofNat_Int, wq_c0, wq_c1, true_and, and_true, and_self, true_implies, forall_const, ne_eq, Decidable.not_not, not_true_eq_false, not_false_eq_true, List.map_nil, List.map_cons, List.sum_nil, List.sum_cons, List.length_cons, List.length_nil, Nat.le_refl, Nat.zero_le, reduceCtorEq, true_or, or_true, false_or, or_false, false_and, and_false, false_implies, Nat.zero_add, Nat.add_zero, Int.reduceEq, Int.reduceNe, Int.reduceLT, Int.reduceLE, Int.reduceNeg, Int.reduceToNat, Nat.not_lt_zero, Int.reduceAdd, fxs F]
    exact k0 c0 M' fe
end MREAD
