/-! the reader of a text -/
section READ
variable {A : xAb} {M : xM} {h : xH} {Φ : xO → xM → xH → Prop} {S : xSr} {nid : Int}
set_option maxHeartbeats 1000000
theorem cR_isLetter {v : Int} (k : Φ (.inl (some (xI (b01 (97 ≤ v ∧ v ≤ 122))))) M h) : x_Cal zR_isLetter [xI v] M h Φ := by
  refine x_met0 kR_isLetter (Nat.le_of_ble_eq_true rfl) ?_
  simp only [wq_g3, wq_gc, wq_g, wq_g1, wq_g2, eR_isLetter, iR_isLetter_0, iR_isLetter_16, iR_isLetter_17, vR_isLetter, wps, x_cnd, reduceIte, Nat.reduceAdd, Nat.reduceSub, Nat.reduceEqDiff, Nat.reduceLeDiff, Nat.lt_irrefl, Nat.reduceLT, Int.cast_ofNat_Int, wq_c0, wq_c1, true_and, and_true, and_self, true_implies, forall_const, ne_eq, Decidable.not_not, not_true_eq_false, not_false_eq_true, List.map_nil, List.map_cons, List.sum_nil, List.sum_cons, List.length_cons, List.length_nil, Nat.le_refl, Nat.zero_le, reduceCtorEq, true_or, or_true, false_or, or_false, false_and, and_false, false_implies, Nat.zero_add, Nat.add_zero, Int.reduceEq, Int.reduceNe, Int.reduceLT, Int.reduceLE, Int.reduceNeg, Int.reduceToNat, Nat.not_lt_zero, Int.reduceAdd]
  refine ⟨fun c0 => kr k (b01_f (by omega)), fun c0 => ⟨fun c1 => kr k (b01_f (by omega)), fun c1 => kr k (b01_t (by omega))⟩⟩
theorem cR_isDigit {v : Int} (k : Φ (.inl (some (xI (b01 (48 ≤ v ∧ v ≤ 57))))) M h) : x_Cal zR_isDigit [xI v] M h Φ := by
  refine x_met0 kR_isDigit (Nat.le_of_ble_eq_true rfl) ?_
  simp only [wq_g3, wq_gc, wq_g, wq_g1, wq_g2, eR_isDigit, iR_isDigit_0, iR_isDigit_16, iR_isDigit_17, vR_isDigit, wps, x_cnd, reduceIte, Nat.reduceAdd, Nat.reduceSub, Nat.reduceEqDiff, Nat.reduceLeDiff, Nat.lt_irrefl, Nat.reduceLT, Int.cast_ofNat_Int, wq_c0, wq_c1, true_and, and_true, and_self, true_implies, forall_const, ne_eq, Decidable.not_not, not_true_eq_false, not_false_eq_true, List.map_nil, List.map_cons, List.sum_nil, List.sum_cons, List.length_cons, List.length_nil, Nat.le_refl, Nat.zero_le, reduceCtorEq, true_or, or_true, false_or, or_false, false_and, and_false, false_implies, Nat.zero_add, Nat.add_zero, Int.reduceEq, Int.reduceNe, Int.reduceLT, Int.reduceLE, Int.reduceNeg, Int.reduceToNat, Nat.not_lt_zero, Int.reduceAdd]
  refine ⟨fun c0 => kr k (b01_f (by omega)), fun c0 => ⟨fun c1 => kr k (b01_f (by omega)), fun c1 => kr k (b01_t (by omega))⟩⟩
theorem cR_isSpace {v : Int} (k : Φ (.inl (some (xI (b01 (v = 32 ∨ v = 10))))) M h) : x_Cal zR_isSpace [xI v] M h Φ := by
  refine x_met0 kR_isSpace (Nat.le_of_ble_eq_true rfl) ?_
  simp only [wq_g3, wq_gc, wq_g, wq_g1, wq_g2, eR_isSpace, iR_isSpace_0, iR_isSpace_12, iR_isSpace_16, iR_isSpace_17, vR_isSpace, wps, x_cnd, reduceIte, Nat.reduceAdd, Nat.reduceSub, Nat.reduceEqDiff, Nat.reduceLeDiff, Nat.lt_irrefl, Nat.reduceLT, Int.cast_ofNat_Int, wq_c0, wq_c1, true_and, and_true, and_self, true_implies, forall_const, ne_eq, Decidable.not_not, not_true_eq_false, not_false_eq_true, List.map_nil, List.map_cons, List.sum_nil, List.sum_cons, List.length_cons, List.length_nil, Nat.le_refl, Nat.zero_le, reduceCtorEq, true_or, or_true, false_or, or_false, false_and, and_false, false_implies, Nat.zero_add, Nat.add_zero, Int.reduceEq, Int.reduceNe, Int.reduceLT, Int.reduceLE, Int.reduceNeg, Int.reduceToNat, Nat.not_lt_zero, Int.reduceAdd]
  exact ⟨fun c0 => kr k (b01_t (Or.inl c0)), fun c0 => ⟨fun c1 => kr k (b01_f (by omega)), fun c1 => kr k (b01_t (Or.inr c1))⟩⟩
theorem cR_takeWord (F : Fx h) {n a : Nat} {B : Int → Int} (hn0 : M 2 5 = n) (hn1 : n ≤ 800) (ha : M 2 10 = a) (ha1 : a ≤ n) (hB : ∀ i : Nat, i < n → M 14 i = w8 (B i)) (k : ∀ e : Nat, a ≤ e → e ≤ n → (∀ q : Nat, a ≤ q → q < e → 97 ≤ w8 (B q) ∧ w8 (B q) ≤ 122) → (e < n → ¬ (97 ≤ w8 (B e) ∧ w8 (B e) ≤ 122)) → Φ (.inl none) (x_w (x_w M 2 8 1) 2 10 e) h) : x_Cal zR_takeWord [xA 2] M h Φ := by
  refine x_metI kR_takeWord (Nat.le_of_ble_eq_true rfl) (fun t m ls st M' h' c n2 => t = 5 ∧ st = [] ∧ h' = h ∧ c = 0 ∧ n2 = 0 ∧ ls 0 = some (xA 2) ∧ ∃ p : Nat, a ≤ p ∧ p ≤ n ∧ m = n - p ∧ M' = x_w (x_w M 2 8 1) 2 10 p ∧ ∀ q : Nat, a ≤ q → q < p → 97 ≤ w8 (B q) ∧ w8 (B q) ≤ 122) 20 ?_ ?_
  · simp only [wq_g3, wq_gc, wq_g, wq_g1, wq_g2, eR_takeWord, iR_takeWord_0, iR_takeWord_5, iR_takeWord_44, vR_takeWord, wps, x_cnd, reduceIte, Nat.reduceAdd, Nat.reduceSub, Nat.reduceEqDiff, Nat.reduceLeDiff, Nat.lt_irrefl, Nat.reduceLT, Int.cast_ofNat_Int, wq_c0, wq_c1, true_and, and_true, and_self, true_implies, forall_const, ne_eq, Decidable.not_not, not_true_eq_false, not_false_eq_true, List.map_nil, List.map_cons, List.sum_nil, List.sum_cons, List.length_cons, List.length_nil, Nat.le_refl, Nat.zero_le, reduceCtorEq, true_or, or_true, false_or, or_false, false_and, and_false, false_implies, Nat.zero_add, Nat.add_zero, Int.reduceEq, Int.reduceNe, Int.reduceLT, Int.reduceLE, Int.reduceNeg, Int.reduceToNat, Nat.not_lt_zero, Int.reduceAdd, fxs F]
    refine ⟨n - a, a, by omega, ha1, rfl, ?_, fun q h1 h2 => by omega⟩
    funext b j
    by_cases hc : b = 2 ∧ j = 10
    · rw [hc.1, hc.2, w_eq, w_nj (by decide), ha]
    · exact (if_neg hc).symm
  · rintro t m ls st M' h' c n2 ⟨rfl, rfl, rfl, rfl, rfl, l0, p, q1, q2, q3, rfl, q4⟩
    have e1 : x_w (x_w M 2 8 1) 2 10 p 2 5 = n := by rw [w_nj (by decide), w_nj (by decide)]; exact hn0
    have e2 : x_w (x_w M 2 8 1) 2 10 p 2 10 = p := w_eq
    simp only [wq_g3, wq_gc, wq_g, wq_g1, wq_g2, eR_takeWord, iR_takeWord_0, iR_takeWord_5, iR_takeWord_44, vR_takeWord, wps, x_cnd, reduceIte, Nat.reduceAdd, Nat.reduceSub, Nat.reduceEqDiff, Nat.reduceLeDiff, Nat.lt_irrefl, Nat.reduceLT, Int.cast_ofNat_Int, wq_c0, wq_c1, true_and, and_true, and_self, true_implies, forall_const, ne_eq, Decidable.not_not, not_true_eq_false, not_false_eq_true, List.map_nil, List.map_cons, List.sum_nil, List.sum_cons, List.length_cons, List.length_nil, Nat.le_refl, Nat.zero_le, reduceCtorEq, true_or, or_true, false_or, or_false, false_and, and_false, false_implies, Nat.zero_add, Nat.add_zero, Int.reduceEq, Int.reduceNe, Int.reduceLT, Int.reduceLE, Int.reduceNeg, Int.reduceToNat, Nat.not_lt_zero, Int.reduceAdd, fxs F, l0, e1, e2]
    refine ⟨fun c0 => ?_, fun c0 => ⟨by omega, cR_isLetter ?_⟩⟩
    · exact k p q1 q2 q4 (fun hp => by omega)
    · have e3 : x_w (x_w M 2 8 1) 2 10 p 14 p = w8 (B p) := by rw [w_ne (by decide), w_ne (by decide)]; exact hB p (by omega)
      rw [e3]
      simp only [wq_g3, wq_gc, wq_g, wq_g1, wq_g2, eR_takeWord, iR_takeWord_0, iR_takeWord_5, iR_takeWord_44, vR_takeWord, wps, x_cnd, reduceIte, Nat.reduceAdd, Nat.reduceSub, Nat.reduceEqDiff, Nat.reduceLeDiff, Nat.lt_irrefl, Nat.reduceLT, Int.cast_ofNat_Int, wq_c0, wq_c1, true_and, and_true, and_self, true_implies, forall_const, ne_eq, Decidable.not_not, not_true_eq_false, not_false_eq_true, List.map_nil, List.map_cons, List.sum_nil, List.sum_cons, List.length_cons, List.length_nil, Nat.le_refl, Nat.zero_le, reduceCtorEq, true_or, or_true, false_or, or_false, false_and, and_false, false_implies, Nat.zero_add, Nat.add_zero, Int.reduceEq, Int.reduceNe, Int.reduceLT, Int.reduceLE, Int.reduceNeg, Int.reduceToNat, Nat.not_lt_zero, Int.reduceAdd, fxs F, l0, e1, e2, b01_0]
      simp (disch := omega) only [w32_of]
      refine ⟨fun c1 => k p q1 q2 q4 (fun _ => by omega), fun c1 => ⟨n - (p + 1), by omega, p + 1, by omega, by omega, rfl, ?_, fun q h1 h2 => ?_⟩⟩
      · funext b j
        unfold x_w
        by_cases hc : b = 2 ∧ j = 10
        · rw [if_pos hc, if_pos hc]
          rfl
        · rw [if_neg hc, if_neg hc, if_neg hc]
      · by_cases hq : q = p
        · subst hq
          omega
        · exact q4 q h1 (by omega)
theorem cR_takeNumber (F : Fx h) {n a : Nat} {B : Int → Int} (hn0 : M 2 5 = n) (hn1 : n ≤ 800) (ha : M 2 10 = a) (hs : M 2 9 = a) (ha1 : a ≤ n) (hB : ∀ i : Nat, i < n → M 14 i = w8 (B i)) (k : ∀ (e : Nat) (M' : xM), a ≤ e → e ≤ n → (∀ q : Nat, a ≤ q → q < e → 48 ≤ w8 (B q) ∧ w8 (B q) ≤ 57) → (e < n → ¬ (48 ≤ w8 (B e) ∧ w8 (B e) ≤ 57)) → M' 2 10 = e → M' 2 8 = (if 4 < e - a then 4 else 2) → (e - a ≤ 4 → M' 2 11 = nvk (fun i => w8 (B i)) a (e - a)) → (∀ b j, ¬ (b = 2 ∧ (j = 8 ∨ j = 10 ∨ j = 11)) → M' b j = M b j) → Φ (.inl none) M' h) : x_Cal zR_takeNumber [xA 2] M h Φ := by
  refine x_metI kR_takeNumber (Nat.le_of_ble_eq_true rfl) (fun t m ls st M' h' c n2 => t = 5 ∧ st = [] ∧ h' = h ∧ c = 0 ∧ n2 = 0 ∧ ls 0 = some (xA 2) ∧ ∃ (p : Nat) (v : Int), a ≤ p ∧ p ≤ n ∧ m = n - p ∧ M' 2 10 = p ∧ M' 2 11 = v ∧ 0 ≤ v ∧ v < 100000 ∧ (p - a ≤ 4 → v = nvk (fun i => w8 (B i)) a (p - a)) ∧ (∀ q : Nat, a ≤ q → q < p → 48 ≤ w8 (B q) ∧ w8 (B q) ≤ 57) ∧ ∀ b j, ¬ (b = 2 ∧ (j = 10 ∨ j = 11)) → M' b j = M b j) 20 ?_ ?_
  · simp only [wq_g3, wq_gc, wq_g, wq_g1, wq_g2, eR_takeNumber, iR_takeNumber_0, iR_takeNumber_5, iR_takeNumber_65, iR_takeNumber_69, iR_takeNumber_85, iR_takeNumber_103, iR_takeNumber_104, vR_takeNumber, wps, x_cnd, reduceIte, Nat.reduceAdd, Nat.reduceSub, Nat.reduceEqDiff, Nat.reduceLeDiff, Nat.lt_irrefl, Nat.reduceLT, Int.cast_ofNat_Int, wq_c0, wq_c1, true_and, and_true, and_self, true_implies, forall_const, ne_eq, Decidable.not_not, not_true_eq_false, not_false_eq_true, List.map_nil, List.map_cons, List.sum_nil, List.sum_cons, List.length_cons, List.length_nil, Nat.le_refl, Nat.zero_le, reduceCtorEq, true_or, or_true, false_or, or_false, false_and, and_false, false_implies, Nat.zero_add, Nat.add_zero, Int.reduceEq, Int.reduceNe, Int.reduceLT, Int.reduceLE, Int.reduceNeg, Int.reduceToNat, Nat.not_lt_zero, Int.reduceAdd, fxs F]
    refine ⟨n - a, a, 0, Nat.le_refl _, ha1, rfl, (w_nj (by decide)).trans ha, w_eq, by omega, by omega, fun _ => by rw [Nat.sub_self]; rfl, fun q h1 h2 => by omega, fun b j hb => if_neg (by omega)⟩
  · rintro t m ls st M' h' c n2 ⟨rfl, rfl, rfl, rfl, rfl, l0, p, v, q1, q2, q3, e1, e2, q4, q5, q6, q7, f⟩
    have e3 : M' 2 5 = n := (f 2 5 (by decide)).trans hn0
    have e4 : M' 2 9 = a := (f 2 9 (by decide)).trans hs
    simp only [wq_g3, wq_gc, wq_g, wq_g1, wq_g2, eR_takeNumber, iR_takeNumber_0, iR_takeNumber_5, iR_takeNumber_65, iR_takeNumber_69, iR_takeNumber_85, iR_takeNumber_103, iR_takeNumber_104, vR_takeNumber, wps, x_cnd, reduceIte, Nat.reduceAdd, Nat.reduceSub, Nat.reduceEqDiff, Nat.reduceLeDiff, Nat.lt_irrefl, Nat.reduceLT, Int.cast_ofNat_Int, wq_c0, wq_c1, true_and, and_true, and_self, true_implies, forall_const, ne_eq, Decidable.not_not, not_true_eq_false, not_false_eq_true, List.map_nil, List.map_cons, List.sum_nil, List.sum_cons, List.length_cons, List.length_nil, Nat.le_refl, Nat.zero_le, reduceCtorEq, true_or, or_true, false_or, or_false, false_and, and_false, false_implies, Nat.zero_add, Nat.add_zero, Int.reduceEq, Int.reduceNe, Int.reduceLT, Int.reduceLE, Int.reduceNeg, Int.reduceToNat, Nat.not_lt_zero, Int.reduceAdd, fxs F, l0, e1, e2, e3, e4]
    have ex : (p < n → ¬ (48 ≤ w8 (B p) ∧ w8 (B p) ≤ 57)) → (w32 ((p : Int) - a) ≤ 4 → Φ (Sum.inl none) (x_w M' 2 8 2) h') ∧ (¬w32 ((p : Int) - a) ≤ 4 → Φ (Sum.inl none) (x_w M' 2 8 4) h') := fun h0 => by
      rw [w32_of (by omega)]
      refine ⟨fun c0 => k p _ q1 q2 q7 h0 ((w_nj (by decide)).trans e1) (w_eq.trans (by rw [if_neg (by omega)])) (fun h4 => (w_nj (by decide)).trans (e2.trans (q6 h4))) (fun b j hb => (if_neg (by omega)).trans (f b j (by omega))), fun c0 => k p _ q1 q2 q7 h0 ((w_nj (by decide)).trans e1) (w_eq.trans (by rw [if_pos (by omega)])) (fun h4 => by omega) (fun b j hb => (if_neg (by omega)).trans (f b j (by omega)))⟩
    refine ⟨fun c0 => ex (fun q => by omega), fun c0 => ⟨by omega, cR_isDigit ?_⟩⟩
    have e5 : M' 14 p = w8 (B p) := (f 14 p (by omega)).trans (hB p (by omega))
    rw [e5]
    simp only [wq_g3, wq_gc, wq_g, wq_g1, wq_g2, eR_takeNumber, iR_takeNumber_0, iR_takeNumber_5, iR_takeNumber_65, iR_takeNumber_69, iR_takeNumber_85, iR_takeNumber_103, iR_takeNumber_104, vR_takeNumber, wps, x_cnd, reduceIte, Nat.reduceAdd, Nat.reduceSub, Nat.reduceEqDiff, Nat.reduceLeDiff, Nat.lt_irrefl, Nat.reduceLT, Int.cast_ofNat_Int, wq_c0, wq_c1, true_and, and_true, and_self, true_implies, forall_const, ne_eq, Decidable.not_not, not_true_eq_false, not_false_eq_true, List.map_nil, List.map_cons, List.sum_nil, List.sum_cons, List.length_cons, List.length_nil, Nat.le_refl, Nat.zero_le, reduceCtorEq, true_or, or_true, false_or, or_false, false_and, and_false, false_implies, Nat.zero_add, Nat.add_zero, Int.reduceEq, Int.reduceNe, Int.reduceLT, Int.reduceLE, Int.reduceNeg, Int.reduceToNat, Nat.not_lt_zero, Int.reduceAdd, fxs F, l0, e1, e2, e3, e4, e5, b01_0]
    refine ⟨fun c1 => ex (fun _ => c1), fun c1 => ?_⟩
    have hd := c1
    have hv := nvk_rng (B := fun i => w8 (B i)) (s := a) (k := p - a) (fun q hq => q7 (a + q) (by omega) (by omega))
    have hq7 : ∀ q : Nat, a ≤ q → q < p + 1 → 48 ≤ w8 (B q) ∧ w8 (B q) ≤ 57 := fun q h1 h2 => by
      by_cases hq : q = p
      · subst hq
        exact hd
      · exact q7 q h1 (by omega)
    have e9 : ∀ u, x_w M' 2 11 u 2 10 = p := fun u => (w_nj (by decide)).trans e1
    simp only [e9]
    refine ⟨fun c2 => ⟨n - (p + 1), by omega, p + 1, v, by omega, by omega, rfl, ?_, (w_nj (by decide)).trans w_eq, q4, q5, fun h4 => ?_, hq7, fun b j hb => ?_⟩, fun c2 => ⟨by omega, n - (p + 1), by omega, p + 1, 10 * v + (w8 (B p) - 48), by omega, by omega, rfl, ?_, ?_, by omega, by omega, fun h4 => ?_, hq7, fun b j hb => ?_⟩⟩
    · rw [w_eq, w32_of (by omega)]
      rfl
    · have h5 := q6 (by omega)
      have h6 := p10' (k := p - a) (by omega)
      omega
    · exact (if_neg (by omega)).trans ((if_neg (by omega)).trans (f b j hb))
    · rw [w_eq, w32_of (by omega)]
      rfl
    · rw [w_nj (by decide), w_eq, w32_of (x := v * 10) (by omega), w32_of (x := w8 (B p) - 48) (by omega), w32_of (by omega), Int.mul_comm]
    · rw [show p + 1 - a = (p - a) + 1 by omega, q6 (by omega)]
      show _ = 10 * nvk (fun i => w8 (B i)) a (p - a) + (w8 (B ((a + (p - a) : Nat) : Int)) - 48)
      rw [show a + (p - a) = p by omega]
    · exact (if_neg (by omega)).trans ((if_neg (by omega)).trans (f b j hb))
/-- the text: n bytes B -/
def TX (B : Int → Int) (n : Nat) (M : xM) : Prop := M 2 5 = n ∧ n ≤ 800 ∧ ∀ i : Nat, i < n → M 14 i = w8 (B i) ∧ 0 ≤ B i ∧ B i < 256
/-- the token behind x is the reader's -/
def TK (B : Int → Int) (n x : Nat) (l : Bool) (M : xM) : Prop := M 2 8 = kin B n x l ∧ M 2 9 = ts B n x ∧ M 2 10 = ten B n x ∧ (kin B n x l = 2 → M 2 11 = tnv B n x)
theorem w8_lt {v : Int} (h : 0 ≤ v ∧ v < 256) : (97 ≤ w8 v ∧ w8 v ≤ 122) ↔ (97 ≤ v ∧ v ≤ 122) := by
  unfold w8
  have := Int.bmod_def (x := v) (m := 256)
  omega
theorem w8_dg {v : Int} (h : 0 ≤ v ∧ v < 256) : (48 ≤ w8 v ∧ w8 v ≤ 57) ↔ (48 ≤ v ∧ v ≤ 57) := by
  unfold w8
  have := Int.bmod_def (x := v) (m := 256)
  omega
theorem w8_c {v c : Int} (h : 0 ≤ v ∧ v < 256) (hc : 0 ≤ c ∧ c < 128) : w8 v = c ↔ v = c := by
  unfold w8
  have := Int.bmod_def (x := v) (m := 256)
  omega
theorem w8_id {v : Int} (h : 0 ≤ v ∧ v < 128) : w8 v = v := (w8_c (by omega) h).mpr rfl
theorem nvk_cg {B C : Int → Int} {s : Nat} : ∀ {k : Nat}, (∀ q : Nat, q < k → B ((s + q : Nat) : Int) = C ((s + q : Nat) : Int)) → nvk B s k = nvk C s k
  | 0, _ => rfl
  | k + 1, h => by
    show 10 * nvk B s k + (B ((s + k : Nat) : Int) - 48) = 10 * nvk C s k + (C ((s + k : Nat) : Int) - 48)
    rw [nvk_cg (k := k) (fun q hq => h q (by omega)), h k (by omega)]
theorem cR_isSpB {v b : Int} (e : v = w8 b ∧ 0 ≤ b ∧ b < 256) (k : Φ (.inl (some (xI (b01 (b = 32 ∨ b = 10))))) M h) : x_Cal zR_isSpace [xI v] M h Φ :=
  cR_isSpace (kr k (b01_c (by rw [e.1, w8_c e.2 (by decide), w8_c e.2 (by decide)])))
theorem cR_isLtB {v b : Int} (e : v = w8 b ∧ 0 ≤ b ∧ b < 256) (k : Φ (.inl (some (xI (b01 (97 ≤ b ∧ b ≤ 122))))) M h) : x_Cal zR_isLetter [xI v] M h Φ :=
  cR_isLetter (kr k (b01_c (by rw [e.1, w8_lt e.2])))
theorem cR_isDgB {v b : Int} (e : v = w8 b ∧ 0 ≤ b ∧ b < 256) (k : Φ (.inl (some (xI (b01 (48 ≤ b ∧ b ≤ 57))))) M h) : x_Cal zR_isDigit [xI v] M h Φ :=
  cR_isDigit (kr k (b01_c (by rw [e.1, w8_dg e.2])))
theorem w2_14 {v j i : Int} : x_w M 2 j v 14 i = M 14 i := w_ne (by decide)
theorem w2_98 {v : Int} : x_w M 2 8 v 2 9 = M 2 9 := w_nj (by decide)
theorem w2_9a {v : Int} : x_w M 2 10 v 2 9 = M 2 9 := w_nj (by decide)
theorem w2_8a {v : Int} : x_w M 2 10 v 2 8 = M 2 8 := w_nj (by decide)
theorem w2_58 {v : Int} : x_w M 2 8 v 2 5 = M 2 5 := w_nj (by decide)
theorem w2_59 {v : Int} : x_w M 2 9 v 2 5 = M 2 5 := w_nj (by decide)
theorem w2_5a {v : Int} : x_w M 2 10 v 2 5 = M 2 5 := w_nj (by decide)
theorem w2_a8 {v : Int} : x_w M 2 8 v 2 10 = M 2 10 := w_nj (by decide)
theorem cR_next (F : Fx h) {n x : Nat} {B : Int → Int} {l : Bool} (T : TX B n M) (hx : x ≤ n) (he : M 2 10 = x) (hl : (M 2 8 = 1 ∨ M 2 8 = 2) ↔ l = true) (k : ∀ M', TK B n x l M' → (∀ b j, ¬ (b = 2 ∧ 8 ≤ j ∧ j ≤ 11) → M' b j = M b j) → Φ (.inl none) M' h) : x_Cal zR_nextToken [xA 2] M h Φ := by
  obtain ⟨t1, t2, t3⟩ := T
  refine x_metI kR_nextToken (Nat.le_of_ble_eq_true rfl) (fun t m ls st M' h' c n2 => t = 32 ∧ st = [] ∧ h' = h ∧ c = 0 ∧ n2 = 0 ∧ ls 0 = some (xA 2) ∧ ls 1 = some (xI (b01 (l = true))) ∧ ls 2 = some (xI x) ∧ ∃ p : Nat, x ≤ p ∧ p ≤ n ∧ m = n - p ∧ M' = x_w M 2 9 p ∧ (∀ q : Nat, x ≤ q → q < p → isSp B q = true)) 20 ?_ ?_
  · simp only [wq_g3, wq_gc, wq_g, wq_g1, wq_g2, eR_nextToken, iR_nextToken_0, iR_nextToken_16, iR_nextToken_20, iR_nextToken_21, iR_nextToken_32, iR_nextToken_71, iR_nextToken_98, iR_nextToken_120, iR_nextToken_142, iR_nextToken_161, iR_nextToken_162, iR_nextToken_175, iR_nextToken_191, iR_nextToken_195, iR_nextToken_196, iR_nextToken_218, vR_nextToken, wps, x_cnd, reduceIte, Nat.reduceAdd, Nat.reduceSub, Nat.reduceEqDiff, Nat.reduceLeDiff, Nat.lt_irrefl, Nat.reduceLT, Int.cast_ofNat_Int, wq_c0, wq_c1, true_and, and_true, and_self, true_implies, forall_const, ne_eq, Decidable.not_not, not_true_eq_false, not_false_eq_true, List.map_nil, List.map_cons, List.sum_nil, List.sum_cons, List.length_cons, List.length_nil, Nat.le_refl, Nat.zero_le, reduceCtorEq, true_or, or_true, false_or, or_false, false_and, and_false, false_implies, Nat.zero_add, Nat.add_zero, Int.reduceEq, Int.reduceNe, Int.reduceLT, Int.reduceLE, Int.reduceNeg, Int.reduceToNat, Nat.not_lt_zero, Int.reduceAdd, fxs F]
    have e0 : ∀ v : Int, v = b01 (l = true) → ∃ m, some (xI v) = some (xI (b01 (l = true))) ∧ some (xI (M 2 10)) = some (xI (x : Int)) ∧ ∃ p : Nat, x ≤ p ∧ p ≤ n ∧ m = n - p ∧ x_w M 2 9 (M 2 10) = x_w M 2 9 p ∧ ∀ (q : Nat), x ≤ q → q < p → isSp B q = true := fun v hv => ⟨n - x, by rw [hv], by rw [he], x, Nat.le_refl _, hx, rfl, by rw [he], fun q h1 h2 => by omega⟩
    exact ⟨fun c0 => e0 1 (b01_t (hl.mp (Or.inl c0))).symm, fun c0 => ⟨fun c1 => e0 0 (b01_f (fun q => (hl.mpr q).elim c0 c1)).symm, fun c1 => e0 1 (b01_t (hl.mp (Or.inr c1))).symm⟩⟩
  · rintro t m ls st M' h' c n2 ⟨rfl, rfl, rfl, rfl, rfl, l0, l1, l2, p, q1, q2, q3, rfl, q4⟩
    have e1 : x_w M 2 9 p 2 9 = p := w_eq
    simp only [wq_g3, wq_gc, wq_g, wq_g1, wq_g2, eR_nextToken, iR_nextToken_0, iR_nextToken_16, iR_nextToken_20, iR_nextToken_21, iR_nextToken_32, iR_nextToken_71, iR_nextToken_98, iR_nextToken_120, iR_nextToken_142, iR_nextToken_161, iR_nextToken_162, iR_nextToken_175, iR_nextToken_191, iR_nextToken_195, iR_nextToken_196, iR_nextToken_218, vR_nextToken, wps, x_cnd, reduceIte, Nat.reduceAdd, Nat.reduceSub, Nat.reduceEqDiff, Nat.reduceLeDiff, Nat.lt_irrefl, Nat.reduceLT, Int.cast_ofNat_Int, wq_c0, wq_c1, true_and, and_true, and_self, true_implies, forall_const, ne_eq, Decidable.not_not, not_true_eq_false, not_false_eq_true, List.map_nil, List.map_cons, List.sum_nil, List.sum_cons, List.length_cons, List.length_nil, Nat.le_refl, Nat.zero_le, reduceCtorEq, true_or, or_true, false_or, or_false, false_and, and_false, false_implies, Nat.zero_add, Nat.add_zero, Int.reduceEq, Int.reduceNe, Int.reduceLT, Int.reduceLE, Int.reduceNeg, Int.reduceToNat, Nat.not_lt_zero, Int.reduceAdd, fxs F, l0, l1, l2, e1, w2_14, w2_98, w2_9a, w2_8a, w2_58, w2_59, w2_5a, t1, w_eq]
    refine ⟨fun c0 => ⟨fun c1 => by omega, fun _ => ?_⟩, fun c0 => ⟨by omega, cR_isSpB (t3 p (by omega)) ?_⟩⟩
    · have hts : ts B n x = p := ren_eq q1 q2 q4 (fun q => by omega)
      refine k _ ⟨?_, ?_, ?_, fun h2 => ?_⟩ (fun b j hb => (if_neg (by omega)).trans ((if_neg (by omega)).trans (if_neg (by omega))))
      · unfold kin
        rw [hts, if_pos (by omega)]
        exact w_eq
      · rw [hts, w2_98, w2_9a]
        exact w_eq
      · unfold ten
        rw [hts, if_pos (by omega), w2_a8]
        exact w_eq
      · unfold kin at h2
        rw [hts, if_pos (by omega)] at h2
        omega
    · have hp : p < n := by omega
      obtain ⟨b1, b2⟩ := t3 p hp
      simp only [wq_g3, wq_gc, wq_g, wq_g1, wq_g2, eR_nextToken, iR_nextToken_0, iR_nextToken_16, iR_nextToken_20, iR_nextToken_21, iR_nextToken_32, iR_nextToken_71, iR_nextToken_98, iR_nextToken_120, iR_nextToken_142, iR_nextToken_161, iR_nextToken_162, iR_nextToken_175, iR_nextToken_191, iR_nextToken_195, iR_nextToken_196, iR_nextToken_218, vR_nextToken, wps, x_cnd, reduceIte, Nat.reduceAdd, Nat.reduceSub, Nat.reduceEqDiff, Nat.reduceLeDiff, Nat.lt_irrefl, Nat.reduceLT, Int.cast_ofNat_Int, wq_c0, wq_c1, true_and, and_true, and_self, true_implies, forall_const, ne_eq, Decidable.not_not, not_true_eq_false, not_false_eq_true, List.map_nil, List.map_cons, List.sum_nil, List.sum_cons, List.length_cons, List.length_nil, Nat.le_refl, Nat.zero_le, reduceCtorEq, true_or, or_true, false_or, or_false, false_and, and_false, false_implies, Nat.zero_add, Nat.add_zero, Int.reduceEq, Int.reduceNe, Int.reduceLT, Int.reduceLE, Int.reduceNeg, Int.reduceToNat, Nat.not_lt_zero, Int.reduceAdd, fxs F, l0, l1, l2, e1, w2_14, w2_98, w2_9a, w2_8a, w2_58, w2_59, w2_5a, t1, w_eq, b01_0, b1]
      refine ⟨fun c1 => ⟨fun _ => ⟨by omega, ?_⟩, fun q => absurd (by omega) q⟩, fun c1 => ?_⟩
      · have hts : ts B n x = p := ren_eq q1 q2 q4 (fun _ => bf_of isSp_t c1)
        refine cR_isLtB ⟨rfl, b2⟩ ?_
        simp only [wq_g3, wq_gc, wq_g, wq_g1, wq_g2, eR_nextToken, iR_nextToken_0, iR_nextToken_16, iR_nextToken_20, iR_nextToken_21, iR_nextToken_32, iR_nextToken_71, iR_nextToken_98, iR_nextToken_120, iR_nextToken_142, iR_nextToken_161, iR_nextToken_162, iR_nextToken_175, iR_nextToken_191, iR_nextToken_195, iR_nextToken_196, iR_nextToken_218, vR_nextToken, wps, x_cnd, reduceIte, Nat.reduceAdd, Nat.reduceSub, Nat.reduceEqDiff, Nat.reduceLeDiff, Nat.lt_irrefl, Nat.reduceLT, Int.cast_ofNat_Int, wq_c0, wq_c1, true_and, and_true, and_self, true_implies, forall_const, ne_eq, Decidable.not_not, not_true_eq_false, not_false_eq_true, List.map_nil, List.map_cons, List.sum_nil, List.sum_cons, List.length_cons, List.length_nil, Nat.le_refl, Nat.zero_le, reduceCtorEq, true_or, or_true, false_or, or_false, false_and, and_false, false_implies, Nat.zero_add, Nat.add_zero, Int.reduceEq, Int.reduceNe, Int.reduceLT, Int.reduceLE, Int.reduceNeg, Int.reduceToNat, Nat.not_lt_zero, Int.reduceAdd, fxs F, l0, l1, l2, e1, w2_14, w2_98, w2_9a, w2_8a, w2_58, w2_59, w2_5a, t1, w_eq, b01_0, b1]
        refine ⟨fun c2 => ⟨by omega, ?_⟩, fun c2 => ?_⟩
        · refine cR_isDgB ⟨rfl, b2⟩ ?_
          simp only [wq_g3, wq_gc, wq_g, wq_g1, wq_g2, eR_nextToken, iR_nextToken_0, iR_nextToken_16, iR_nextToken_20, iR_nextToken_21, iR_nextToken_32, iR_nextToken_71, iR_nextToken_98, iR_nextToken_120, iR_nextToken_142, iR_nextToken_161, iR_nextToken_162, iR_nextToken_175, iR_nextToken_191, iR_nextToken_195, iR_nextToken_196, iR_nextToken_218, vR_nextToken, wps, x_cnd, reduceIte, Nat.reduceAdd, Nat.reduceSub, Nat.reduceEqDiff, Nat.reduceLeDiff, Nat.lt_irrefl, Nat.reduceLT, Int.cast_ofNat_Int, wq_c0, wq_c1, true_and, and_true, and_self, true_implies, forall_const, ne_eq, Decidable.not_not, not_true_eq_false, not_false_eq_true, List.map_nil, List.map_cons, List.sum_nil, List.sum_cons, List.length_cons, List.length_nil, Nat.le_refl, Nat.zero_le, reduceCtorEq, true_or, or_true, false_or, or_false, false_and, and_false, false_implies, Nat.zero_add, Nat.add_zero, Int.reduceEq, Int.reduceNe, Int.reduceLT, Int.reduceLE, Int.reduceNeg, Int.reduceToNat, Nat.not_lt_zero, Int.reduceAdd, fxs F, l0, l1, l2, e1, w2_14, w2_98, w2_9a, w2_8a, w2_58, w2_59, w2_5a, t1, w_eq, b01_0, b1]
          have hnl : isLt B p = false := bf_of isLt_t c2
          refine ⟨fun c3 => ⟨by omega, ?_⟩, fun c3 => ?_⟩
          · have hnd : isDg B p = false := bf_of isDg_t c3
            have kk : ∀ v : Int, v = (if B p = 59 then 3 else 4) → Φ (.inl none) (x_w (x_w (x_w (x_w M 2 9 p) 2 10 p) 2 8 v) 2 10 (w32 ((p : Int) + 1))) h' := fun v hv => by
              have hkin : kin B n x l = v := by
                unfold kin
                rw [hts, if_neg (by omega), hnl, hnd, if_neg (by decide), if_neg (by decide), hv]
              refine k _ ⟨?_, ?_, ?_, fun h2 => ?_⟩ (fun b j hb => (if_neg (by omega)).trans ((if_neg (by omega)).trans ((if_neg (by omega)).trans (if_neg (by omega)))))
              · rw [hkin, w2_8a]
                exact w_eq
              · rw [hts, w2_9a, w2_98, w2_9a]
                exact w_eq
              · unfold ten
                rw [hts, if_neg (by omega), hnl, hnd, if_neg (by decide), if_neg (by decide), w_eq, w32_of (by omega)]
                rfl
              · rw [hkin, hv] at h2
                split at h2 <;> omega
            exact ⟨fun c4 => kk 4 (by rw [if_neg (fun q => c4 ((w8_c b2 (by decide)).mpr q))]), fun c4 => kk 3 (by rw [if_pos ((w8_c b2 (by decide)).mp c4)])⟩
          · have hdg : isDg B p = true := isDg_t.mpr c3
            refine cR_takeNumber F (n := n) (a := p) (B := B) (by rw [w2_5a, w2_59]; exact t1) t2 w_eq (by rw [w2_9a]; exact w_eq) q2 (fun i hi => by rw [w2_14, w2_14]; exact (t3 i hi).1) (fun e M2 g1 g2 g3 g4 f10 f8 f11 f => ?_)
            have f9 : M2 2 9 = p := (f 2 9 (by decide)).trans (w2_9a.trans w_eq)
            have hd3 : ∀ q : Nat, p ≤ q → q < e → 48 ≤ B q ∧ B q ≤ 57 := fun q u1 u2 => (w8_dg (t3 q (by omega)).2).mp (g3 q u1 u2)
            have htde : tde B n x = e := by
              unfold tde
              rw [hts]
              exact ren_eq g1 g2 (fun q u1 u2 => isDg_t.mpr (hd3 q u1 u2)) (fun u => bf_of isDg_t (fun q => g4 u ((w8_dg (t3 e u).2).mpr q)))
            have hten : ten B n x = e := by
              unfold ten
              rw [hts, if_neg (by omega), hnl, if_neg (by decide), if_pos hdg, htde]
            have hkin : kin B n x l = if (l = true ∧ p = x) ∨ 4 < e - p then 4 else 2 := by
              unfold kin
              rw [hts, if_neg (by omega), hnl, if_neg (by decide), if_pos hdg, htde]
            have hnum : e - p ≤ 4 → M2 2 11 = tnv B n x := fun h4 => by
              rw [f11 h4]
              unfold tnv
              rw [hts, htde]
              exact nvk_cg (fun q hq => w8_id (by have := hd3 (p + q) (by omega) (by omega); omega))
            have f0 : ∀ b j, ¬ (b = 2 ∧ 8 ≤ j ∧ j ≤ 11) → M2 b j = M b j := fun b j hb => (f b j (by omega)).trans ((if_neg (by omega)).trans (if_neg (by omega)))
            by_cases hL : 4 < e - p
            · rw [if_pos hL] at f8
              simp only [wq_g3, wq_gc, wq_g, wq_g1, wq_g2, eR_nextToken, iR_nextToken_0, iR_nextToken_16, iR_nextToken_20, iR_nextToken_21, iR_nextToken_32, iR_nextToken_71, iR_nextToken_98, iR_nextToken_120, iR_nextToken_142, iR_nextToken_161, iR_nextToken_162, iR_nextToken_175, iR_nextToken_191, iR_nextToken_195, iR_nextToken_196, iR_nextToken_218, vR_nextToken, wps, x_cnd, reduceIte, Nat.reduceAdd, Nat.reduceSub, Nat.reduceEqDiff, Nat.reduceLeDiff, Nat.lt_irrefl, Nat.reduceLT, Int.cast_ofNat_Int, wq_c0, wq_c1, true_and, and_true, and_self, true_implies, forall_const, ne_eq, Decidable.not_not, not_true_eq_false, not_false_eq_true, List.map_nil, List.map_cons, List.sum_nil, List.sum_cons, List.length_cons, List.length_nil, Nat.le_refl, Nat.zero_le, reduceCtorEq, true_or, or_true, false_or, or_false, false_and, and_false, false_implies, Nat.zero_add, Nat.add_zero, Int.reduceEq, Int.reduceNe, Int.reduceLT, Int.reduceLE, Int.reduceNeg, Int.reduceToNat, Nat.not_lt_zero, Int.reduceAdd, fxs F, l0, l1, l2, f8, f9, f10]
              exact k M2 ⟨by rw [hkin, if_pos (Or.inr hL), f8], by rw [hts, f9], by rw [hten, f10], fun h2 => by rw [hkin, if_pos (Or.inr hL)] at h2; omega⟩ f0
            · rw [if_neg hL] at f8
              simp only [wq_g3, wq_gc, wq_g, wq_g1, wq_g2, eR_nextToken, iR_nextToken_0, iR_nextToken_16, iR_nextToken_20, iR_nextToken_21, iR_nextToken_32, iR_nextToken_71, iR_nextToken_98, iR_nextToken_120, iR_nextToken_142, iR_nextToken_161, iR_nextToken_162, iR_nextToken_175, iR_nextToken_191, iR_nextToken_195, iR_nextToken_196, iR_nextToken_218, vR_nextToken, wps, x_cnd, reduceIte, Nat.reduceAdd, Nat.reduceSub, Nat.reduceEqDiff, Nat.reduceLeDiff, Nat.lt_irrefl, Nat.reduceLT, Int.cast_ofNat_Int, wq_c0, wq_c1, true_and, and_true, and_self, true_implies, forall_const, ne_eq, Decidable.not_not, not_true_eq_false, not_false_eq_true, List.map_nil, List.map_cons, List.sum_nil, List.sum_cons, List.length_cons, List.length_nil, Nat.le_refl, Nat.zero_le, reduceCtorEq, true_or, or_true, false_or, or_false, false_and, and_false, false_implies, Nat.zero_add, Nat.add_zero, Int.reduceEq, Int.reduceNe, Int.reduceLT, Int.reduceLE, Int.reduceNeg, Int.reduceToNat, Nat.not_lt_zero, Int.reduceAdd, fxs F, l0, l1, l2, f8, f9, f10, b01_0]
              refine ⟨fun c4 => k M2 ⟨by rw [hkin, if_neg (fun q => q.elim (fun q => c4 q.1) hL), f8], by rw [hts, f9], by rw [hten, f10], fun h2 => hnum (by omega)⟩ f0, fun c4 => ⟨fun c5 => k M2 ⟨by rw [hkin, if_neg (fun q => q.elim (fun q => c5 (by omega)) hL), f8], by rw [hts, f9], by rw [hten, f10], fun h2 => hnum (by omega)⟩ f0, fun c5 => k _ ⟨by rw [hkin, if_pos (Or.inl ⟨by simpa using c4, by omega⟩)]; exact w_eq, by rw [hts, w2_98, f9], by rw [hten, w2_a8, f10], fun h2 => by rw [hkin, if_pos (Or.inl ⟨by simpa using c4, by omega⟩)] at h2; omega⟩ (fun b j hb => (if_neg (by omega)).trans (f0 b j hb))⟩⟩
        · have hlt : isLt B p = true := isLt_t.mpr c2
          refine cR_takeWord F (n := n) (a := p) (B := B) (by rw [w2_5a, w2_59]; exact t1) t2 w_eq q2 (fun i hi => by rw [w2_14, w2_14]; exact (t3 i hi).1) (fun e g1 g2 g3 g4 => ?_)
          have htwe : twe B n x = e := by
            unfold twe
            rw [hts]
            exact ren_eq g1 g2 (fun q u1 u2 => isLt_t.mpr ((w8_lt (t3 q (by omega)).2).mp (g3 q u1 u2))) (fun u => bf_of isLt_t (fun q => g4 u ((w8_lt (t3 e u).2).mpr q)))
          have hten : ten B n x = e := by
            unfold ten
            rw [hts, if_neg (by omega), if_pos hlt, htwe]
          have hkin : kin B n x l = if l = true ∧ p = x then 4 else 1 := by
            unfold kin
            rw [hts, if_neg (by omega), if_pos hlt]
          generalize hM2 : x_w (x_w (x_w (x_w M 2 9 p) 2 10 p) 2 8 1) 2 10 e = M2
          have f8 : M2 2 8 = 1 := by rw [← hM2, w2_8a]; exact w_eq
          have f9 : M2 2 9 = p := by rw [← hM2, w2_9a, w2_98, w2_9a]; exact w_eq
          have f10 : M2 2 10 = e := by rw [← hM2]; exact w_eq
          have f0 : ∀ b j, ¬ (b = 2 ∧ 8 ≤ j ∧ j ≤ 11) → M2 b j = M b j := fun b j hb => by
            rw [← hM2]
            exact (if_neg (by omega)).trans ((if_neg (by omega)).trans ((if_neg (by omega)).trans (if_neg (by omega))))
          simp only [wq_g3, wq_gc, wq_g, wq_g1, wq_g2, eR_nextToken, iR_nextToken_0, iR_nextToken_16, iR_nextToken_20, iR_nextToken_21, iR_nextToken_32, iR_nextToken_71, iR_nextToken_98, iR_nextToken_120, iR_nextToken_142, iR_nextToken_161, iR_nextToken_162, iR_nextToken_175, iR_nextToken_191, iR_nextToken_195, iR_nextToken_196, iR_nextToken_218, vR_nextToken, wps, x_cnd, reduceIte, Nat.reduceAdd, Nat.reduceSub, Nat.reduceEqDiff, Nat.reduceLeDiff, Nat.lt_irrefl, Nat.reduceLT, Int.cast_ofNat_Int, wq_c0, wq_c1, true_and, and_true, and_self, true_implies, forall_const, ne_eq, Decidable.not_not, not_true_eq_false, not_false_eq_true, List.map_nil, List.map_cons, List.sum_nil, List.sum_cons, List.length_cons, List.length_nil, Nat.le_refl, Nat.zero_le, reduceCtorEq, true_or, or_true, false_or, or_false, false_and, and_false, false_implies, Nat.zero_add, Nat.add_zero, Int.reduceEq, Int.reduceNe, Int.reduceLT, Int.reduceLE, Int.reduceNeg, Int.reduceToNat, Nat.not_lt_zero, Int.reduceAdd, fxs F, l0, l1, l2, f8, f9, f10, b01_0]
          refine ⟨fun c4 => k M2 ⟨by rw [hkin, if_neg (fun q => c4 q.1), f8], by rw [hts, f9], by rw [hten, f10], fun h2 => by rw [hkin, if_neg (fun q => c4 q.1)] at h2; omega⟩ f0, fun c4 => ⟨fun c5 => k M2 ⟨by rw [hkin, if_neg (fun q => c5 (by omega)), f8], by rw [hts, f9], by rw [hten, f10], fun h2 => by rw [hkin, if_neg (fun q => c5 (by omega))] at h2; omega⟩ f0, fun c5 => k _ ⟨by rw [hkin, if_pos ⟨by simpa using c4, by omega⟩]; exact w_eq, by rw [hts, w2_98, f9], by rw [hten, w2_a8, f10], fun h2 => by rw [hkin, if_pos ⟨by simpa using c4, by omega⟩] at h2; omega⟩ (fun b j hb => (if_neg (by omega)).trans (f0 b j hb))⟩⟩
      · refine ⟨n - (p + 1), by omega, p + 1, by omega, by omega, rfl, ?_, fun q h1 h2 => ?_⟩
        · rw [w32_of (by omega)]
          funext b j
          unfold x_w
          by_cases hc : b = 2 ∧ j = 9
          · rw [if_pos hc, if_pos hc]
            rfl
          · rw [if_neg hc, if_neg hc, if_neg hc]
        · by_cases hq : q = p
          · subst hq
            exact isSp_t.mpr c1
          · exact q4 q h1 (by omega)
end READ
