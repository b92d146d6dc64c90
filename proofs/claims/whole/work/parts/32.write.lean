/-! PartWriter -/
theorem x_div_of {a b : Int} (h : (0 ≤ a ∧ a < 2147483648) ∧ 0 < b ∧ b < 2147483648) : x_div a b = a / b := by
  obtain ⟨h1, h2⟩ := h
  have hb := Int.ediv_le_self b h1.1
  have hc := Int.ediv_nonneg h1.1 (show 0 ≤ b by omega)
  unfold x_div
  rw [Int32.toInt_div, i32_to ⟨by omega, by omega⟩, i32_to ⟨by omega, by omega⟩, Int.tdiv_eq_ediv_of_nonneg h1.1]
  have h3 : a / b ≤ a := Int.ediv_le_self b h1.1
  exact w32_of (x := a / b) (by omega)
theorem x_rem_of {a b : Int} (h : (0 ≤ a ∧ a < 2147483648) ∧ 0 < b ∧ b < 2147483648) : x_rem a b = a % b := by
  have hd := x_div_of h
  obtain ⟨h1, h2⟩ := h
  have h3 : a / b ≤ a := Int.ediv_le_self b h1.1
  have hc := Int.ediv_nonneg h1.1 (show 0 ≤ b by omega)
  have h4 := Int.mul_ediv_add_emod a b
  have h5 := Int.emod_nonneg a (show b ≠ 0 by omega)
  have h6 := Int.emod_lt_of_pos a (show 0 < b by omega)
  have h7 : a / b * b = b * (a / b) := Int.mul_comm _ _
  unfold x_div at hd
  unfold x_rem
  rw [Int32.toInt_sub, Int32.toInt_mul, hd, i32_to ⟨by omega, by omega⟩, i32_to ⟨by omega, by omega⟩]
  have e1 : (a / b * b).bmod (2 ^ 32) = a / b * b := w32_of (x := a / b * b) (by omega)
  rw [e1]
  have e2 : (a - a / b * b).bmod (2 ^ 32) = a - a / b * b := w32_of (x := a - a / b * b) (by omega)
  rw [e2]
  omega
theorem w8_of {x : Int} (h : -128 ≤ x ∧ x < 128) : w8 x = x := by
  unfold w8
  exact Int.bmod_eq_of_le (by omega) (by omega)
/-- the output holds L, all else is as in M0 -/
def OWF (M0 : xM) (L : List Int) (M : xM) : Prop := M 39 1 = (L.length : Nat) ∧ (∀ i : Nat, i < L.length → M 40 i = L.getD i 0) ∧ ∀ a j, ¬ ((a = 39 ∧ j = 1) ∨ a = 40) → M a j = M0 a j
def dg (v : Int) : List Int := (if 100 ≤ v then [48 + v / 100] else []) ++ ((if 10 ≤ v then [48 + v / 10 % 10] else []) ++ [48 + v % 10])
def lbl (l : Int) : List Int := dg (l / 1000) ++ ((if l % 1000 = 0 then [] else [96 + min (l % 1000) 26]) ++ [32])
def ltr (l : Int) : List Int := if l = 0 then [] else if l ≤ 26 then [64 + l, 32] else [38 + l, 38 + l, 32]
def wd (i : Nat) : List Int := (List.range (x_sl i).toNat).map (fun k : Nat => x_ch i k)
def cw (c n : Int) : List Int := if c = 1 then wd 9 else if c = 2 then wd 10 else wd 11 ++ dg n
def line (S : xSr) (part : Int) (k : Nat) : List Int := ltr (lt S (pp S k)) ++ (lbl (lab S (pp S k).toNat) ++ (cw (sC S part (pp S k)) ((nx (stt S part) k (pN S).toNat : Nat) - k) ++ [10]))
def lines (S : xSr) (part : Int) : Nat → List Int
  | 0 => []
  | k + 1 => lines S part k ++ if stt S part k = true then line S part k else []
theorem lines_s (S : xSr) (part : Int) (k : Nat) : lines S part (k + 1) = lines S part k ++ if stt S part k = true then line S part k else [] := rfl
theorem dg_len (v : Int) : (dg v).length ≤ 3 := by
  unfold dg
  split <;> split <;> simp
theorem lbl_len (l : Int) : (lbl l).length ≤ 5 := by
  have := dg_len (l / 1000)
  unfold lbl
  split <;> simp <;> omega
theorem ltr_len (l : Int) : (ltr l).length ≤ 3 := by
  unfold ltr
  split
  · simp
  · split <;> simp
theorem wd_len : (wd 9).length = 4 ∧ (wd 10).length = 3 ∧ (wd 11).length = 5 := by decide +kernel
theorem cw_len (c n : Int) : (cw c n).length ≤ 8 := by
  have := dg_len n
  obtain ⟨h1, h2, h3⟩ := wd_len
  unfold cw
  split
  · omega
  · split
    · omega
    · rw [List.length_append]; omega
theorem line_len (S : xSr) (part : Int) (k : Nat) : (line S part k).length ≤ 17 := by
  have h1 := ltr_len (lt S (pp S k))
  have h2 := lbl_len (lab S (pp S k).toNat)
  have h3 := cw_len (sC S part (pp S k)) ((nx (stt S part) k (pN S).toNat : Nat) - k)
  unfold line
  rw [List.length_append, List.length_append, List.length_append]
  simp only [List.length_cons, List.length_nil]
  omega
theorem lines_len (S : xSr) (part : Int) : ∀ k : Nat, (lines S part k).length ≤ 17 * k
  | 0 => Nat.le_refl _
  | k + 1 => by
    have h1 := lines_len S part k
    have h2 := line_len S part k
    rw [lines_s, List.length_append]
    split
    · omega
    · simp only [List.length_nil]; omega
section WM
variable {M M0 : xM} {h : xH} {Φ : xO → xM → xH → Prop} {S : xSr} {nid : Int} {L : List Int}
set_option maxHeartbeats 1000000
theorem OWF.push {v : Int} (O : OWF M0 L M) : OWF M0 (L ++ [v]) (x_w (x_w M 40 (L.length : Nat) v) 39 1 ((L.length : Nat) + 1)) := by
  obtain ⟨o1, o2, o3⟩ := O
  refine ⟨?_, fun i hi => ?_, fun a j ha => ?_⟩
  · rw [w_eq, List.length_append]
    simp
  · rw [List.length_append] at hi
    simp only [List.length_cons, List.length_nil] at hi
    rw [w_ne (by decide)]
    by_cases h1 : i = L.length
    · subst h1
      rw [w_eq]
      simp
    · rw [w_nj (by omega), o2 i (by omega), List.getD_eq_getElem?_getD, List.getD_eq_getElem?_getD, List.getElem?_append_left (by omega)]
  · rw [← o3 a j ha]
    unfold x_w
    rw [if_neg (by omega), if_neg (by omega)]
theorem cW_writeByte (F : Fx h) (O : OWF M0 L M) {v : Int} (hl : L.length < 2550) (hv : 0 ≤ v ∧ v < 128) (k : ∀ M', OWF M0 (L ++ [v]) M' → Φ (.inl none) M' h) : x_Cal zW_writeByte [xA 39, xI v] M h Φ := by
  refine x_met0 kW_writeByte (Nat.le_of_ble_eq_true rfl) ?_
  simp only [wq_g3, wq_gc, wq_g, wq_g1, wq_g2, eW_writeByte, iW_writeByte_0, iW_writeByte_33, vW_writeByte, wps, x_cnd, reduceIte, Nat.reduceAdd, Nat.reduceSub, Nat.reduceEqDiff, Nat.reduceLeDiff, Nat.lt_irrefl, Nat.reduceLT, Int.cast_ofNat_Int, wq_c0, wq_c1, true_and, and_true, and_self, true_implies, forall_const, ne_eq, Decidable.not_not, not_true_eq_false, not_false_eq_true, List.map_nil, List.map_cons, List.sum_nil, List.sum_cons, List.length_cons, List.length_nil, Nat.le_refl, Nat.zero_le, reduceCtorEq, true_or, or_true, false_or, or_false, false_and, and_false, false_implies, Nat.zero_add, Nat.add_zero, Int.reduceEq, Int.reduceNe, Int.reduceLT, Int.reduceLE, Int.reduceNeg, Int.reduceToNat, Nat.not_lt_zero, fxs F, O.1, w8_of (show -128 ≤ v ∧ v < 128 by omega)]
  refine ⟨fun c0 => by omega, fun c0 => ⟨by omega, ?_⟩⟩
  rw [w_ne (by decide), O.1]
  simp (disch := omega) only [w32_of]
  exact k _ O.push
theorem cW_writeNumber (F : Fx h) (O : OWF M0 L M) {v : Int} (hl : L.length + 3 ≤ 2550) (hv : 0 ≤ v ∧ v < 1000) (k : ∀ M', OWF M0 (L ++ dg v) M' → Φ (.inl none) M' h) : x_Cal zW_writeNumber [xA 39, xI v] M h Φ := by
  have d1 : x_div v 100 = v / 100 := x_div_of (by omega)
  have d2 : x_div v 10 = v / 10 := x_div_of (by omega)
  have d3 : x_rem (v / 10) 10 = v / 10 % 10 := x_rem_of (by omega)
  have d4 : x_rem v 10 = v % 10 := x_rem_of (by omega)
  refine x_met0 kW_writeNumber (Nat.le_of_ble_eq_true rfl) ?_
  by_cases h1 : 100 ≤ v
  · have h2 : ¬ v < 100 := by omega
    have h3 : ¬ v < 10 := by omega
    simp only [wq_g3, wq_gc, wq_g, wq_g1, wq_g2, eW_writeNumber, iW_writeNumber_0, iW_writeNumber_17, iW_writeNumber_37, vW_writeNumber, wps, x_cnd, reduceIte, Nat.reduceAdd, Nat.reduceSub, Nat.reduceEqDiff, Nat.reduceLeDiff, Nat.lt_irrefl, Nat.reduceLT, Int.cast_ofNat_Int, wq_c0, wq_c1, true_and, and_true, and_self, true_implies, forall_const, ne_eq, Decidable.not_not, not_true_eq_false, not_false_eq_true, List.map_nil, List.map_cons, List.sum_nil, List.sum_cons, List.length_cons, List.length_nil, Nat.le_refl, Nat.zero_le, reduceCtorEq, true_or, or_true, false_or, or_false, false_and, and_false, false_implies, Nat.zero_add, Nat.add_zero, Int.reduceEq, Int.reduceNe, Int.reduceLT, Int.reduceLE, Int.reduceNeg, Int.reduceToNat, Nat.not_lt_zero, fxs F, d1, d2, d3, d4, h2, h3]
    simp (disch := omega) only [w32_of]
    refine cW_writeByte F O (by omega) (by omega) (fun M1 O1 => ?_)
    simp only [wq_g3, wq_gc, wq_g, wq_g1, wq_g2, eW_writeNumber, iW_writeNumber_0, iW_writeNumber_17, iW_writeNumber_37, vW_writeNumber, wps, x_cnd, reduceIte, Nat.reduceAdd, Nat.reduceSub, Nat.reduceEqDiff, Nat.reduceLeDiff, Nat.lt_irrefl, Nat.reduceLT, Int.cast_ofNat_Int, wq_c0, wq_c1, true_and, and_true, and_self, true_implies, forall_const, ne_eq, Decidable.not_not, not_true_eq_false, not_false_eq_true, List.map_nil, List.map_cons, List.sum_nil, List.sum_cons, List.length_cons, List.length_nil, Nat.le_refl, Nat.zero_le, reduceCtorEq, true_or, or_true, false_or, or_false, false_and, and_false, false_implies, Nat.zero_add, Nat.add_zero, Int.reduceEq, Int.reduceNe, Int.reduceLT, Int.reduceLE, Int.reduceNeg, Int.reduceToNat, Nat.not_lt_zero, fxs F, d1, d2, d3, d4, h3]
    simp (disch := omega) only [w32_of]
    refine cW_writeByte F O1 (by rw [List.length_append]; simp only [List.length_cons, List.length_nil]; omega) (by omega) (fun M2 O2 => ?_)
    simp only [wq_g3, wq_gc, wq_g, wq_g1, wq_g2, eW_writeNumber, iW_writeNumber_0, iW_writeNumber_17, iW_writeNumber_37, vW_writeNumber, wps, x_cnd, reduceIte, Nat.reduceAdd, Nat.reduceSub, Nat.reduceEqDiff, Nat.reduceLeDiff, Nat.lt_irrefl, Nat.reduceLT, Int.cast_ofNat_Int, wq_c0, wq_c1, true_and, and_true, and_self, true_implies, forall_const, ne_eq, Decidable.not_not, not_true_eq_false, not_false_eq_true, List.map_nil, List.map_cons, List.sum_nil, List.sum_cons, List.length_cons, List.length_nil, Nat.le_refl, Nat.zero_le, reduceCtorEq, true_or, or_true, false_or, or_false, false_and, and_false, false_implies, Nat.zero_add, Nat.add_zero, Int.reduceEq, Int.reduceNe, Int.reduceLT, Int.reduceLE, Int.reduceNeg, Int.reduceToNat, Nat.not_lt_zero, fxs F, d1, d2, d3, d4]
    simp (disch := omega) only [w32_of]
    refine cW_writeByte F O2 (by rw [List.length_append, List.length_append]; simp only [List.length_cons, List.length_nil]; omega) (by omega) (fun M3 O3 => ?_)
    simp only [wq_g3, wq_gc, wq_g, wq_g1, wq_g2, eW_writeNumber, iW_writeNumber_0, iW_writeNumber_17, iW_writeNumber_37, vW_writeNumber, wps, x_cnd, reduceIte, Nat.reduceAdd, Nat.reduceSub, Nat.reduceEqDiff, Nat.reduceLeDiff, Nat.lt_irrefl, Nat.reduceLT, Int.cast_ofNat_Int, wq_c0, wq_c1, true_and, and_true, and_self, true_implies, forall_const, ne_eq, Decidable.not_not, not_true_eq_false, not_false_eq_true, List.map_nil, List.map_cons, List.sum_nil, List.sum_cons, List.length_cons, List.length_nil, Nat.le_refl, Nat.zero_le, reduceCtorEq, true_or, or_true, false_or, or_false, false_and, and_false, false_implies, Nat.zero_add, Nat.add_zero, Int.reduceEq, Int.reduceNe, Int.reduceLT, Int.reduceLE, Int.reduceNeg, Int.reduceToNat, Nat.not_lt_zero, fxs F]
    refine k M3 ?_
    unfold dg
    rw [if_pos h1, if_pos (by omega), ← List.append_assoc, ← List.append_assoc]
    exact O3
  · by_cases h2 : 10 ≤ v
    · have h3 : v < 100 := by omega
      have h4 : ¬ v < 10 := by omega
      simp only [wq_g3, wq_gc, wq_g, wq_g1, wq_g2, eW_writeNumber, iW_writeNumber_0, iW_writeNumber_17, iW_writeNumber_37, vW_writeNumber, wps, x_cnd, reduceIte, Nat.reduceAdd, Nat.reduceSub, Nat.reduceEqDiff, Nat.reduceLeDiff, Nat.lt_irrefl, Nat.reduceLT, Int.cast_ofNat_Int, wq_c0, wq_c1, true_and, and_true, and_self, true_implies, forall_const, ne_eq, Decidable.not_not, not_true_eq_false, not_false_eq_true, List.map_nil, List.map_cons, List.sum_nil, List.sum_cons, List.length_cons, List.length_nil, Nat.le_refl, Nat.zero_le, reduceCtorEq, true_or, or_true, false_or, or_false, false_and, and_false, false_implies, Nat.zero_add, Nat.add_zero, Int.reduceEq, Int.reduceNe, Int.reduceLT, Int.reduceLE, Int.reduceNeg, Int.reduceToNat, Nat.not_lt_zero, fxs F, d1, d2, d3, d4, h3, h4]
      simp (disch := omega) only [w32_of]
      refine cW_writeByte F O (by omega) (by omega) (fun M1 O1 => ?_)
      simp only [wq_g3, wq_gc, wq_g, wq_g1, wq_g2, eW_writeNumber, iW_writeNumber_0, iW_writeNumber_17, iW_writeNumber_37, vW_writeNumber, wps, x_cnd, reduceIte, Nat.reduceAdd, Nat.reduceSub, Nat.reduceEqDiff, Nat.reduceLeDiff, Nat.lt_irrefl, Nat.reduceLT, Int.cast_ofNat_Int, wq_c0, wq_c1, true_and, and_true, and_self, true_implies, forall_const, ne_eq, Decidable.not_not, not_true_eq_false, not_false_eq_true, List.map_nil, List.map_cons, List.sum_nil, List.sum_cons, List.length_cons, List.length_nil, Nat.le_refl, Nat.zero_le, reduceCtorEq, true_or, or_true, false_or, or_false, false_and, and_false, false_implies, Nat.zero_add, Nat.add_zero, Int.reduceEq, Int.reduceNe, Int.reduceLT, Int.reduceLE, Int.reduceNeg, Int.reduceToNat, Nat.not_lt_zero, fxs F, d1, d2, d3, d4]
      simp (disch := omega) only [w32_of]
      refine cW_writeByte F O1 (by rw [List.length_append]; simp only [List.length_cons, List.length_nil]; omega) (by omega) (fun M2 O2 => ?_)
      simp only [wq_g3, wq_gc, wq_g, wq_g1, wq_g2, eW_writeNumber, iW_writeNumber_0, iW_writeNumber_17, iW_writeNumber_37, vW_writeNumber, wps, x_cnd, reduceIte, Nat.reduceAdd, Nat.reduceSub, Nat.reduceEqDiff, Nat.reduceLeDiff, Nat.lt_irrefl, Nat.reduceLT, Int.cast_ofNat_Int, wq_c0, wq_c1, true_and, and_true, and_self, true_implies, forall_const, ne_eq, Decidable.not_not, not_true_eq_false, not_false_eq_true, List.map_nil, List.map_cons, List.sum_nil, List.sum_cons, List.length_cons, List.length_nil, Nat.le_refl, Nat.zero_le, reduceCtorEq, true_or, or_true, false_or, or_false, false_and, and_false, false_implies, Nat.zero_add, Nat.add_zero, Int.reduceEq, Int.reduceNe, Int.reduceLT, Int.reduceLE, Int.reduceNeg, Int.reduceToNat, Nat.not_lt_zero, fxs F]
      refine k M2 ?_
      unfold dg
      rw [if_neg h1, if_pos h2, List.nil_append, ← List.append_assoc]
      exact O2
    · have h3 : v < 100 := by omega
      have h4 : v < 10 := by omega
      simp only [wq_g3, wq_gc, wq_g, wq_g1, wq_g2, eW_writeNumber, iW_writeNumber_0, iW_writeNumber_17, iW_writeNumber_37, vW_writeNumber, wps, x_cnd, reduceIte, Nat.reduceAdd, Nat.reduceSub, Nat.reduceEqDiff, Nat.reduceLeDiff, Nat.lt_irrefl, Nat.reduceLT, Int.cast_ofNat_Int, wq_c0, wq_c1, true_and, and_true, and_self, true_implies, forall_const, ne_eq, Decidable.not_not, not_true_eq_false, not_false_eq_true, List.map_nil, List.map_cons, List.sum_nil, List.sum_cons, List.length_cons, List.length_nil, Nat.le_refl, Nat.zero_le, reduceCtorEq, true_or, or_true, false_or, or_false, false_and, and_false, false_implies, Nat.zero_add, Nat.add_zero, Int.reduceEq, Int.reduceNe, Int.reduceLT, Int.reduceLE, Int.reduceNeg, Int.reduceToNat, Nat.not_lt_zero, fxs F, d1, d2, d3, d4, h3, h4]
      simp (disch := omega) only [w32_of]
      refine cW_writeByte F O (by omega) (by omega) (fun M1 O1 => ?_)
      simp only [wq_g3, wq_gc, wq_g, wq_g1, wq_g2, eW_writeNumber, iW_writeNumber_0, iW_writeNumber_17, iW_writeNumber_37, vW_writeNumber, wps, x_cnd, reduceIte, Nat.reduceAdd, Nat.reduceSub, Nat.reduceEqDiff, Nat.reduceLeDiff, Nat.lt_irrefl, Nat.reduceLT, Int.cast_ofNat_Int, wq_c0, wq_c1, true_and, and_true, and_self, true_implies, forall_const, ne_eq, Decidable.not_not, not_true_eq_false, not_false_eq_true, List.map_nil, List.map_cons, List.sum_nil, List.sum_cons, List.length_cons, List.length_nil, Nat.le_refl, Nat.zero_le, reduceCtorEq, true_or, or_true, false_or, or_false, false_and, and_false, false_implies, Nat.zero_add, Nat.add_zero, Int.reduceEq, Int.reduceNe, Int.reduceLT, Int.reduceLE, Int.reduceNeg, Int.reduceToNat, Nat.not_lt_zero, fxs F]
      refine k M1 ?_
      unfold dg
      rw [if_neg h1, if_neg h2, List.nil_append, List.nil_append]
      exact O1
theorem cW_writeLabel (F : Fx h) (O : OWF M0 L M) {l : Int} (hl : L.length + 5 ≤ 2550) (hv : 0 ≤ l ∧ l ≤ 150150) (k : ∀ M', OWF M0 (L ++ lbl l) M' → Φ (.inl none) M' h) : x_Cal zW_writeLabel [xA 39, xI l] M h Φ := by
  have d1 : x_div l 1000 = l / 1000 := x_div_of (by omega)
  have d2 : x_rem l 1000 = l % 1000 := x_rem_of (by omega)
  have hd := dg_len (l / 1000)
  refine x_met0 kW_writeLabel (Nat.le_of_ble_eq_true rfl) ?_
  simp only [wq_g3, wq_gc, wq_g, wq_g1, wq_g2, eW_writeLabel, iW_writeLabel_0, iW_writeLabel_34, vW_writeLabel, wps, x_cnd, reduceIte, Nat.reduceAdd, Nat.reduceSub, Nat.reduceEqDiff, Nat.reduceLeDiff, Nat.lt_irrefl, Nat.reduceLT, Int.cast_ofNat_Int, wq_c0, wq_c1, true_and, and_true, and_self, true_implies, forall_const, ne_eq, Decidable.not_not, not_true_eq_false, not_false_eq_true, List.map_nil, List.map_cons, List.sum_nil, List.sum_cons, List.length_cons, List.length_nil, Nat.le_refl, Nat.zero_le, reduceCtorEq, true_or, or_true, false_or, or_false, false_and, and_false, false_implies, Nat.zero_add, Nat.add_zero, Int.reduceEq, Int.reduceNe, Int.reduceLT, Int.reduceLE, Int.reduceNeg, Int.reduceToNat, Nat.not_lt_zero, fxs F, d1, d2]
  refine cW_writeNumber F O (by omega) (by omega) (fun M1 O1 => ?_)
  by_cases h1 : l % 1000 = 0
  · simp only [wq_g3, wq_gc, wq_g, wq_g1, wq_g2, eW_writeLabel, iW_writeLabel_0, iW_writeLabel_34, vW_writeLabel, wps, x_cnd, reduceIte, Nat.reduceAdd, Nat.reduceSub, Nat.reduceEqDiff, Nat.reduceLeDiff, Nat.lt_irrefl, Nat.reduceLT, Int.cast_ofNat_Int, wq_c0, wq_c1, true_and, and_true, and_self, true_implies, forall_const, ne_eq, Decidable.not_not, not_true_eq_false, not_false_eq_true, List.map_nil, List.map_cons, List.sum_nil, List.sum_cons, List.length_cons, List.length_nil, Nat.le_refl, Nat.zero_le, reduceCtorEq, true_or, or_true, false_or, or_false, false_and, and_false, false_implies, Nat.zero_add, Nat.add_zero, Int.reduceEq, Int.reduceNe, Int.reduceLT, Int.reduceLE, Int.reduceNeg, Int.reduceToNat, Nat.not_lt_zero, fxs F, h1]
    refine cW_writeByte F O1 (by rw [List.length_append]; omega) (by omega) (fun M2 O2 => ?_)
    simp only [wq_g3, wq_gc, wq_g, wq_g1, wq_g2, eW_writeLabel, iW_writeLabel_0, iW_writeLabel_34, vW_writeLabel, wps, x_cnd, reduceIte, Nat.reduceAdd, Nat.reduceSub, Nat.reduceEqDiff, Nat.reduceLeDiff, Nat.lt_irrefl, Nat.reduceLT, Int.cast_ofNat_Int, wq_c0, wq_c1, true_and, and_true, and_self, true_implies, forall_const, ne_eq, Decidable.not_not, not_true_eq_false, not_false_eq_true, List.map_nil, List.map_cons, List.sum_nil, List.sum_cons, List.length_cons, List.length_nil, Nat.le_refl, Nat.zero_le, reduceCtorEq, true_or, or_true, false_or, or_false, false_and, and_false, false_implies, Nat.zero_add, Nat.add_zero, Int.reduceEq, Int.reduceNe, Int.reduceLT, Int.reduceLE, Int.reduceNeg, Int.reduceToNat, Nat.not_lt_zero, fxs F]
    refine k M2 ?_
    unfold lbl
    rw [if_pos h1, List.nil_append, ← List.append_assoc]
    exact O2
  · have h2 : 0 ≤ min (l % 1000) 26 ∧ min (l % 1000) 26 ≤ 26 := by omega
    simp only [wq_g3, wq_gc, wq_g, wq_g1, wq_g2, eW_writeLabel, iW_writeLabel_0, iW_writeLabel_34, vW_writeLabel, wps, x_cnd, reduceIte, Nat.reduceAdd, Nat.reduceSub, Nat.reduceEqDiff, Nat.reduceLeDiff, Nat.lt_irrefl, Nat.reduceLT, Int.cast_ofNat_Int, wq_c0, wq_c1, true_and, and_true, and_self, true_implies, forall_const, ne_eq, Decidable.not_not, not_true_eq_false, not_false_eq_true, List.map_nil, List.map_cons, List.sum_nil, List.sum_cons, List.length_cons, List.length_nil, Nat.le_refl, Nat.zero_le, reduceCtorEq, true_or, or_true, false_or, or_false, false_and, and_false, false_implies, Nat.zero_add, Nat.add_zero, Int.reduceEq, Int.reduceNe, Int.reduceLT, Int.reduceLE, Int.reduceNeg, Int.reduceToNat, Nat.not_lt_zero, fxs F, h1]
    rw [w32_of (x := 97 + min (l % 1000) 26) (by omega), w32_of (x := 97 + min (l % 1000) 26 - 1) (by omega), show 97 + min (l % 1000) 26 - 1 = 96 + min (l % 1000) 26 by omega]
    refine cW_writeByte F O1 (by rw [List.length_append]; omega) (by omega) (fun M2 O2 => ?_)
    simp only [wq_g3, wq_gc, wq_g, wq_g1, wq_g2, eW_writeLabel, iW_writeLabel_0, iW_writeLabel_34, vW_writeLabel, wps, x_cnd, reduceIte, Nat.reduceAdd, Nat.reduceSub, Nat.reduceEqDiff, Nat.reduceLeDiff, Nat.lt_irrefl, Nat.reduceLT, Int.cast_ofNat_Int, wq_c0, wq_c1, true_and, and_true, and_self, true_implies, forall_const, ne_eq, Decidable.not_not, not_true_eq_false, not_false_eq_true, List.map_nil, List.map_cons, List.sum_nil, List.sum_cons, List.length_cons, List.length_nil, Nat.le_refl, Nat.zero_le, reduceCtorEq, true_or, or_true, false_or, or_false, false_and, and_false, false_implies, Nat.zero_add, Nat.add_zero, Int.reduceEq, Int.reduceNe, Int.reduceLT, Int.reduceLE, Int.reduceNeg, Int.reduceToNat, Nat.not_lt_zero, fxs F]
    refine cW_writeByte F O2 (by rw [List.length_append, List.length_append]; simp only [List.length_cons, List.length_nil]; omega) (by omega) (fun M3 O3 => ?_)
    simp only [wq_g3, wq_gc, wq_g, wq_g1, wq_g2, eW_writeLabel, iW_writeLabel_0, iW_writeLabel_34, vW_writeLabel, wps, x_cnd, reduceIte, Nat.reduceAdd, Nat.reduceSub, Nat.reduceEqDiff, Nat.reduceLeDiff, Nat.lt_irrefl, Nat.reduceLT, Int.cast_ofNat_Int, wq_c0, wq_c1, true_and, and_true, and_self, true_implies, forall_const, ne_eq, Decidable.not_not, not_true_eq_false, not_false_eq_true, List.map_nil, List.map_cons, List.sum_nil, List.sum_cons, List.length_cons, List.length_nil, Nat.le_refl, Nat.zero_le, reduceCtorEq, true_or, or_true, false_or, or_false, false_and, and_false, false_implies, Nat.zero_add, Nat.add_zero, Int.reduceEq, Int.reduceNe, Int.reduceLT, Int.reduceLE, Int.reduceNeg, Int.reduceToNat, Nat.not_lt_zero, fxs F]
    refine k M3 ?_
    unfold lbl
    rw [if_neg h1, ← List.append_assoc, ← List.append_assoc]
    exact O3
theorem cW_writeLetter (F : Fx h) (O : OWF M0 L M) {l : Int} (hl : L.length + 3 ≤ 2550) (hv : 0 ≤ l ∧ l ≤ 40) (k : ∀ M', OWF M0 (L ++ ltr l) M' → Φ (.inl none) M' h) : x_Cal zW_writeLetter [xA 39, xI l] M h Φ := by
  refine x_met0 kW_writeLetter (Nat.le_of_ble_eq_true rfl) ?_
  by_cases h1 : l = 0
  · simp only [wq_g3, wq_gc, wq_g, wq_g1, wq_g2, eW_writeLetter, iW_writeLetter_0, iW_writeLetter_5, iW_writeLetter_24, iW_writeLetter_46, vW_writeLetter, wps, x_cnd, reduceIte, Nat.reduceAdd, Nat.reduceSub, Nat.reduceEqDiff, Nat.reduceLeDiff, Nat.lt_irrefl, Nat.reduceLT, Int.cast_ofNat_Int, wq_c0, wq_c1, true_and, and_true, and_self, true_implies, forall_const, ne_eq, Decidable.not_not, not_true_eq_false, not_false_eq_true, List.map_nil, List.map_cons, List.sum_nil, List.sum_cons, List.length_cons, List.length_nil, Nat.le_refl, Nat.zero_le, reduceCtorEq, true_or, or_true, false_or, or_false, false_and, and_false, false_implies, Nat.zero_add, Nat.add_zero, Int.reduceEq, Int.reduceNe, Int.reduceLT, Int.reduceLE, Int.reduceNeg, Int.reduceToNat, Nat.not_lt_zero, fxs F, h1]
    refine k M ?_
    unfold ltr
    rw [if_pos h1, List.append_nil]
    exact O
  · by_cases h2 : l ≤ 26
    · have h3 : ¬ 26 < l := by omega
      simp only [wq_g3, wq_gc, wq_g, wq_g1, wq_g2, eW_writeLetter, iW_writeLetter_0, iW_writeLetter_5, iW_writeLetter_24, iW_writeLetter_46, vW_writeLetter, wps, x_cnd, reduceIte, Nat.reduceAdd, Nat.reduceSub, Nat.reduceEqDiff, Nat.reduceLeDiff, Nat.lt_irrefl, Nat.reduceLT, Int.cast_ofNat_Int, wq_c0, wq_c1, true_and, and_true, and_self, true_implies, forall_const, ne_eq, Decidable.not_not, not_true_eq_false, not_false_eq_true, List.map_nil, List.map_cons, List.sum_nil, List.sum_cons, List.length_cons, List.length_nil, Nat.le_refl, Nat.zero_le, reduceCtorEq, true_or, or_true, false_or, or_false, false_and, and_false, false_implies, Nat.zero_add, Nat.add_zero, Int.reduceEq, Int.reduceNe, Int.reduceLT, Int.reduceLE, Int.reduceNeg, Int.reduceToNat, Nat.not_lt_zero, fxs F, h1, h3]
      simp (disch := omega) only [w32_of]
      rw [show 65 + l - 1 = 64 + l by omega]
      refine cW_writeByte F O (by omega) (by omega) (fun M1 O1 => ?_)
      simp only [wq_g3, wq_gc, wq_g, wq_g1, wq_g2, eW_writeLetter, iW_writeLetter_0, iW_writeLetter_5, iW_writeLetter_24, iW_writeLetter_46, vW_writeLetter, wps, x_cnd, reduceIte, Nat.reduceAdd, Nat.reduceSub, Nat.reduceEqDiff, Nat.reduceLeDiff, Nat.lt_irrefl, Nat.reduceLT, Int.cast_ofNat_Int, wq_c0, wq_c1, true_and, and_true, and_self, true_implies, forall_const, ne_eq, Decidable.not_not, not_true_eq_false, not_false_eq_true, List.map_nil, List.map_cons, List.sum_nil, List.sum_cons, List.length_cons, List.length_nil, Nat.le_refl, Nat.zero_le, reduceCtorEq, true_or, or_true, false_or, or_false, false_and, and_false, false_implies, Nat.zero_add, Nat.add_zero, Int.reduceEq, Int.reduceNe, Int.reduceLT, Int.reduceLE, Int.reduceNeg, Int.reduceToNat, Nat.not_lt_zero, fxs F]
      refine cW_writeByte F O1 (by rw [List.length_append]; simp only [List.length_cons, List.length_nil]; omega) (by omega) (fun M2 O2 => ?_)
      simp only [wq_g3, wq_gc, wq_g, wq_g1, wq_g2, eW_writeLetter, iW_writeLetter_0, iW_writeLetter_5, iW_writeLetter_24, iW_writeLetter_46, vW_writeLetter, wps, x_cnd, reduceIte, Nat.reduceAdd, Nat.reduceSub, Nat.reduceEqDiff, Nat.reduceLeDiff, Nat.lt_irrefl, Nat.reduceLT, Int.cast_ofNat_Int, wq_c0, wq_c1, true_and, and_true, and_self, true_implies, forall_const, ne_eq, Decidable.not_not, not_true_eq_false, not_false_eq_true, List.map_nil, List.map_cons, List.sum_nil, List.sum_cons, List.length_cons, List.length_nil, Nat.le_refl, Nat.zero_le, reduceCtorEq, true_or, or_true, false_or, or_false, false_and, and_false, false_implies, Nat.zero_add, Nat.add_zero, Int.reduceEq, Int.reduceNe, Int.reduceLT, Int.reduceLE, Int.reduceNeg, Int.reduceToNat, Nat.not_lt_zero, fxs F]
      refine k M2 ?_
      unfold ltr
      rw [if_neg h1, if_pos h2, show [64 + l, 32] = [64 + l] ++ [32] from rfl, ← List.append_assoc]
      exact O2
    · have h3 : 26 < l := by omega
      simp only [wq_g3, wq_gc, wq_g, wq_g1, wq_g2, eW_writeLetter, iW_writeLetter_0, iW_writeLetter_5, iW_writeLetter_24, iW_writeLetter_46, vW_writeLetter, wps, x_cnd, reduceIte, Nat.reduceAdd, Nat.reduceSub, Nat.reduceEqDiff, Nat.reduceLeDiff, Nat.lt_irrefl, Nat.reduceLT, Int.cast_ofNat_Int, wq_c0, wq_c1, true_and, and_true, and_self, true_implies, forall_const, ne_eq, Decidable.not_not, not_true_eq_false, not_false_eq_true, List.map_nil, List.map_cons, List.sum_nil, List.sum_cons, List.length_cons, List.length_nil, Nat.le_refl, Nat.zero_le, reduceCtorEq, true_or, or_true, false_or, or_false, false_and, and_false, false_implies, Nat.zero_add, Nat.add_zero, Int.reduceEq, Int.reduceNe, Int.reduceLT, Int.reduceLE, Int.reduceNeg, Int.reduceToNat, Nat.not_lt_zero, fxs F, h1, h3]
      simp (disch := omega) only [w32_of]
      rw [show 65 + l - 27 = 38 + l by omega]
      refine cW_writeByte F O (by omega) (by omega) (fun M1 O1 => ?_)
      simp only [wq_g3, wq_gc, wq_g, wq_g1, wq_g2, eW_writeLetter, iW_writeLetter_0, iW_writeLetter_5, iW_writeLetter_24, iW_writeLetter_46, vW_writeLetter, wps, x_cnd, reduceIte, Nat.reduceAdd, Nat.reduceSub, Nat.reduceEqDiff, Nat.reduceLeDiff, Nat.lt_irrefl, Nat.reduceLT, Int.cast_ofNat_Int, wq_c0, wq_c1, true_and, and_true, and_self, true_implies, forall_const, ne_eq, Decidable.not_not, not_true_eq_false, not_false_eq_true, List.map_nil, List.map_cons, List.sum_nil, List.sum_cons, List.length_cons, List.length_nil, Nat.le_refl, Nat.zero_le, reduceCtorEq, true_or, or_true, false_or, or_false, false_and, and_false, false_implies, Nat.zero_add, Nat.add_zero, Int.reduceEq, Int.reduceNe, Int.reduceLT, Int.reduceLE, Int.reduceNeg, Int.reduceToNat, Nat.not_lt_zero, fxs F]
      simp (disch := omega) only [w32_of]
      rw [show 65 + l - 27 = 38 + l by omega]
      refine cW_writeByte F O1 (by rw [List.length_append]; simp only [List.length_cons, List.length_nil]; omega) (by omega) (fun M2 O2 => ?_)
      simp only [wq_g3, wq_gc, wq_g, wq_g1, wq_g2, eW_writeLetter, iW_writeLetter_0, iW_writeLetter_5, iW_writeLetter_24, iW_writeLetter_46, vW_writeLetter, wps, x_cnd, reduceIte, Nat.reduceAdd, Nat.reduceSub, Nat.reduceEqDiff, Nat.reduceLeDiff, Nat.lt_irrefl, Nat.reduceLT, Int.cast_ofNat_Int, wq_c0, wq_c1, true_and, and_true, and_self, true_implies, forall_const, ne_eq, Decidable.not_not, not_true_eq_false, not_false_eq_true, List.map_nil, List.map_cons, List.sum_nil, List.sum_cons, List.length_cons, List.length_nil, Nat.le_refl, Nat.zero_le, reduceCtorEq, true_or, or_true, false_or, or_false, false_and, and_false, false_implies, Nat.zero_add, Nat.add_zero, Int.reduceEq, Int.reduceNe, Int.reduceLT, Int.reduceLE, Int.reduceNeg, Int.reduceToNat, Nat.not_lt_zero, fxs F]
      refine cW_writeByte F O2 (by rw [List.length_append, List.length_append]; simp only [List.length_cons, List.length_nil]; omega) (by omega) (fun M3 O3 => ?_)
      simp only [wq_g3, wq_gc, wq_g, wq_g1, wq_g2, eW_writeLetter, iW_writeLetter_0, iW_writeLetter_5, iW_writeLetter_24, iW_writeLetter_46, vW_writeLetter, wps, x_cnd, reduceIte, Nat.reduceAdd, Nat.reduceSub, Nat.reduceEqDiff, Nat.reduceLeDiff, Nat.lt_irrefl, Nat.reduceLT, Int.cast_ofNat_Int, wq_c0, wq_c1, true_and, and_true, and_self, true_implies, forall_const, ne_eq, Decidable.not_not, not_true_eq_false, not_false_eq_true, List.map_nil, List.map_cons, List.sum_nil, List.sum_cons, List.length_cons, List.length_nil, Nat.le_refl, Nat.zero_le, reduceCtorEq, true_or, or_true, false_or, or_false, false_and, and_false, false_implies, Nat.zero_add, Nat.add_zero, Int.reduceEq, Int.reduceNe, Int.reduceLT, Int.reduceLE, Int.reduceNeg, Int.reduceToNat, Nat.not_lt_zero, fxs F]
      refine k M3 ?_
      unfold ltr
      rw [if_neg h1, if_neg h2, show [38 + l, 38 + l, 32] = [38 + l] ++ ([38 + l] ++ [32]) from rfl, ← List.append_assoc, ← List.append_assoc]
      exact O3
theorem cW_writeWord (F : Fx h) (O : OWF M0 L M) {i : Nat} (hi : i < 12) (hl : L.length + (x_sl i).toNat ≤ 2550) (k : ∀ M', OWF M0 (L ++ wd i) M' → Φ (.inl none) M' h) : x_Cal zW_writeWord [xA 39, xS i] M h Φ := by
  have hs := x_sl_r i hi
  refine x_metI kW_writeWord (Nat.le_of_ble_eq_true rfl) (fun t m ls st M' h' c n => t = 2 ∧ st = [] ∧ h' = h ∧ c = 0 ∧ n = 0 ∧ ls 0 = some (xA 39) ∧ ls 1 = some (xS i) ∧ ∃ p : Nat, (p : Int) ≤ x_sl i ∧ ls 2 = some (xI p) ∧ m = (x_sl i).toNat - p ∧ OWF M0 (L ++ (List.range p).map (fun k : Nat => x_ch i k)) M') 20 ?_ ?_
  · simp only [wq_g3, wq_gc, wq_g, wq_g1, wq_g2, eW_writeWord, iW_writeWord_0, iW_writeWord_2, iW_writeWord_25, vW_writeWord, wps, x_cnd, reduceIte, Nat.reduceAdd, Nat.reduceSub, Nat.reduceEqDiff, Nat.reduceLeDiff, Nat.lt_irrefl, Nat.reduceLT, Int.cast_ofNat_Int, wq_c0, wq_c1, true_and, and_true, and_self, true_implies, forall_const, ne_eq, Decidable.not_not, not_true_eq_false, not_false_eq_true, List.map_nil, List.map_cons, List.sum_nil, List.sum_cons, List.length_cons, List.length_nil, Nat.le_refl, Nat.zero_le, reduceCtorEq, true_or, or_true, false_or, or_false, false_and, and_false, false_implies, Nat.zero_add, Nat.add_zero, Int.reduceEq, Int.reduceNe, Int.reduceLT, Int.reduceLE, Int.reduceNeg, Int.reduceToNat, Nat.not_lt_zero, fxs F]
    refine ⟨_, 0, by omega, rfl, rfl, ?_⟩
    rw [List.range_zero, List.map_nil, List.append_nil]
    exact O
  · rintro t m ls st M' h' c n ⟨rfl, rfl, rfl, rfl, rfl, l0, l1, p, p1, l2, p2, O1⟩
    simp only [wq_g3, wq_gc, wq_g, wq_g1, wq_g2, eW_writeWord, iW_writeWord_0, iW_writeWord_2, iW_writeWord_25, vW_writeWord, wps, x_cnd, reduceIte, Nat.reduceAdd, Nat.reduceSub, Nat.reduceEqDiff, Nat.reduceLeDiff, Nat.lt_irrefl, Nat.reduceLT, Int.cast_ofNat_Int, wq_c0, wq_c1, true_and, and_true, and_self, true_implies, forall_const, ne_eq, Decidable.not_not, not_true_eq_false, not_false_eq_true, List.map_nil, List.map_cons, List.sum_nil, List.sum_cons, List.length_cons, List.length_nil, Nat.le_refl, Nat.zero_le, reduceCtorEq, true_or, or_true, false_or, or_false, false_and, and_false, false_implies, Nat.zero_add, Nat.add_zero, Int.reduceEq, Int.reduceNe, Int.reduceLT, Int.reduceLE, Int.reduceNeg, Int.reduceToNat, Nat.not_lt_zero, fxs F, l0, l1, l2]
    refine cT_length hi ?_
    simp only [wq_g3, wq_gc, wq_g, wq_g1, wq_g2, eW_writeWord, iW_writeWord_0, iW_writeWord_2, iW_writeWord_25, vW_writeWord, wps, x_cnd, reduceIte, Nat.reduceAdd, Nat.reduceSub, Nat.reduceEqDiff, Nat.reduceLeDiff, Nat.lt_irrefl, Nat.reduceLT, Int.cast_ofNat_Int, wq_c0, wq_c1, true_and, and_true, and_self, true_implies, forall_const, ne_eq, Decidable.not_not, not_true_eq_false, not_false_eq_true, List.map_nil, List.map_cons, List.sum_nil, List.sum_cons, List.length_cons, List.length_nil, Nat.le_refl, Nat.zero_le, reduceCtorEq, true_or, or_true, false_or, or_false, false_and, and_false, false_implies, Nat.zero_add, Nat.add_zero, Int.reduceEq, Int.reduceNe, Int.reduceLT, Int.reduceLE, Int.reduceNeg, Int.reduceToNat, Nat.not_lt_zero, fxs F, l0, l1, l2]
    refine ⟨fun c0 => ?_, fun c0 => ?_⟩
    · refine k M' ?_
      unfold wd
      rw [show (x_sl i).toNat = p by omega]
      exact O1
    refine cT_charAt hi (by omega) ?_
    have hc := x_ch_0 (i := i) (k := (p : Int)) hi
    simp only [wq_g3, wq_gc, wq_g, wq_g1, wq_g2, eW_writeWord, iW_writeWord_0, iW_writeWord_2, iW_writeWord_25, vW_writeWord, wps, x_cnd, reduceIte, Nat.reduceAdd, Nat.reduceSub, Nat.reduceEqDiff, Nat.reduceLeDiff, Nat.lt_irrefl, Nat.reduceLT, Int.cast_ofNat_Int, wq_c0, wq_c1, true_and, and_true, and_self, true_implies, forall_const, ne_eq, Decidable.not_not, not_true_eq_false, not_false_eq_true, List.map_nil, List.map_cons, List.sum_nil, List.sum_cons, List.length_cons, List.length_nil, Nat.le_refl, Nat.zero_le, reduceCtorEq, true_or, or_true, false_or, or_false, false_and, and_false, false_implies, Nat.zero_add, Nat.add_zero, Int.reduceEq, Int.reduceNe, Int.reduceLT, Int.reduceLE, Int.reduceNeg, Int.reduceToNat, Nat.not_lt_zero, l0, l1, l2, fxs F]
    refine cW_writeByte F O1 (by rw [List.length_append, List.length_map, List.length_range]; omega) hc (fun M2 O2 => ?_)
    simp only [wq_g3, wq_gc, wq_g, wq_g1, wq_g2, eW_writeWord, iW_writeWord_0, iW_writeWord_2, iW_writeWord_25, vW_writeWord, wps, x_cnd, reduceIte, Nat.reduceAdd, Nat.reduceSub, Nat.reduceEqDiff, Nat.reduceLeDiff, Nat.lt_irrefl, Nat.reduceLT, Int.cast_ofNat_Int, wq_c0, wq_c1, true_and, and_true, and_self, true_implies, forall_const, ne_eq, Decidable.not_not, not_true_eq_false, not_false_eq_true, List.map_nil, List.map_cons, List.sum_nil, List.sum_cons, List.length_cons, List.length_nil, Nat.le_refl, Nat.zero_le, reduceCtorEq, true_or, or_true, false_or, or_false, false_and, and_false, false_implies, Nat.zero_add, Nat.add_zero, Int.reduceEq, Int.reduceNe, Int.reduceLT, Int.reduceLE, Int.reduceNeg, Int.reduceToNat, Nat.not_lt_zero, fxs F, l0, l1, l2]
    simp (disch := omega) only [w32_of]
    refine ⟨(x_sl i).toNat - (p + 1), by omega, p + 1, by omega, rfl, rfl, ?_⟩
    rw [List.range_succ, List.map_append, ← List.append_assoc]
    exact O2
theorem cW_writeContent (F : Fx h) (O : OWF M0 L M) {c n : Int} (hl : L.length + 8 ≤ 2550) (hc : 0 ≤ c ∧ c ≤ 2) (hv : 0 ≤ n ∧ n < 1000) (k : ∀ M', OWF M0 (L ++ cw c n) M' → Φ (.inl none) M' h) : x_Cal zW_writeContent [xA 39, xI c, xI n] M h Φ := by
  have hw := wd_len
  have e9 : (x_sl 9).toNat = 4 := by decide +kernel
  have e10 : (x_sl 10).toNat = 3 := by decide +kernel
  have e11 : (x_sl 11).toNat = 5 := by decide +kernel
  refine x_met0 kW_writeContent (Nat.le_of_ble_eq_true rfl) ?_
  by_cases h1 : c = 1
  · simp only [wq_g3, wq_gc, wq_g, wq_g1, wq_g2, eW_writeContent, iW_writeContent_0, iW_writeContent_14, iW_writeContent_28, iW_writeContent_39, vW_writeContent, wps, x_cnd, reduceIte, Nat.reduceAdd, Nat.reduceSub, Nat.reduceEqDiff, Nat.reduceLeDiff, Nat.lt_irrefl, Nat.reduceLT, Int.cast_ofNat_Int, wq_c0, wq_c1, true_and, and_true, and_self, true_implies, forall_const, ne_eq, Decidable.not_not, not_true_eq_false, not_false_eq_true, List.map_nil, List.map_cons, List.sum_nil, List.sum_cons, List.length_cons, List.length_nil, Nat.le_refl, Nat.zero_le, reduceCtorEq, true_or, or_true, false_or, or_false, false_and, and_false, false_implies, Nat.zero_add, Nat.add_zero, Int.reduceEq, Int.reduceNe, Int.reduceLT, Int.reduceLE, Int.reduceNeg, Int.reduceToNat, Nat.not_lt_zero, fxs F, h1]
    refine cW_writeWord F O (by decide) (by omega) (fun M1 O1 => ?_)
    simp only [wq_g3, wq_gc, wq_g, wq_g1, wq_g2, eW_writeContent, iW_writeContent_0, iW_writeContent_14, iW_writeContent_28, iW_writeContent_39, vW_writeContent, wps, x_cnd, reduceIte, Nat.reduceAdd, Nat.reduceSub, Nat.reduceEqDiff, Nat.reduceLeDiff, Nat.lt_irrefl, Nat.reduceLT, Int.cast_ofNat_Int, wq_c0, wq_c1, true_and, and_true, and_self, true_implies, forall_const, ne_eq, Decidable.not_not, not_true_eq_false, not_false_eq_true, List.map_nil, List.map_cons, List.sum_nil, List.sum_cons, List.length_cons, List.length_nil, Nat.le_refl, Nat.zero_le, reduceCtorEq, true_or, or_true, false_or, or_false, false_and, and_false, false_implies, Nat.zero_add, Nat.add_zero, Int.reduceEq, Int.reduceNe, Int.reduceLT, Int.reduceLE, Int.reduceNeg, Int.reduceToNat, Nat.not_lt_zero, fxs F]
    refine k M1 ?_
    unfold cw
    rw [if_pos h1]
    exact O1
  · by_cases h2 : c = 2
    · simp only [wq_g3, wq_gc, wq_g, wq_g1, wq_g2, eW_writeContent, iW_writeContent_0, iW_writeContent_14, iW_writeContent_28, iW_writeContent_39, vW_writeContent, wps, x_cnd, reduceIte, Nat.reduceAdd, Nat.reduceSub, Nat.reduceEqDiff, Nat.reduceLeDiff, Nat.lt_irrefl, Nat.reduceLT, Int.cast_ofNat_Int, wq_c0, wq_c1, true_and, and_true, and_self, true_implies, forall_const, ne_eq, Decidable.not_not, not_true_eq_false, not_false_eq_true, List.map_nil, List.map_cons, List.sum_nil, List.sum_cons, List.length_cons, List.length_nil, Nat.le_refl, Nat.zero_le, reduceCtorEq, true_or, or_true, false_or, or_false, false_and, and_false, false_implies, Nat.zero_add, Nat.add_zero, Int.reduceEq, Int.reduceNe, Int.reduceLT, Int.reduceLE, Int.reduceNeg, Int.reduceToNat, Nat.not_lt_zero, fxs F, h1, h2]
      refine cW_writeWord F O (by decide) (by omega) (fun M1 O1 => ?_)
      simp only [wq_g3, wq_gc, wq_g, wq_g1, wq_g2, eW_writeContent, iW_writeContent_0, iW_writeContent_14, iW_writeContent_28, iW_writeContent_39, vW_writeContent, wps, x_cnd, reduceIte, Nat.reduceAdd, Nat.reduceSub, Nat.reduceEqDiff, Nat.reduceLeDiff, Nat.lt_irrefl, Nat.reduceLT, Int.cast_ofNat_Int, wq_c0, wq_c1, true_and, and_true, and_self, true_implies, forall_const, ne_eq, Decidable.not_not, not_true_eq_false, not_false_eq_true, List.map_nil, List.map_cons, List.sum_nil, List.sum_cons, List.length_cons, List.length_nil, Nat.le_refl, Nat.zero_le, reduceCtorEq, true_or, or_true, false_or, or_false, false_and, and_false, false_implies, Nat.zero_add, Nat.add_zero, Int.reduceEq, Int.reduceNe, Int.reduceLT, Int.reduceLE, Int.reduceNeg, Int.reduceToNat, Nat.not_lt_zero, fxs F]
      refine k M1 ?_
      unfold cw
      rw [if_neg h1, if_pos h2]
      exact O1
    · simp only [wq_g3, wq_gc, wq_g, wq_g1, wq_g2, eW_writeContent, iW_writeContent_0, iW_writeContent_14, iW_writeContent_28, iW_writeContent_39, vW_writeContent, wps, x_cnd, reduceIte, Nat.reduceAdd, Nat.reduceSub, Nat.reduceEqDiff, Nat.reduceLeDiff, Nat.lt_irrefl, Nat.reduceLT, Int.cast_ofNat_Int, wq_c0, wq_c1, true_and, and_true, and_self, true_implies, forall_const, ne_eq, Decidable.not_not, not_true_eq_false, not_false_eq_true, List.map_nil, List.map_cons, List.sum_nil, List.sum_cons, List.length_cons, List.length_nil, Nat.le_refl, Nat.zero_le, reduceCtorEq, true_or, or_true, false_or, or_false, false_and, and_false, false_implies, Nat.zero_add, Nat.add_zero, Int.reduceEq, Int.reduceNe, Int.reduceLT, Int.reduceLE, Int.reduceNeg, Int.reduceToNat, Nat.not_lt_zero, fxs F, h1, h2]
      refine cW_writeWord F O (by decide) (by omega) (fun M1 O1 => ?_)
      simp only [wq_g3, wq_gc, wq_g, wq_g1, wq_g2, eW_writeContent, iW_writeContent_0, iW_writeContent_14, iW_writeContent_28, iW_writeContent_39, vW_writeContent, wps, x_cnd, reduceIte, Nat.reduceAdd, Nat.reduceSub, Nat.reduceEqDiff, Nat.reduceLeDiff, Nat.lt_irrefl, Nat.reduceLT, Int.cast_ofNat_Int, wq_c0, wq_c1, true_and, and_true, and_self, true_implies, forall_const, ne_eq, Decidable.not_not, not_true_eq_false, not_false_eq_true, List.map_nil, List.map_cons, List.sum_nil, List.sum_cons, List.length_cons, List.length_nil, Nat.le_refl, Nat.zero_le, reduceCtorEq, true_or, or_true, false_or, or_false, false_and, and_false, false_implies, Nat.zero_add, Nat.add_zero, Int.reduceEq, Int.reduceNe, Int.reduceLT, Int.reduceLE, Int.reduceNeg, Int.reduceToNat, Nat.not_lt_zero, fxs F]
      refine cW_writeNumber F O1 (by rw [List.length_append]; omega) hv (fun M2 O2 => ?_)
      simp only [wq_g3, wq_gc, wq_g, wq_g1, wq_g2, eW_writeContent, iW_writeContent_0, iW_writeContent_14, iW_writeContent_28, iW_writeContent_39, vW_writeContent, wps, x_cnd, reduceIte, Nat.reduceAdd, Nat.reduceSub, Nat.reduceEqDiff, Nat.reduceLeDiff, Nat.lt_irrefl, Nat.reduceLT, Int.cast_ofNat_Int, wq_c0, wq_c1, true_and, and_true, and_self, true_implies, forall_const, ne_eq, Decidable.not_not, not_true_eq_false, not_false_eq_true, List.map_nil, List.map_cons, List.sum_nil, List.sum_cons, List.length_cons, List.length_nil, Nat.le_refl, Nat.zero_le, reduceCtorEq, true_or, or_true, false_or, or_false, false_and, and_false, false_implies, Nat.zero_add, Nat.add_zero, Int.reduceEq, Int.reduceNe, Int.reduceLT, Int.reduceLE, Int.reduceNeg, Int.reduceToNat, Nat.not_lt_zero, fxs F]
      refine k M2 ?_
      unfold cw
      rw [if_neg h1, if_neg h2, ← List.append_assoc]
      exact O2
theorem cW_writeItems (F : Fx h) (R : repC S M h 17) (w : wfS S nid) (V : VR S M) {part : Nat} (h6 : part < 6) (k : ∀ M', OWF M (lines S part (pN S).toNat) M' → Φ (.inl none) M' h) : x_Cal zW_writeItems [xA 39, xA 16, xI part] M h Φ := by
  have hN := w.N
  have hpn := pN_rng (S := S)
  refine x_metI kW_writeItems (Nat.le_of_ble_eq_true rfl) (fun t m ls st M' h' c n => t = 7 ∧ st = [] ∧ h' = h ∧ c = 0 ∧ n = 0 ∧ ls 0 = some (xA 39) ∧ ls 1 = some (xA 16) ∧ ls 2 = some (xI part) ∧ ∃ p : Nat, (p : Int) ≤ pN S ∧ ls 3 = some (xI p) ∧ m = 150 - p ∧ OWF M (lines S part p) M') 20 ?_ ?_
  · simp only [wq_g3, wq_gc, wq_g, wq_g1, wq_g2, eW_writeItems, iW_writeItems_0, iW_writeItems_7, iW_writeItems_82, iW_writeItems_88, vW_writeItems, wps, x_cnd, reduceIte, Nat.reduceAdd, Nat.reduceSub, Nat.reduceEqDiff, Nat.reduceLeDiff, Nat.lt_irrefl, Nat.reduceLT, Int.cast_ofNat_Int, wq_c0, wq_c1, true_and, and_true, and_self, true_implies, forall_const, ne_eq, Decidable.not_not, not_true_eq_false, not_false_eq_true, List.map_nil, List.map_cons, List.sum_nil, List.sum_cons, List.length_cons, List.length_nil, Nat.le_refl, Nat.zero_le, reduceCtorEq, true_or, or_true, false_or, or_false, false_and, and_false, false_implies, Nat.zero_add, Nat.add_zero, Int.reduceEq, Int.reduceNe, Int.reduceLT, Int.reduceLE, Int.reduceNeg, Int.reduceToNat, Nat.not_lt_zero, fxs F]
    refine ⟨_, 0, by omega, rfl, rfl, ?_⟩
    refine ⟨w_eq, fun i hi => ?_, fun a j ha => ?_⟩
    · simp [lines] at hi
    · unfold x_w
      rw [if_neg (by omega)]
  · rintro t m ls st M' h' c n ⟨rfl, rfl, rfl, rfl, rfl, l0, l1, l2, p, p1, l3, p2, O⟩
    have R' : repC S M' h' 17 := R.frame (fun a j ha => O.2.2 a j (by omega))
    have V' : VR S M' := V.frame (fun a j ha => O.2.2 a j (by omega))
    have hll := lines_len S part p
    simp only [wq_g3, wq_gc, wq_g, wq_g1, wq_g2, eW_writeItems, iW_writeItems_0, iW_writeItems_7, iW_writeItems_82, iW_writeItems_88, vW_writeItems, wps, x_cnd, reduceIte, Nat.reduceAdd, Nat.reduceSub, Nat.reduceEqDiff, Nat.reduceLeDiff, Nat.lt_irrefl, Nat.reduceLT, Int.cast_ofNat_Int, wq_c0, wq_c1, true_and, and_true, and_self, true_implies, forall_const, ne_eq, Decidable.not_not, not_true_eq_false, not_false_eq_true, List.map_nil, List.map_cons, List.sum_nil, List.sum_cons, List.length_cons, List.length_nil, Nat.le_refl, Nat.zero_le, reduceCtorEq, true_or, or_true, false_or, or_false, false_and, and_false, false_implies, Nat.zero_add, Nat.add_zero, Int.reduceEq, Int.reduceNe, Int.reduceLT, Int.reduceLE, Int.reduceNeg, Int.reduceToNat, Nat.not_lt_zero, l0, l1, l2, l3, fxs F, V'.n]
    refine ⟨fun c0 => ?_, fun c0 => cV_startsItem F R' w V' h6 (by omega) ?_⟩
    · refine k M' ?_
      rw [show (pN S).toNat = p by omega]
      exact O
    obtain ⟨r, r1, r2, r3, r4⟩ := pp_some (S := S) (k := (p : Int)) (by omega) (by omega)
    have e1 : M' 28 p = r := (V'.ppk (by omega)).trans r4
    have hlt : 0 ≤ lt S r ∧ lt S r ≤ 40 := lt_rng
    have hlab := lab_rng r1 w
    have hcc := w.c r1 h6
    have hnx := nx_spec (P := stt S part) (s := p) (n := (pN S).toNat)
    simp only [wq_g3, wq_gc, wq_g, wq_g1, wq_g2, eW_writeItems, iW_writeItems_0, iW_writeItems_7, iW_writeItems_82, iW_writeItems_88, vW_writeItems, wps, x_cnd, reduceIte, Nat.reduceAdd, Nat.reduceSub, Nat.reduceEqDiff, Nat.reduceLeDiff, Nat.lt_irrefl, Nat.reduceLT, Int.cast_ofNat_Int, wq_c0, wq_c1, true_and, and_true, and_self, true_implies, forall_const, ne_eq, Decidable.not_not, not_true_eq_false, not_false_eq_true, List.map_nil, List.map_cons, List.sum_nil, List.sum_cons, List.length_cons, List.length_nil, Nat.le_refl, Nat.zero_le, reduceCtorEq, true_or, or_true, false_or, or_false, false_and, and_false, false_implies, Nat.zero_add, Nat.add_zero, Int.reduceEq, Int.reduceNe, Int.reduceLT, Int.reduceLE, Int.reduceNeg, Int.reduceToNat, Nat.not_lt_zero, l0, l1, l2, l3, fxs F, b01_0, e1, V'.lt r1]
    refine ⟨fun c1 => ?_, fun c1 => ⟨by omega, by omega, cW_writeLetter F O (by omega) hlt (fun M1 O1 => ?_)⟩⟩
    · simp (disch := omega) only [w32_of]
      refine ⟨150 - (p + 1), by omega, p + 1, by omega, rfl, rfl, ?_⟩
      rw [lines_s, if_neg c1, List.append_nil]
      exact O
    have V1 : VR S M1 := V.frame (fun a j ha => O1.2.2 a j (by omega))
    have g1 := ltr_len (lt S r)
    simp only [wq_g3, wq_gc, wq_g, wq_g1, wq_g2, eW_writeItems, iW_writeItems_0, iW_writeItems_7, iW_writeItems_82, iW_writeItems_88, vW_writeItems, wps, x_cnd, reduceIte, Nat.reduceAdd, Nat.reduceSub, Nat.reduceEqDiff, Nat.reduceLeDiff, Nat.lt_irrefl, Nat.reduceLT, Int.cast_ofNat_Int, wq_c0, wq_c1, true_and, and_true, and_self, true_implies, forall_const, ne_eq, Decidable.not_not, not_true_eq_false, not_false_eq_true, List.map_nil, List.map_cons, List.sum_nil, List.sum_cons, List.length_cons, List.length_nil, Nat.le_refl, Nat.zero_le, reduceCtorEq, true_or, or_true, false_or, or_false, false_and, and_false, false_implies, Nat.zero_add, Nat.add_zero, Int.reduceEq, Int.reduceNe, Int.reduceLT, Int.reduceLE, Int.reduceNeg, Int.reduceToNat, Nat.not_lt_zero, l0, l1, l2, l3, fxs F, V1.lab r1]
    refine ⟨by omega, cW_writeLabel F O1 (by rw [List.length_append]; omega) hlab (fun M2 O2 => ?_)⟩
    have R2 : repC S M2 h' 17 := R.frame (fun a j ha => O2.2.2 a j (by omega))
    have V2 : VR S M2 := V.frame (fun a j ha => O2.2.2 a j (by omega))
    have g2 := lbl_len (lab S r)
    simp only [wq_g3, wq_gc, wq_g, wq_g1, wq_g2, eW_writeItems, iW_writeItems_0, iW_writeItems_7, iW_writeItems_82, iW_writeItems_88, vW_writeItems, wps, x_cnd, reduceIte, Nat.reduceAdd, Nat.reduceSub, Nat.reduceEqDiff, Nat.reduceLeDiff, Nat.lt_irrefl, Nat.reduceLT, Int.cast_ofNat_Int, wq_c0, wq_c1, true_and, and_true, and_self, true_implies, forall_const, ne_eq, Decidable.not_not, not_true_eq_false, not_false_eq_true, List.map_nil, List.map_cons, List.sum_nil, List.sum_cons, List.length_cons, List.length_nil, Nat.le_refl, Nat.zero_le, reduceCtorEq, true_or, or_true, false_or, or_false, false_and, and_false, false_implies, Nat.zero_add, Nat.add_zero, Int.reduceEq, Int.reduceNe, Int.reduceLT, Int.reduceLE, Int.reduceNeg, Int.reduceToNat, Nat.not_lt_zero, l0, l1, l2, l3, fxs F]
    refine cS_contentAt F.s17 h6 (by omega) ?_
    have g5 : M2 (17 + 6) ((part : Int) * 150 + r) = sC S part r := R2.c r1 h6
    rw [g5]
    simp only [wq_g3, wq_gc, wq_g, wq_g1, wq_g2, eW_writeItems, iW_writeItems_0, iW_writeItems_7, iW_writeItems_82, iW_writeItems_88, vW_writeItems, wps, x_cnd, reduceIte, Nat.reduceAdd, Nat.reduceSub, Nat.reduceEqDiff, Nat.reduceLeDiff, Nat.lt_irrefl, Nat.reduceLT, Int.cast_ofNat_Int, wq_c0, wq_c1, true_and, and_true, and_self, true_implies, forall_const, ne_eq, Decidable.not_not, not_true_eq_false, not_false_eq_true, List.map_nil, List.map_cons, List.sum_nil, List.sum_cons, List.length_cons, List.length_nil, Nat.le_refl, Nat.zero_le, reduceCtorEq, true_or, or_true, false_or, or_false, false_and, and_false, false_implies, Nat.zero_add, Nat.add_zero, Int.reduceEq, Int.reduceNe, Int.reduceLT, Int.reduceLE, Int.reduceNeg, Int.reduceToNat, Nat.not_lt_zero, l0, l1, l2, l3, fxs F]
    refine cV_endOfItem F R2 w V2 h6 (by omega) ?_
    have hnp : p < nx (stt S part) p (pN S).toNat := by
      by_cases hlt2 : nx (stt S part) p (pN S).toNat < (pN S).toNat
      · exact (hnx.2.2 hlt2).1
      · omega
    simp only [wq_g3, wq_gc, wq_g, wq_g1, wq_g2, eW_writeItems, iW_writeItems_0, iW_writeItems_7, iW_writeItems_82, iW_writeItems_88, vW_writeItems, wps, x_cnd, reduceIte, Nat.reduceAdd, Nat.reduceSub, Nat.reduceEqDiff, Nat.reduceLeDiff, Nat.lt_irrefl, Nat.reduceLT, Int.cast_ofNat_Int, wq_c0, wq_c1, true_and, and_true, and_self, true_implies, forall_const, ne_eq, Decidable.not_not, not_true_eq_false, not_false_eq_true, List.map_nil, List.map_cons, List.sum_nil, List.sum_cons, List.length_cons, List.length_nil, Nat.le_refl, Nat.zero_le, reduceCtorEq, true_or, or_true, false_or, or_false, false_and, and_false, false_implies, Nat.zero_add, Nat.add_zero, Int.reduceEq, Int.reduceNe, Int.reduceLT, Int.reduceLE, Int.reduceNeg, Int.reduceToNat, Nat.not_lt_zero, l0, l1, l2, l3, fxs F]
    simp (disch := omega) only [w32_of]
    refine cW_writeContent F O2 (by rw [List.length_append, List.length_append]; omega) hcc (by omega) (fun M3 O3 => ?_)
    have g3 := cw_len (sC S part r) ((nx (stt S part) p (pN S).toNat : Nat) - p)
    simp only [wq_g3, wq_gc, wq_g, wq_g1, wq_g2, eW_writeItems, iW_writeItems_0, iW_writeItems_7, iW_writeItems_82, iW_writeItems_88, vW_writeItems, wps, x_cnd, reduceIte, Nat.reduceAdd, Nat.reduceSub, Nat.reduceEqDiff, Nat.reduceLeDiff, Nat.lt_irrefl, Nat.reduceLT, Int.cast_ofNat_Int, wq_c0, wq_c1, true_and, and_true, and_self, true_implies, forall_const, ne_eq, Decidable.not_not, not_true_eq_false, not_false_eq_true, List.map_nil, List.map_cons, List.sum_nil, List.sum_cons, List.length_cons, List.length_nil, Nat.le_refl, Nat.zero_le, reduceCtorEq, true_or, or_true, false_or, or_false, false_and, and_false, false_implies, Nat.zero_add, Nat.add_zero, Int.reduceEq, Int.reduceNe, Int.reduceLT, Int.reduceLE, Int.reduceNeg, Int.reduceToNat, Nat.not_lt_zero, l0, l1, l2, l3, fxs F]
    refine cW_writeByte F O3 (by rw [List.length_append, List.length_append, List.length_append]; omega) (by omega) (fun M4 O4 => ?_)
    simp only [wq_g3, wq_gc, wq_g, wq_g1, wq_g2, eW_writeItems, iW_writeItems_0, iW_writeItems_7, iW_writeItems_82, iW_writeItems_88, vW_writeItems, wps, x_cnd, reduceIte, Nat.reduceAdd, Nat.reduceSub, Nat.reduceEqDiff, Nat.reduceLeDiff, Nat.lt_irrefl, Nat.reduceLT, Int.cast_ofNat_Int, wq_c0, wq_c1, true_and, and_true, and_self, true_implies, forall_const, ne_eq, Decidable.not_not, not_true_eq_false, not_false_eq_true, List.map_nil, List.map_cons, List.sum_nil, List.sum_cons, List.length_cons, List.length_nil, Nat.le_refl, Nat.zero_le, reduceCtorEq, true_or, or_true, false_or, or_false, false_and, and_false, false_implies, Nat.zero_add, Nat.add_zero, Int.reduceEq, Int.reduceNe, Int.reduceLT, Int.reduceLE, Int.reduceNeg, Int.reduceToNat, Nat.not_lt_zero, l0, l1, l2, l3, fxs F]
    simp (disch := omega) only [w32_of]
    refine ⟨150 - (p + 1), by omega, p + 1, by omega, rfl, rfl, ?_⟩
    rw [lines_s, if_pos c1]
    unfold line
    rw [r4, ← List.append_assoc, ← List.append_assoc, ← List.append_assoc]
    exact O4
end WM
