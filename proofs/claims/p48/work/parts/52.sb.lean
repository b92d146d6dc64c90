/-! StringBuilder and String as the JDK's code: texts as lists of chars -/
def x_cs (i : Nat) : List Int := (x_byt.getD i []).map Int32.toInt
theorem x_cs_len (i : Nat) : ((x_cs i).length : Int) = x_sl i ∨ 22 ≤ i := by
  by_cases h : i < 22
  · left
    have key : ∀ i, i < 22 → ((x_cs i).length : Int) = x_sl i := by decide +kernel
    exact key i h
  · right
    omega
theorem x_cs_at {i : Nat} {k : Nat} : (x_cs i).getD k 0 = x_ch i k := by
  unfold x_cs x_ch
  rw [Int.toNat_natCast]
  generalize x_byt.getD i [] = l
  by_cases hk : k < l.length
  · simp [List.getD_eq_getElem?_getD, List.getElem?_map, List.getElem?_eq_getElem hk]
  · simp [List.getD_eq_getElem?_getD, List.getElem?_map, List.getElem?_eq_none (show l.length ≤ k by omega)]
theorem wrc {h : xH} {q r : Nat} {st : List xV} : x_rc h q (xA r :: st) = (q < 50 ∧ hK h r = q) := rfl
/-- a StringBuilder at b holds the text L -/
def sbR (L : List Int) (M : xM) (h : xH) (b : Nat) : Prop := (hK h b = 9 ∧ hK h (hP h b 0) = 21) ∧ (M b 1 = 0 ∧ M b 3 = (L.length : Nat)) ∧ (((L.length : Nat) : Int) ≤ hL h (hP h b 0) ∧ hL h (hP h b 0) ≤ 2000) ∧ (∀ i : Nat, i < L.length → M (hP h b 0) i = L.getD i 0) ∧ (∀ j : Int, 0 ≤ j → j < hL h (hP h b 0) → 0 ≤ M (hP h b 0) j ∧ M (hP h b 0) j < 128) ∧ (b < hn h ∧ hP h b 0 < hn h)
/-- a String at s holds the text L -/
def stR (L : List Int) (M : xM) (h : xH) (s : Nat) : Prop := (hK h s = 8 ∧ hK h (hP h s 0) = 21) ∧ M s 1 = 0 ∧ hL h (hP h s 0) = (L.length : Nat) ∧ (∀ i : Nat, i < L.length → M (hP h s 0) i = L.getD i 0) ∧ (∀ c ∈ L, 0 ≤ c ∧ c < 128) ∧ (s < hn h ∧ hP h s 0 < hn h ∧ s ≠ 0)
/-- what a call on the builder b leaves of the rest -/
def sbF (b : Nat) (M : xM) (h : xH) (M' : xM) (h' : xH) : Prop := hn h ≤ hn h' ∧ (∀ a, a < hn h → a ≠ b → a ≠ hP h b 0 → ∀ j, M' a j = M a j) ∧ (∀ a, a < hn h → hK h' a = hK h a ∧ hL h' a = hL h a) ∧ (∀ a, a < hn h → a ≠ b → ∀ j, hP h' a j = hP h a j) ∧ (hP h' b 0 = hP h b 0 ∨ hn h ≤ hP h' b 0)
theorem sbF.rf {b : Nat} {M : xM} {h : xH} : sbF b M h M h := ⟨Nat.le_refl _, fun _ _ _ _ _ => rfl, fun _ _ => ⟨rfl, rfl⟩, fun _ _ _ _ => rfl, Or.inl rfl⟩
theorem sbF.tr {b : Nat} {M M1 M2 : xM} {h h1 h2 : xH} (hb : b < hn h) (f : sbF b M h M1 h1) (g : sbF b M1 h1 M2 h2) : sbF b M h M2 h2 := by
  obtain ⟨f1, f2, f3, f4, f5⟩ := f
  obtain ⟨g1, g2, g3, g4, g5⟩ := g
  refine ⟨by omega, fun a ha hb ha2 j => ?_, fun a ha => ?_, fun a ha hb j => ?_, ?_⟩
  · rw [g2 a (by omega) hb (by rcases f5 with f5 | f5 <;> omega) j, f2 a ha hb ha2 j]
  · rw [(g3 a (by omega)).1, (g3 a (by omega)).2]
    exact f3 a ha
  · rw [g4 a (by omega) hb j, f4 a ha hb j]
  · rcases g5 with g5 | g5
    · rw [g5]
      exact f5
    · right
      omega
theorem getD_app_lo {L K : List Int} {i : Nat} (h : i < L.length) : (L ++ K).getD i 0 = L.getD i 0 := by
  rw [List.getD_eq_getElem?_getD, List.getD_eq_getElem?_getD, List.getElem?_append_left h]
theorem getD_app_hi {L K : List Int} {i : Nat} (h : L.length ≤ i) : (L ++ K).getD i 0 = K.getD (i - L.length) 0 := by
  rw [List.getD_eq_getElem?_getD, List.getD_eq_getElem?_getD, List.getElem?_append_right h]
section SBC
variable {M : xM} {h : xH} {Φ : xO → xM → xH → Prop} {b : Nat} {L : List Int}
set_option maxHeartbeats 1000000
theorem sh0 {x : Int} (h : x_i32 x) : x_shr x 0 = x := by
  unfold x_shr
  rw [show (Int32.ofInt 0 &&& 31 : Int32) = 0 from by decide, Int32.shiftRight_zero, i32_to h]
theorem sl0 {x : Int} (h : x_i32 x) : x_shl x 0 = x := by
  unfold x_shl
  rw [show (Int32.ofInt 0 &&& 31 : Int32) = 0 from by decide, Int32.shiftLeft_zero, i32_to h]
theorem cY_isLatin1 (hk : hK h b = 9) (hc : M b 1 = 0) (k : Φ (.inl (some (xI 1))) M h) : x_Cal zY_isLatin1 [xA b] M h Φ := by
  refine x_met0 kY_isLatin1 (Nat.le_of_ble_eq_true rfl) ?_
  simp only [wq_g3, wq_gc, wq_g, wq_g1, wq_g2, eY_isLatin1, iY_isLatin1_0, iY_isLatin1_18, vY_isLatin1, wps, x_cnd, reduceIte, Nat.reduceAdd, Nat.reduceSub, Nat.reduceEqDiff, Nat.reduceLeDiff, Nat.lt_irrefl, Nat.reduceLT, Int.cast_ofNat_Int, wq_c0, wq_c1, true_and, and_true, and_self, true_implies, forall_const, ne_eq, Decidable.not_not, not_true_eq_false, not_false_eq_true, List.map_nil, List.map_cons, List.sum_nil, List.sum_cons, List.length_cons, List.length_nil, Nat.le_refl, Nat.zero_le, reduceCtorEq, true_or, or_true, false_or, or_false, false_and, and_false, false_implies, Nat.zero_add, Nat.add_zero, Int.reduceEq, Int.reduceNe, Int.reduceLT, Int.reduceLE, Int.reduceNeg, Int.reduceToNat, Nat.not_lt_zero, Int.reduceAdd, hk, hc, Int.reduceEq]
  exact k
theorem cY_getValue (hk : hK h b = 9) (k : Φ (.inl (some (xA (hP h b 0)))) M h) : x_Cal zY_getValue [xA b] M h Φ := by
  refine x_met0 kY_getValue (Nat.le_of_ble_eq_true rfl) ?_
  simp only [wq_g3, wq_gc, wq_g, wq_g1, wq_g2, eY_getValue, iY_getValue_0, vY_getValue, wps, x_cnd, reduceIte, Nat.reduceAdd, Nat.reduceSub, Nat.reduceEqDiff, Nat.reduceLeDiff, Nat.lt_irrefl, Nat.reduceLT, Int.cast_ofNat_Int, wq_c0, wq_c1, true_and, and_true, and_self, true_implies, forall_const, ne_eq, Decidable.not_not, not_true_eq_false, not_false_eq_true, List.map_nil, List.map_cons, List.sum_nil, List.sum_cons, List.length_cons, List.length_nil, Nat.le_refl, Nat.zero_le, reduceCtorEq, true_or, or_true, false_or, or_false, false_and, and_false, false_implies, Nat.zero_add, Nat.add_zero, Int.reduceEq, Int.reduceNe, Int.reduceLT, Int.reduceLE, Int.reduceNeg, Int.reduceToNat, Nat.not_lt_zero, Int.reduceAdd, hk]
  exact k
theorem cY_length (hk : hK h b = 9) (k : Φ (.inl (some (xI (M b 3)))) M h) : x_Cal zY_length [xA b] M h Φ := by
  refine x_met0 kY_length (Nat.le_of_ble_eq_true rfl) ?_
  simp only [wq_g3, wq_gc, wq_g, wq_g1, wq_g2, eY_length, iY_length_0, vY_length, wps, x_cnd, reduceIte, Nat.reduceAdd, Nat.reduceSub, Nat.reduceEqDiff, Nat.reduceLeDiff, Nat.lt_irrefl, Nat.reduceLT, Int.cast_ofNat_Int, wq_c0, wq_c1, true_and, and_true, and_self, true_implies, forall_const, ne_eq, Decidable.not_not, not_true_eq_false, not_false_eq_true, List.map_nil, List.map_cons, List.sum_nil, List.sum_cons, List.length_cons, List.length_nil, Nat.le_refl, Nat.zero_le, reduceCtorEq, true_or, or_true, false_or, or_false, false_and, and_false, false_implies, Nat.zero_add, Nat.add_zero, Int.reduceEq, Int.reduceNe, Int.reduceLT, Int.reduceLE, Int.reduceNeg, Int.reduceToNat, Nat.not_lt_zero, Int.reduceAdd, hk]
  exact k
theorem cQ_length (hk : hK h b = 9) (k : Φ (.inl (some (xI (M b 3)))) M h) : x_Cal zQ_length [xA b] M h Φ := by
  refine x_met0 kQ_length (Nat.le_of_ble_eq_true rfl) ?_
  simp only [wq_g3, wq_gc, wq_g, wq_g1, wq_g2, eQ_length, iQ_length_0, vQ_length, wps, x_cnd, reduceIte, Nat.reduceAdd, Nat.reduceSub, Nat.reduceEqDiff, Nat.reduceLeDiff, Nat.lt_irrefl, Nat.reduceLT, Int.cast_ofNat_Int, wq_c0, wq_c1, true_and, and_true, and_self, true_implies, forall_const, ne_eq, Decidable.not_not, not_true_eq_false, not_false_eq_true, List.map_nil, List.map_cons, List.sum_nil, List.sum_cons, List.length_cons, List.length_nil, Nat.le_refl, Nat.zero_le, reduceCtorEq, true_or, or_true, false_or, or_false, false_and, and_false, false_implies, Nat.zero_add, Nat.add_zero, Int.reduceEq, Int.reduceNe, Int.reduceLT, Int.reduceLE, Int.reduceNeg, Int.reduceToNat, Nat.not_lt_zero, Int.reduceAdd, hk, wrc]
  refine cY_length hk ?_
  simp only [wq_g3, wq_gc, wq_g, wq_g1, wq_g2, eQ_length, iQ_length_0, vQ_length, wps, x_cnd, reduceIte, Nat.reduceAdd, Nat.reduceSub, Nat.reduceEqDiff, Nat.reduceLeDiff, Nat.lt_irrefl, Nat.reduceLT, Int.cast_ofNat_Int, wq_c0, wq_c1, true_and, and_true, and_self, true_implies, forall_const, ne_eq, Decidable.not_not, not_true_eq_false, not_false_eq_true, List.map_nil, List.map_cons, List.sum_nil, List.sum_cons, List.length_cons, List.length_nil, Nat.le_refl, Nat.zero_le, reduceCtorEq, true_or, or_true, false_or, or_false, false_and, and_false, false_implies, Nat.zero_add, Nat.add_zero, Int.reduceEq, Int.reduceNe, Int.reduceLT, Int.reduceLE, Int.reduceNeg, Int.reduceToNat, Nat.not_lt_zero, Int.reduceAdd, hk, wrc]
  exact k
theorem cU_canEncode {c : Int} (hc : 0 ≤ c ∧ c < 128) (k : Φ (.inl (some (xI 1))) M h) : x_Cal zU_canEncode [xI c] M h Φ := by
  refine x_met0 kU_canEncode (Nat.le_of_ble_eq_true rfl) ?_
  simp only [wq_g3, wq_gc, wq_g, wq_g1, wq_g2, eU_canEncode, iU_canEncode_0, iU_canEncode_11, iU_canEncode_12, vU_canEncode, wps, x_cnd, reduceIte, Nat.reduceAdd, Nat.reduceSub, Nat.reduceEqDiff, Nat.reduceLeDiff, Nat.lt_irrefl, Nat.reduceLT, Int.cast_ofNat_Int, wq_c0, wq_c1, true_and, and_true, and_self, true_implies, forall_const, ne_eq, Decidable.not_not, not_true_eq_false, not_false_eq_true, List.map_nil, List.map_cons, List.sum_nil, List.sum_cons, List.length_cons, List.length_nil, Nat.le_refl, Nat.zero_le, reduceCtorEq, true_or, or_true, false_or, or_false, false_and, and_false, false_implies, Nat.zero_add, Nat.add_zero, Int.reduceEq, Int.reduceNe, Int.reduceLT, Int.reduceLE, Int.reduceNeg, Int.reduceToNat, Nat.not_lt_zero, Int.reduceAdd]
  (repeat' (first | apply And.intro | intro _)) <;> first | omega | exact k | simp
theorem cZ_newLength {L0 q : Int} (h0 : 0 ≤ L0 ∧ L0 ≤ 2000) (h1 : L0 < q ∧ q ≤ 1000) (k : Φ (.inl (some (xI (L0 + max (q - L0) (L0 + 2))))) M h) : x_Cal zZ_newLength [xI L0, xI (q - L0), xI (L0 + 2)] M h Φ := by
  refine x_met0 kZ_newLength (Nat.le_of_ble_eq_true rfl) ?_
  simp only [wq_g3, wq_gc, wq_g, wq_g1, wq_g2, eZ_newLength, iZ_newLength_0, vZ_newLength, wps, x_cnd, reduceIte, Nat.reduceAdd, Nat.reduceSub, Nat.reduceEqDiff, Nat.reduceLeDiff, Nat.lt_irrefl, Nat.reduceLT, Int.cast_ofNat_Int, wq_c0, wq_c1, true_and, and_true, and_self, true_implies, forall_const, ne_eq, Decidable.not_not, not_true_eq_false, not_false_eq_true, List.map_nil, List.map_cons, List.sum_nil, List.sum_cons, List.length_cons, List.length_nil, Nat.le_refl, Nat.zero_le, reduceCtorEq, true_or, or_true, false_or, or_false, false_and, and_false, false_implies, Nat.zero_add, Nat.add_zero, Int.reduceEq, Int.reduceNe, Int.reduceLT, Int.reduceLE, Int.reduceNeg, Int.reduceToNat, Nat.not_lt_zero, Int.reduceAdd]
  simp (disch := omega) only [w32_of]
  (repeat' (first | apply And.intro | intro _)) <;> first | omega | exact k
theorem cY_newCapacity {a : Nat} {q : Int} (hk : hK h b = 9) (ha : hP h b 0 = a) (hka : hK h a = 21) (hc : M b 1 = 0) (h0 : 0 ≤ hL h a ∧ hL h a ≤ 2000) (h1 : hL h a < q ∧ q ≤ 1000) (k : Φ (.inl (some (xI (hL h a + max (q - hL h a) (hL h a + 2))))) M h) : x_Cal zY_newCapacity [xA b, xI q] M h Φ := by
  refine x_met0 kY_newCapacity (Nat.le_of_ble_eq_true rfl) ?_
  have e1 : x_shl q 0 = q := sl0 (by unfold x_i32; omega)
  have e2 : x_shl 2 0 = 2 := by decide
  have e3 : x_shr (hL h a + max (q - hL h a) (hL h a + 2)) 0 = hL h a + max (q - hL h a) (hL h a + 2) := sh0 (by unfold x_i32; omega)
  simp only [wq_g3, wq_gc, wq_g, wq_g1, wq_g2, eY_newCapacity, iY_newCapacity_0, iY_newCapacity_51, vY_newCapacity, wps, x_cnd, reduceIte, Nat.reduceAdd, Nat.reduceSub, Nat.reduceEqDiff, Nat.reduceLeDiff, Nat.lt_irrefl, Nat.reduceLT, Int.cast_ofNat_Int, wq_c0, wq_c1, true_and, and_true, and_self, true_implies, forall_const, ne_eq, Decidable.not_not, not_true_eq_false, not_false_eq_true, List.map_nil, List.map_cons, List.sum_nil, List.sum_cons, List.length_cons, List.length_nil, Nat.le_refl, Nat.zero_le, reduceCtorEq, true_or, or_true, false_or, or_false, false_and, and_false, false_implies, Nat.zero_add, Nat.add_zero, Int.reduceEq, Int.reduceNe, Int.reduceLT, Int.reduceLE, Int.reduceNeg, Int.reduceToNat, Nat.not_lt_zero, Int.reduceAdd, hk, ha, hka, hc, e1, e2]
  simp (disch := omega) only [w32_of]
  (repeat refine ⟨by omega, ?_⟩)
  refine cZ_newLength h0 h1 ?_
  simp only [wq_g3, wq_gc, wq_g, wq_g1, wq_g2, eY_newCapacity, iY_newCapacity_0, iY_newCapacity_51, vY_newCapacity, wps, x_cnd, reduceIte, Nat.reduceAdd, Nat.reduceSub, Nat.reduceEqDiff, Nat.reduceLeDiff, Nat.lt_irrefl, Nat.reduceLT, Int.cast_ofNat_Int, wq_c0, wq_c1, true_and, and_true, and_self, true_implies, forall_const, ne_eq, Decidable.not_not, not_true_eq_false, not_false_eq_true, List.map_nil, List.map_cons, List.sum_nil, List.sum_cons, List.length_cons, List.length_nil, Nat.le_refl, Nat.zero_le, reduceCtorEq, true_or, or_true, false_or, or_false, false_and, and_false, false_implies, Nat.zero_add, Nat.add_zero, Int.reduceEq, Int.reduceNe, Int.reduceLT, Int.reduceLE, Int.reduceNeg, Int.reduceToNat, Nat.not_lt_zero, Int.reduceAdd, hk, ha, hka, hc, e1, e2, e3]
  (repeat' (first | apply And.intro | intro _)) <;> first | omega | exact k
theorem cA_copyOf {a : Nat} {q : Int} (hka : hK h a = 21) (h0 : 0 ≤ hL h a) (h1 : hL h a < q ∧ q ≤ 2000) (hb : ∀ j : Int, 0 ≤ j → j < hL h a → -128 ≤ M a j ∧ M a j < 128) (hlt : a < hn h) (k : Φ (.inl (some (xA (hn h)))) (x_cp (x_z M h) a 0 (hn h) 0 (hL h a)) (x_new h 21 q)) : x_Cal zA_copyOf [xA a, xI q] M h Φ := by
  refine x_met0 kA_copyOf (Nat.le_of_ble_eq_true rfl) ?_
  have ne : ¬ (a = hn h) := by omega
  have e1 : min (hL h a) q = hL h a := by omega
  simp only [wq_g3, wq_gc, wq_g, wq_g1, wq_g2, eA_copyOf, iA_copyOf_0, iA_copyOf_14, vA_copyOf, wps, x_cnd, reduceIte, Nat.reduceAdd, Nat.reduceSub, Nat.reduceEqDiff, Nat.reduceLeDiff, Nat.lt_irrefl, Nat.reduceLT, Int.cast_ofNat_Int, wq_c0, wq_c1, true_and, and_true, and_self, true_implies, forall_const, ne_eq, Decidable.not_not, not_true_eq_false, not_false_eq_true, List.map_nil, List.map_cons, List.sum_nil, List.sum_cons, List.length_cons, List.length_nil, Nat.le_refl, Nat.zero_le, reduceCtorEq, true_or, or_true, false_or, or_false, false_and, and_false, false_implies, Nat.zero_add, Nat.add_zero, Int.reduceEq, Int.reduceNe, Int.reduceLT, Int.reduceLE, Int.reduceNeg, Int.reduceToNat, Nat.not_lt_zero, Int.reduceAdd, hka, hK_new, hL_new, ne, e1, x_z_at]
  (repeat' (first | apply And.intro | intro _)) <;> first | omega | exact k | exact (hb _ (by omega) (by omega)).1 | exact (hb _ (by omega) (by omega)).2
theorem cA_checkLength {q : Int} (h0 : 0 ≤ q) (k : Φ (.inl none) M h) : x_Cal zA_checkLength [xI 0, xI q] M h Φ := by
  refine x_met0 kA_checkLength (Nat.le_of_ble_eq_true rfl) ?_
  simp only [wq_g3, wq_gc, wq_g, wq_g1, wq_g2, eA_checkLength, iA_checkLength_0, iA_checkLength_37, vA_checkLength, wps, x_cnd, reduceIte, Nat.reduceAdd, Nat.reduceSub, Nat.reduceEqDiff, Nat.reduceLeDiff, Nat.lt_irrefl, Nat.reduceLT, Int.cast_ofNat_Int, wq_c0, wq_c1, true_and, and_true, and_self, true_implies, forall_const, ne_eq, Decidable.not_not, not_true_eq_false, not_false_eq_true, List.map_nil, List.map_cons, List.sum_nil, List.sum_cons, List.length_cons, List.length_nil, Nat.le_refl, Nat.zero_le, reduceCtorEq, true_or, or_true, false_or, or_false, false_and, and_false, false_implies, Nat.zero_add, Nat.add_zero, Int.reduceEq, Int.reduceNe, Int.reduceLT, Int.reduceLE, Int.reduceNeg, Int.reduceToNat, Nat.not_lt_zero, Int.reduceAdd]
  exact ⟨fun _ => k, fun c => absurd h0 c⟩
theorem cA_copyOfRangeByte {a : Nat} {q : Int} (hka : hK h a = 21) (h0 : 0 ≤ q ∧ q ≤ hL h a) (h1 : q ≤ 1000) (hb : ∀ j : Int, 0 ≤ j → j < hL h a → -128 ≤ M a j ∧ M a j < 128) (hlt : a < hn h) (h2 : hL h a ≤ 2000) (k : Φ (.inl (some (xA (hn h)))) (x_cp (x_z M h) a 0 (hn h) 0 q) (x_new h 21 q)) : x_Cal zA_copyOfRangeByte [xA a, xI 0, xI q] M h Φ := by
  refine x_met0 kA_copyOfRangeByte (Nat.le_of_ble_eq_true rfl) ?_
  have ne : ¬ (a = hn h) := by omega
  have e1 : min (hL h a) q = q := by omega
  simp only [wq_g3, wq_gc, wq_g, wq_g1, wq_g2, eA_copyOfRangeByte, iA_copyOfRangeByte_0, vA_copyOfRangeByte, wps, x_cnd, reduceIte, Nat.reduceAdd, Nat.reduceSub, Nat.reduceEqDiff, Nat.reduceLeDiff, Nat.lt_irrefl, Nat.reduceLT, Int.cast_ofNat_Int, wq_c0, wq_c1, true_and, and_true, and_self, true_implies, forall_const, ne_eq, Decidable.not_not, not_true_eq_false, not_false_eq_true, List.map_nil, List.map_cons, List.sum_nil, List.sum_cons, List.length_cons, List.length_nil, Nat.le_refl, Nat.zero_le, reduceCtorEq, true_or, or_true, false_or, or_false, false_and, and_false, false_implies, Nat.zero_add, Nat.add_zero, Int.reduceEq, Int.reduceNe, Int.reduceLT, Int.reduceLE, Int.reduceNeg, Int.reduceToNat, Nat.not_lt_zero, Int.reduceAdd]
  (repeat refine ⟨by omega, ?_⟩)
  refine cA_checkLength h0.1 ?_
  simp only [wq_g3, wq_gc, wq_g, wq_g1, wq_g2, eA_copyOfRangeByte, iA_copyOfRangeByte_0, vA_copyOfRangeByte, wps, x_cnd, reduceIte, Nat.reduceAdd, Nat.reduceSub, Nat.reduceEqDiff, Nat.reduceLeDiff, Nat.lt_irrefl, Nat.reduceLT, Int.cast_ofNat_Int, wq_c0, wq_c1, true_and, and_true, and_self, true_implies, forall_const, ne_eq, Decidable.not_not, not_true_eq_false, not_false_eq_true, List.map_nil, List.map_cons, List.sum_nil, List.sum_cons, List.length_cons, List.length_nil, Nat.le_refl, Nat.zero_le, reduceCtorEq, true_or, or_true, false_or, or_false, false_and, and_false, false_implies, Nat.zero_add, Nat.add_zero, Int.reduceEq, Int.reduceNe, Int.reduceLT, Int.reduceLE, Int.reduceNeg, Int.reduceToNat, Nat.not_lt_zero, Int.reduceAdd, hka, hK_new, hL_new, ne, Int.sub_zero]
  simp (disch := omega) only [w32_of]
  simp only [e1, hka]
  (repeat' (first | apply And.intro | intro _)) <;> first | omega | exact k | (simp only [x_z_at, ne, if_false]; first | exact (hb _ (by omega) (by omega)).1 | exact (hb _ (by omega) (by omega)).2) | skip
theorem cTh_coder {s : Nat} (hk : hK h s = 8) (hc : M s 1 = 0) (k : Φ (.inl (some (xI 0))) M h) : x_Cal zT_coder [xA s] M h Φ := by
  refine x_met0 kT_coder (Nat.le_of_ble_eq_true rfl) ?_
  simp only [wq_g3, wq_gc, wq_g, wq_g1, wq_g2, eT_coder, iT_coder_0, iT_coder_14, vT_coder, wps, x_cnd, reduceIte, Nat.reduceAdd, Nat.reduceSub, Nat.reduceEqDiff, Nat.reduceLeDiff, Nat.lt_irrefl, Nat.reduceLT, Int.cast_ofNat_Int, wq_c0, wq_c1, true_and, and_true, and_self, true_implies, forall_const, ne_eq, Decidable.not_not, not_true_eq_false, not_false_eq_true, List.map_nil, List.map_cons, List.sum_nil, List.sum_cons, List.length_cons, List.length_nil, Nat.le_refl, Nat.zero_le, reduceCtorEq, true_or, or_true, false_or, or_false, false_and, and_false, false_implies, Nat.zero_add, Nat.add_zero, Int.reduceEq, Int.reduceNe, Int.reduceLT, Int.reduceLE, Int.reduceNeg, Int.reduceToNat, Nat.not_lt_zero, Int.reduceAdd, hk, hc, Int.reduceEq]
  exact k
theorem cTh_isLatin1 {s : Nat} (hk : hK h s = 8) (hc : M s 1 = 0) (k : Φ (.inl (some (xI 1))) M h) : x_Cal zT_isLatin1 [xA s] M h Φ := by
  refine x_met0 kT_isLatin1 (Nat.le_of_ble_eq_true rfl) ?_
  simp only [wq_g3, wq_gc, wq_g, wq_g1, wq_g2, eT_isLatin1, iT_isLatin1_0, iT_isLatin1_18, vT_isLatin1, wps, x_cnd, reduceIte, Nat.reduceAdd, Nat.reduceSub, Nat.reduceEqDiff, Nat.reduceLeDiff, Nat.lt_irrefl, Nat.reduceLT, Int.cast_ofNat_Int, wq_c0, wq_c1, true_and, and_true, and_self, true_implies, forall_const, ne_eq, Decidable.not_not, not_true_eq_false, not_false_eq_true, List.map_nil, List.map_cons, List.sum_nil, List.sum_cons, List.length_cons, List.length_nil, Nat.le_refl, Nat.zero_le, reduceCtorEq, true_or, or_true, false_or, or_false, false_and, and_false, false_implies, Nat.zero_add, Nat.add_zero, Int.reduceEq, Int.reduceNe, Int.reduceLT, Int.reduceLE, Int.reduceNeg, Int.reduceToNat, Nat.not_lt_zero, Int.reduceAdd, hk, hc, Int.reduceEq]
  exact k
theorem cTh_length {s : Nat} (R : stR L M h s) (hn9 : L.length ≤ 2000) (k : Φ (.inl (some (xI (L.length : Nat)))) M h) : x_Cal zT_length [xA s] M h Φ := by
  obtain ⟨⟨r1, r2⟩, r3, r4, r5, r6, r7, r8⟩ := id R
  refine x_met0 kT_length (Nat.le_of_ble_eq_true rfl) ?_
  simp only [wq_g3, wq_gc, wq_g, wq_g1, wq_g2, eT_length, iT_length_0, vT_length, wps, x_cnd, reduceIte, Nat.reduceAdd, Nat.reduceSub, Nat.reduceEqDiff, Nat.reduceLeDiff, Nat.lt_irrefl, Nat.reduceLT, Int.cast_ofNat_Int, wq_c0, wq_c1, true_and, and_true, and_self, true_implies, forall_const, ne_eq, Decidable.not_not, not_true_eq_false, not_false_eq_true, List.map_nil, List.map_cons, List.sum_nil, List.sum_cons, List.length_cons, List.length_nil, Nat.le_refl, Nat.zero_le, reduceCtorEq, true_or, or_true, false_or, or_false, false_and, and_false, false_implies, Nat.zero_add, Nat.add_zero, Int.reduceEq, Int.reduceNe, Int.reduceLT, Int.reduceLE, Int.reduceNeg, Int.reduceToNat, Nat.not_lt_zero, Int.reduceAdd, r1, r2, r4]
  (repeat refine ⟨by omega, ?_⟩)
  refine cTh_coder r1 r3 ?_
  simp only [wq_g3, wq_gc, wq_g, wq_g1, wq_g2, eT_length, iT_length_0, vT_length, wps, x_cnd, reduceIte, Nat.reduceAdd, Nat.reduceSub, Nat.reduceEqDiff, Nat.reduceLeDiff, Nat.lt_irrefl, Nat.reduceLT, Int.cast_ofNat_Int, wq_c0, wq_c1, true_and, and_true, and_self, true_implies, forall_const, ne_eq, Decidable.not_not, not_true_eq_false, not_false_eq_true, List.map_nil, List.map_cons, List.sum_nil, List.sum_cons, List.length_cons, List.length_nil, Nat.le_refl, Nat.zero_le, reduceCtorEq, true_or, or_true, false_or, or_false, false_and, and_false, false_implies, Nat.zero_add, Nat.add_zero, Int.reduceEq, Int.reduceNe, Int.reduceLT, Int.reduceLE, Int.reduceNeg, Int.reduceToNat, Nat.not_lt_zero, Int.reduceAdd, r1, r2, r4]
  rw [sh0 (by unfold x_i32; omega)]
  exact k
theorem cU_charAtH {a : Nat} {i : Int} (hka : hK h a = 21) (hi : 0 ≤ i ∧ i < hL h a) (hc : 0 ≤ M a i ∧ M a i < 128) (k : Φ (.inl (some (xI (M a i)))) M h) : x_Cal zU_charAt [xA a, xI i] M h Φ := by
  obtain ⟨n, e9⟩ : ∃ n : Nat, M a i = n := ⟨(M a i).toNat, by omega⟩
  have e8 := (c128 n (by omega)).2.1
  refine x_met0 kU_charAt (Nat.le_of_ble_eq_true rfl) ?_
  simp only [wq_g3, wq_gc, wq_g, wq_g1, wq_g2, eU_charAt, iU_charAt_0, vU_charAt, wps, x_cnd, reduceIte, Nat.reduceAdd, Nat.reduceSub, Nat.reduceEqDiff, Nat.reduceLeDiff, Nat.lt_irrefl, Nat.reduceLT, Int.cast_ofNat_Int, wq_c0, wq_c1, true_and, and_true, and_self, true_implies, forall_const, ne_eq, Decidable.not_not, not_true_eq_false, not_false_eq_true, List.map_nil, List.map_cons, List.sum_nil, List.sum_cons, List.length_cons, List.length_nil, Nat.le_refl, Nat.zero_le, reduceCtorEq, true_or, or_true, false_or, or_false, false_and, and_false, false_implies, Nat.zero_add, Nat.add_zero, Int.reduceEq, Int.reduceNe, Int.reduceLT, Int.reduceLE, Int.reduceNeg, Int.reduceToNat, Nat.not_lt_zero, Int.reduceAdd, hka]
  (repeat refine ⟨by omega, ?_⟩)
  refine cT_checkIndex hi ?_
  simp only [wq_g3, wq_gc, wq_g, wq_g1, wq_g2, eU_charAt, iU_charAt_0, vU_charAt, wps, x_cnd, reduceIte, Nat.reduceAdd, Nat.reduceSub, Nat.reduceEqDiff, Nat.reduceLeDiff, Nat.lt_irrefl, Nat.reduceLT, Int.cast_ofNat_Int, wq_c0, wq_c1, true_and, and_true, and_self, true_implies, forall_const, ne_eq, Decidable.not_not, not_true_eq_false, not_false_eq_true, List.map_nil, List.map_cons, List.sum_nil, List.sum_cons, List.length_cons, List.length_nil, Nat.le_refl, Nat.zero_le, reduceCtorEq, true_or, or_true, false_or, or_false, false_and, and_false, false_implies, Nat.zero_add, Nat.add_zero, Int.reduceEq, Int.reduceNe, Int.reduceLT, Int.reduceLE, Int.reduceNeg, Int.reduceToNat, Nat.not_lt_zero, Int.reduceAdd, hka]
  rw [e9] at k ⊢
  rw [e8, show ((n : Int) % 65536) = n by omega]
  (repeat' (first | apply And.intro | intro _)) <;> first | omega | exact k
theorem cTh_charAt {s : Nat} (R : stR L M h s) {i : Nat} (hi : i < L.length) (k : Φ (.inl (some (xI (L.getD i 0)))) M h) : x_Cal zT_charAt [xA s, xI i] M h Φ := by
  obtain ⟨⟨r1, r2⟩, r3, r4, r5, r6, r7, r8⟩ := id R
  have hc : 0 ≤ L.getD i 0 ∧ L.getD i 0 < 128 := by
    rw [List.getD_eq_getElem?_getD, List.getElem?_eq_getElem hi]
    exact r6 _ (List.getElem_mem hi)
  refine x_met0 kT_charAt (Nat.le_of_ble_eq_true rfl) ?_
  simp only [wq_g3, wq_gc, wq_g, wq_g1, wq_g2, eT_charAt, iT_charAt_0, vT_charAt, wps, x_cnd, reduceIte, Nat.reduceAdd, Nat.reduceSub, Nat.reduceEqDiff, Nat.reduceLeDiff, Nat.lt_irrefl, Nat.reduceLT, Int.cast_ofNat_Int, wq_c0, wq_c1, true_and, and_true, and_self, true_implies, forall_const, ne_eq, Decidable.not_not, not_true_eq_false, not_false_eq_true, List.map_nil, List.map_cons, List.sum_nil, List.sum_cons, List.length_cons, List.length_nil, Nat.le_refl, Nat.zero_le, reduceCtorEq, true_or, or_true, false_or, or_false, false_and, and_false, false_implies, Nat.zero_add, Nat.add_zero, Int.reduceEq, Int.reduceNe, Int.reduceLT, Int.reduceLE, Int.reduceNeg, Int.reduceToNat, Nat.not_lt_zero, Int.reduceAdd, r1]
  (repeat refine ⟨by omega, ?_⟩)
  refine cTh_isLatin1 r1 r3 ?_
  simp only [wq_g3, wq_gc, wq_g, wq_g1, wq_g2, eT_charAt, iT_charAt_0, vT_charAt, wps, x_cnd, reduceIte, Nat.reduceAdd, Nat.reduceSub, Nat.reduceEqDiff, Nat.reduceLeDiff, Nat.lt_irrefl, Nat.reduceLT, Int.cast_ofNat_Int, wq_c0, wq_c1, true_and, and_true, and_self, true_implies, forall_const, ne_eq, Decidable.not_not, not_true_eq_false, not_false_eq_true, List.map_nil, List.map_cons, List.sum_nil, List.sum_cons, List.length_cons, List.length_nil, Nat.le_refl, Nat.zero_le, reduceCtorEq, true_or, or_true, false_or, or_false, false_and, and_false, false_implies, Nat.zero_add, Nat.add_zero, Int.reduceEq, Int.reduceNe, Int.reduceLT, Int.reduceLE, Int.reduceNeg, Int.reduceToNat, Nat.not_lt_zero, Int.reduceAdd, r1, Int.reduceEq]
  (repeat refine ⟨by omega, ?_⟩)
  refine cU_charAtH r2 (by omega) (by rw [r5 i hi]; exact hc) ?_
  simp only [wq_g3, wq_gc, wq_g, wq_g1, wq_g2, eT_charAt, iT_charAt_0, vT_charAt, wps, x_cnd, reduceIte, Nat.reduceAdd, Nat.reduceSub, Nat.reduceEqDiff, Nat.reduceLeDiff, Nat.lt_irrefl, Nat.reduceLT, Int.cast_ofNat_Int, wq_c0, wq_c1, true_and, and_true, and_self, true_implies, forall_const, ne_eq, Decidable.not_not, not_true_eq_false, not_false_eq_true, List.map_nil, List.map_cons, List.sum_nil, List.sum_cons, List.length_cons, List.length_nil, Nat.le_refl, Nat.zero_le, reduceCtorEq, true_or, or_true, false_or, or_false, false_and, and_false, false_implies, Nat.zero_add, Nat.add_zero, Int.reduceEq, Int.reduceNe, Int.reduceLT, Int.reduceLE, Int.reduceNeg, Int.reduceToNat, Nat.not_lt_zero, Int.reduceAdd, r1]
  rw [r5 i hi]
  (repeat' (first | apply And.intro | intro _)) <;> first | omega | exact k
theorem cTh_getBytes {s d : Nat} (R : stR L M h s) {pp : Int} (hd : hK h d = 21) (hp : 0 ≤ pp ∧ pp + (L.length : Nat) ≤ hL h d) (h2 : hL h d ≤ 2000) (k : Φ (.inl none) (x_cp M (hP h s 0) 0 d pp (L.length : Nat)) h) : x_Cal zT_getBytes [xA s, xA d, xI pp, xI 0] M h Φ := by
  obtain ⟨⟨r1, r2⟩, r3, r4, r5, r6, r7, r8⟩ := id R
  have hc : ∀ i : Nat, i < L.length → 0 ≤ L.getD i 0 ∧ L.getD i 0 < 128 := fun i hi => by
    rw [List.getD_eq_getElem?_getD, List.getElem?_eq_getElem hi]
    exact r6 _ (List.getElem_mem hi)
  have e1 : x_shl pp 0 = pp := sl0 (by unfold x_i32; omega)
  refine x_met0 kT_getBytes (Nat.le_of_ble_eq_true rfl) ?_
  simp only [wq_g3, wq_gc, wq_g, wq_g1, wq_g2, eT_getBytes, iT_getBytes_0, iT_getBytes_43, vT_getBytes, wps, x_cnd, reduceIte, Nat.reduceAdd, Nat.reduceSub, Nat.reduceEqDiff, Nat.reduceLeDiff, Nat.lt_irrefl, Nat.reduceLT, Int.cast_ofNat_Int, wq_c0, wq_c1, true_and, and_true, and_self, true_implies, forall_const, ne_eq, Decidable.not_not, not_true_eq_false, not_false_eq_true, List.map_nil, List.map_cons, List.sum_nil, List.sum_cons, List.length_cons, List.length_nil, Nat.le_refl, Nat.zero_le, reduceCtorEq, true_or, or_true, false_or, or_false, false_and, and_false, false_implies, Nat.zero_add, Nat.add_zero, Int.reduceEq, Int.reduceNe, Int.reduceLT, Int.reduceLE, Int.reduceNeg, Int.reduceToNat, Nat.not_lt_zero, Int.reduceAdd, r1]
  (repeat refine ⟨by omega, ?_⟩)
  refine cTh_coder r1 r3 ?_
  simp only [wq_g3, wq_gc, wq_g, wq_g1, wq_g2, eT_getBytes, iT_getBytes_0, iT_getBytes_43, vT_getBytes, wps, x_cnd, reduceIte, Nat.reduceAdd, Nat.reduceSub, Nat.reduceEqDiff, Nat.reduceLeDiff, Nat.lt_irrefl, Nat.reduceLT, Int.cast_ofNat_Int, wq_c0, wq_c1, true_and, and_true, and_self, true_implies, forall_const, ne_eq, Decidable.not_not, not_true_eq_false, not_false_eq_true, List.map_nil, List.map_cons, List.sum_nil, List.sum_cons, List.length_cons, List.length_nil, Nat.le_refl, Nat.zero_le, reduceCtorEq, true_or, or_true, false_or, or_false, false_and, and_false, false_implies, Nat.zero_add, Nat.add_zero, Int.reduceEq, Int.reduceNe, Int.reduceLT, Int.reduceLE, Int.reduceNeg, Int.reduceToNat, Nat.not_lt_zero, Int.reduceAdd, r1, r2, hd, e1, r4, Int.reduceEq]
  (repeat' (first | apply And.intro | intro _)) <;> first | omega | exact k | skip
  all_goals
    rename_i j j1 j2
    have h9 := r5 j.toNat (by omega)
    rw [Int.toNat_of_nonneg j1] at h9
    have h8 := hc j.toNat (by omega)
    omega
theorem cY_ensure (R : sbR L M h b) {q : Int} (hq : 0 ≤ q ∧ q ≤ 1000) (k : ∀ M' h', sbR L M' h' b → q ≤ hL h' (hP h' b 0) → sbF b M h M' h' → Φ (.inl none) M' h') : x_Cal zY_ensureCapacityInternal [xA b, xI q] M h Φ := by
  obtain ⟨⟨r1, r2⟩, ⟨r3, r4⟩, ⟨r5, r6⟩, r7, r8, r9, r10⟩ := id R
  have h0 : 0 ≤ hL h (hP h b 0) := by omega
  have e1 : x_shr (hL h (hP h b 0)) 0 = hL h (hP h b 0) := sh0 (by unfold x_i32; omega)
  have nb : ¬ (b = hn h) := by omega
  have nb2 : ¬ (hP h b 0 = hn h) := by omega
  have ne : b ≠ hP h b 0 := fun e => by rw [← e, r1] at r2; exact absurd r2 (by decide)
  refine x_met0 kY_ensureCapacityInternal (Nat.le_of_ble_eq_true rfl) ?_
  simp only [wq_g3, wq_gc, wq_g, wq_g1, wq_g2, eY_ensureCapacityInternal, iY_ensureCapacityInternal_0, iY_ensureCapacityInternal_38, vY_ensureCapacityInternal, wps, x_cnd, reduceIte, Nat.reduceAdd, Nat.reduceSub, Nat.reduceEqDiff, Nat.reduceLeDiff, Nat.lt_irrefl, Nat.reduceLT, Int.cast_ofNat_Int, wq_c0, wq_c1, true_and, and_true, and_self, true_implies, forall_const, ne_eq, Decidable.not_not, not_true_eq_false, not_false_eq_true, List.map_nil, List.map_cons, List.sum_nil, List.sum_cons, List.length_cons, List.length_nil, Nat.le_refl, Nat.zero_le, reduceCtorEq, true_or, or_true, false_or, or_false, false_and, and_false, false_implies, Nat.zero_add, Nat.add_zero, Int.reduceEq, Int.reduceNe, Int.reduceLT, Int.reduceLE, Int.reduceNeg, Int.reduceToNat, Nat.not_lt_zero, Int.reduceAdd, r1, r2, r3, e1]
  simp (disch := omega) only [w32_of]
  (repeat refine ⟨by omega, ?_⟩)
  refine ⟨fun c0 => k M h R (by omega) sbF.rf, fun c0 => ?_⟩
  (repeat refine ⟨by omega, ?_⟩)
  refine cY_newCapacity r1 rfl r2 r3 ⟨h0, r6⟩ ⟨by omega, by omega⟩ ?_
  have e2 : x_shl (hL h (hP h b 0) + max (q - hL h (hP h b 0)) (hL h (hP h b 0) + 2)) 0 = hL h (hP h b 0) + max (q - hL h (hP h b 0)) (hL h (hP h b 0) + 2) := sl0 (by unfold x_i32; omega)
  simp only [wq_g3, wq_gc, wq_g, wq_g1, wq_g2, eY_ensureCapacityInternal, iY_ensureCapacityInternal_0, iY_ensureCapacityInternal_38, vY_ensureCapacityInternal, wps, x_cnd, reduceIte, Nat.reduceAdd, Nat.reduceSub, Nat.reduceEqDiff, Nat.reduceLeDiff, Nat.lt_irrefl, Nat.reduceLT, Int.cast_ofNat_Int, wq_c0, wq_c1, true_and, and_true, and_self, true_implies, forall_const, ne_eq, Decidable.not_not, not_true_eq_false, not_false_eq_true, List.map_nil, List.map_cons, List.sum_nil, List.sum_cons, List.length_cons, List.length_nil, Nat.le_refl, Nat.zero_le, reduceCtorEq, true_or, or_true, false_or, or_false, false_and, and_false, false_implies, Nat.zero_add, Nat.add_zero, Int.reduceEq, Int.reduceNe, Int.reduceLT, Int.reduceLE, Int.reduceNeg, Int.reduceToNat, Nat.not_lt_zero, Int.reduceAdd, r1, r2, r3, e1, e2]
  (repeat refine ⟨by omega, ?_⟩)
  refine cA_copyOf r2 h0 ⟨by omega, by omega⟩ (fun j j1 j2 => ⟨by have := (r8 j j1 j2).1; omega, (r8 j j1 j2).2⟩) r10 ?_
  simp only [wq_g3, wq_gc, wq_g, wq_g1, wq_g2, eY_ensureCapacityInternal, iY_ensureCapacityInternal_0, iY_ensureCapacityInternal_38, vY_ensureCapacityInternal, wps, x_cnd, reduceIte, Nat.reduceAdd, Nat.reduceSub, Nat.reduceEqDiff, Nat.reduceLeDiff, Nat.lt_irrefl, Nat.reduceLT, Int.cast_ofNat_Int, wq_c0, wq_c1, true_and, and_true, and_self, true_implies, forall_const, ne_eq, Decidable.not_not, not_true_eq_false, not_false_eq_true, List.map_nil, List.map_cons, List.sum_nil, List.sum_cons, List.length_cons, List.length_nil, Nat.le_refl, Nat.zero_le, reduceCtorEq, true_or, or_true, false_or, or_false, false_and, and_false, false_implies, Nat.zero_add, Nat.add_zero, Int.reduceEq, Int.reduceNe, Int.reduceLT, Int.reduceLE, Int.reduceNeg, Int.reduceToNat, Nat.not_lt_zero, Int.reduceAdd, r1, r2, r3, e1, e2, hK_new, nb]
  have ep : hP (x_pw (x_new h 21 (hL h (hP h b 0) + max (q - hL h (hP h b 0)) (hL h (hP h b 0) + 2))) b 0 (hn h)) b 0 = hn h := if_pos ⟨rfl, rfl⟩
  have em : ∀ a j, a ≠ hn h → x_cp (x_z M h) (hP h b 0) 0 (hn h) 0 (hL h (hP h b 0)) a j = M a j := fun a j ha => by
    rw [cp_ne ha, x_z_at, if_neg ha]
  have em2 : ∀ j : Int, 0 ≤ j → j < hL h (hP h b 0) → x_cp (x_z M h) (hP h b 0) 0 (hn h) 0 (hL h (hP h b 0)) (hn h) j = M (hP h b 0) j := fun j j1 j2 => by
    unfold x_cp
    rw [if_pos ⟨rfl, j1, by omega⟩, x_z_at, if_neg nb2]
    congr 1
    omega
  have em3 : ∀ j : Int, 0 ≤ j → ¬ j < hL h (hP h b 0) → x_cp (x_z M h) (hP h b 0) 0 (hn h) 0 (hL h (hP h b 0)) (hn h) j = 0 := fun j j1 j2 => by
    unfold x_cp
    rw [if_neg (by omega), x_z_at, if_pos rfl]
  refine k _ _ ⟨⟨?_, ?_⟩, ⟨?_, ?_⟩, ⟨?_, ?_⟩, fun i hi => ?_, fun j j1 j2 => ?_, ?_, ?_⟩ ?_ ⟨?_, fun a a1 a2 a3 j => ?_, fun a a1 => ⟨?_, ?_⟩, fun a a1 a2 j => ?_, Or.inr ?_⟩
  · rw [hK_pw, hK_new, if_neg nb]
    exact r1
  · rw [ep, hK_pw, hK_new, if_pos rfl]
  · rw [em b 1 nb]
    exact r3
  · rw [em b 3 nb]
    exact r4
  · rw [ep, hL_pw, hL_new, if_pos rfl]
    omega
  · rw [ep, hL_pw, hL_new, if_pos rfl]
    omega
  · rw [ep, em2 i (by omega) (by omega)]
    exact r7 i hi
  · rw [ep] at j2 ⊢
    by_cases hj : j < hL h (hP h b 0)
    · rw [em2 j j1 hj]
      exact r8 j j1 hj
    · rw [em3 j j1 hj]
      omega
  · rw [hn_pw, hn_new]
    omega
  · rw [ep, hn_pw, hn_new]
    omega
  · rw [ep, hL_pw, hL_new, if_pos rfl]
    omega
  · rw [hn_pw, hn_new]
    omega
  · exact em a j (by omega)
  · rw [hK_pw, hK_new, if_neg (by omega)]
  · rw [hL_pw, hL_new, if_neg (by omega)]
  · rw [hP_pw, if_neg (fun e => a2 e.1), hP_new, if_neg (by omega)]
  · rw [ep]
    exact Nat.le_refl _
end SBC
