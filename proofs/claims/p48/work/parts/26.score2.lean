/-! more methods of Score -/
section SCM2
variable {M : xM} {h : xH} {Φ : xO → xM → xH → Prop} {b : Nat}
set_option maxHeartbeats 1000000
def adV (b : Nat) (t first beats ins : Int) (a : Nat) (j : Int) : Int := if a = b + 1 then first + (j - t) else if a = b + 2 then beats else if a = b + 3 then ins else 0
/-- the memory when k new bars stand from place t on -/
def adM (M : xM) (b : Nat) (t k first beats ins : Int) : xM := fun a j => if b + 1 ≤ a ∧ a ≤ b + 5 ∧ t ≤ j ∧ j < t + k then adV b t first beats ins a j else if a = b + 6 ∧ 0 ≤ j ∧ j < 900 ∧ t ≤ j % 150 ∧ j % 150 < t + k then 0 else M a j
def adq (M : xM) (b : Nat) (t k first beats ins q : Int) : xM := fun a j => if b + 1 ≤ a ∧ a ≤ b + 5 ∧ t ≤ j ∧ j < t + k + 1 then adV b t first beats ins a j else if a = b + 6 ∧ 0 ≤ j ∧ j < 900 ∧ t ≤ j % 150 ∧ (j % 150 < t + k ∨ j % 150 = t + k ∧ j < q * 150) then 0 else M a j
theorem ad_0 (M : xM) (b : Nat) (t first beats ins : Int) : adM M b t 0 first beats ins = M := by
  funext a j
  unfold adM
  rw [if_neg (by omega), if_neg (by omega)]
theorem ad_q (M : xM) (b : Nat) (t k first beats ins : Int) (h1 : 0 ≤ t ∧ 0 ≤ k) : x_w (x_w (x_w (x_w (x_w (adM M b t k first beats ins) (b+1) (t+k) (first+k)) (b+2) (t+k) beats) (b+3) (t+k) ins) (b+4) (t+k) 0) (b+5) (t+k) 0 = adq M b t k first beats ins 0 := by
  funext a j
  simp only [x_w]
  by_cases hj : j = t + k
  · subst hj
    by_cases ha : b + 1 ≤ a ∧ a ≤ b + 5
    · unfold adq
      rw [if_pos (show b + 1 ≤ a ∧ a ≤ b + 5 ∧ t ≤ t + k ∧ t + k < t + k + 1 by omega)]
      unfold adV
      by_cases h5 : a = b + 5
      · subst h5; simp
      by_cases h4 : a = b + 4
      · subst h4; simp
      by_cases h3 : a = b + 3
      · subst h3; simp
      by_cases h2 : a = b + 2
      · subst h2; simp
      have h1 : a = b + 1 := by omega
      subst h1; simp; omega
    · unfold adM adq
      (repeat' split) <;> first | rfl | omega | (exfalso; omega)
  · unfold adM adq
    (repeat' split) <;> first | rfl | omega | (exfalso; omega)
theorem aq_s (M : xM) (b : Nat) (t k first beats ins q : Int) (h1 : 0 ≤ t ∧ 0 ≤ k ∧ t + k < 150) (h2 : 0 ≤ q ∧ q < 6) : x_w (adq M b t k first beats ins q) (b+6) (q * 150 + (t + k)) 0 = adq M b t k first beats ins (q + 1) := by
  funext a j
  simp only [x_w]
  unfold adq
  (repeat' split) <;> first | rfl | omega | (exfalso; omega)
theorem aq_6 (M : xM) (b : Nat) (t k first beats ins : Int) : adq M b t k first beats ins 6 = adM M b t (k + 1) first beats ins := by
  funext a j
  unfold adq adM
  (repeat' split) <;> first | rfl | omega | (exfalso; omega)
theorem cS_addBars (A : scA h b) {t c N : Nat} {first beats ins : Int} (h5 : M b 0 = N) (h6 : N + c ≤ 150) (h7 : t ≤ N) (h8 : 0 ≤ first ∧ first ≤ 1000000) (k : Φ (.inl none) (x_w (adM (mvM M b t (t + c) ((N - t : Nat) : Int)) b t c first beats ins) b 0 (N + c)) h) : x_Cal zS_addBars [xA b, xI t, xI c, xI first, xI beats, xI ins] M h Φ := by
  refine x_metI kS_addBars (Nat.le_of_ble_eq_true rfl) (fun pc m ls st M' h' cc n => st = [] ∧ h' = h ∧ cc = 0 ∧ n = 0 ∧ ls 0 = some (xA b) ∧ ls 1 = some (xI t) ∧ ls 2 = some (xI c) ∧ ls 3 = some (xI first) ∧ ls 4 = some (xI beats) ∧ ls 5 = some (xI ins) ∧ ∃ o : Nat, ls 6 = some (xI o) ∧ o ≤ c ∧ ((pc = 11 ∧ m = (c - o) * 10 ∧ M' = adM (mvM M b t (t + c) ((N - t : Nat) : Int)) b t o first beats ins) ∨ (pc = 71 ∧ o < c ∧ ls 7 = some (xI ((t : Int) + o)) ∧ ∃ q : Nat, ls 8 = some (xI q) ∧ q ≤ 6 ∧ m = (c - o) * 10 - 1 - q ∧ M' = adq (mvM M b t (t + c) ((N - t : Nat) : Int)) b t o first beats ins q))) 20 ?_ ?_
  · simp only [wq_g3, wq_gc, wq_g, wq_g1, wq_g2, eS_addBars, iS_addBars_0, iS_addBars_11, iS_addBars_71, iS_addBars_93, iS_addBars_99, vS_addBars, wps, x_cnd, reduceIte, Nat.reduceAdd, Nat.reduceSub, Nat.reduceEqDiff, Nat.reduceLeDiff, Nat.lt_irrefl, Nat.reduceLT, Int.cast_ofNat_Int, wq_c0, wq_c1, true_and, and_true, and_self, true_implies, forall_const, ne_eq, Decidable.not_not, not_true_eq_false, not_false_eq_true, List.map_nil, List.map_cons, List.sum_nil, List.sum_cons, List.length_cons, List.length_nil, Nat.le_refl, Nat.zero_le, reduceCtorEq, true_or, or_true, false_or, or_false, false_and, and_false, false_implies, Nat.zero_add, Nat.add_zero, scs A]
    rw [w32_of (by omega), show (t : Int) + c = ((t + c : Nat) : Int) by omega]
    refine cS_moveBars A h5 (by omega) (by omega) (by omega) (by omega) ?_
    simp only [wq_g3, wq_gc, wq_g, wq_g1, wq_g2, eS_addBars, iS_addBars_0, iS_addBars_11, iS_addBars_71, iS_addBars_93, iS_addBars_99, vS_addBars, wps, x_cnd, reduceIte, Nat.reduceAdd, Nat.reduceSub, Nat.reduceEqDiff, Nat.reduceLeDiff, Nat.lt_irrefl, Nat.reduceLT, Int.cast_ofNat_Int, wq_c0, wq_c1, true_and, and_true, and_self, true_implies, forall_const, ne_eq, Decidable.not_not, not_true_eq_false, not_false_eq_true, List.map_nil, List.map_cons, List.sum_nil, List.sum_cons, List.length_cons, List.length_nil, Nat.le_refl, Nat.zero_le, reduceCtorEq, true_or, or_true, false_or, or_false, false_and, and_false, false_implies, Nat.zero_add, Nat.add_zero, scs A]
    refine ⟨c * 10, 0, rfl, by omega, by omega, ?_⟩
    rw [show ((t + c : Nat) : Int) = (t : Int) + c by omega]
    exact (ad_0 ..).symm
  · rintro pc m ls st M' h' cc n ⟨rfl, rfl, rfl, rfl, l0, l1, l2, l3, l4, l5, o, l6, q1, ⟨rfl, q2, rfl⟩ | ⟨rfl, q2, l7, q, l8, q3, q4, rfl⟩⟩
    · have e0 : adM (mvM M b t (t + c) ((N - t : Nat) : Int)) b t o first beats ins b 0 = N := by
        unfold adM mvM
        rw [if_neg (by omega), if_neg (by omega), if_neg (by omega), if_neg (by omega), h5]
      simp only [wq_g3, wq_gc, wq_g, wq_g1, wq_g2, eS_addBars, iS_addBars_0, iS_addBars_11, iS_addBars_71, iS_addBars_93, iS_addBars_99, vS_addBars, wps, x_cnd, reduceIte, Nat.reduceAdd, Nat.reduceSub, Nat.reduceEqDiff, Nat.reduceLeDiff, Nat.lt_irrefl, Nat.reduceLT, Int.cast_ofNat_Int, wq_c0, wq_c1, true_and, and_true, and_self, true_implies, forall_const, ne_eq, Decidable.not_not, not_true_eq_false, not_false_eq_true, List.map_nil, List.map_cons, List.sum_nil, List.sum_cons, List.length_cons, List.length_nil, Nat.le_refl, Nat.zero_le, reduceCtorEq, true_or, or_true, false_or, or_false, false_and, and_false, false_implies, Nat.zero_add, Nat.add_zero, l0, l1, l2, l3, l4, l5, l6, scs A, e0]
      simp (disch := omega) only [w32_of]
      refine ⟨fun c0 => ?_, fun c0 => ⟨by omega, by omega, by omega, by omega, by omega, (c - o) * 10 - 1 - 0, by omega, o, rfl, by omega, by omega, rfl, 0, rfl, by omega, rfl, ?_⟩⟩
      · have e : o = c := by omega
        subst e
        exact k
      · exact ad_q _ _ _ _ _ _ _ (by omega)
    · simp only [wq_g3, wq_gc, wq_g, wq_g1, wq_g2, eS_addBars, iS_addBars_0, iS_addBars_11, iS_addBars_71, iS_addBars_93, iS_addBars_99, vS_addBars, wps, x_cnd, reduceIte, Nat.reduceAdd, Nat.reduceSub, Nat.reduceEqDiff, Nat.reduceLeDiff, Nat.lt_irrefl, Nat.reduceLT, Int.cast_ofNat_Int, wq_c0, wq_c1, true_and, and_true, and_self, true_implies, forall_const, ne_eq, Decidable.not_not, not_true_eq_false, not_false_eq_true, List.map_nil, List.map_cons, List.sum_nil, List.sum_cons, List.length_cons, List.length_nil, Nat.le_refl, Nat.zero_le, reduceCtorEq, true_or, or_true, false_or, or_false, false_and, and_false, false_implies, Nat.zero_add, Nat.add_zero, l0, l1, l2, l3, l4, l5, l6, l7, l8, scs A]
      refine ⟨fun c0 => ?_, fun c0 => ?_⟩
      · simp (disch := omega) only [w32_of]
        refine ⟨(c - (o + 1)) * 10, by omega, o + 1, rfl, by omega, rfl, ?_⟩
        rw [show (q : Int) = 6 by omega, aq_6]
        rfl
      · rw [show (t : Int) + o = ((t + o : Nat) : Int) by omega]
        refine cS_putContent A (by omega) (by omega) ?_
        simp only [wq_g3, wq_gc, wq_g, wq_g1, wq_g2, eS_addBars, iS_addBars_0, iS_addBars_11, iS_addBars_71, iS_addBars_93, iS_addBars_99, vS_addBars, wps, x_cnd, reduceIte, Nat.reduceAdd, Nat.reduceSub, Nat.reduceEqDiff, Nat.reduceLeDiff, Nat.lt_irrefl, Nat.reduceLT, Int.cast_ofNat_Int, wq_c0, wq_c1, true_and, and_true, and_self, true_implies, forall_const, ne_eq, Decidable.not_not, not_true_eq_false, not_false_eq_true, List.map_nil, List.map_cons, List.sum_nil, List.sum_cons, List.length_cons, List.length_nil, Nat.le_refl, Nat.zero_le, reduceCtorEq, true_or, or_true, false_or, or_false, false_and, and_false, false_implies, Nat.zero_add, Nat.add_zero, l0, l1, l2, l3, l4, l5, l6, l7, l8, scs A]
        simp (disch := omega) only [w32_of]
        refine ⟨(c - o) * 10 - 1 - (q + 1), by omega, o, rfl, by omega, by omega, rfl, q + 1, rfl, by omega, rfl, ?_⟩
        rw [show ((t + o : Nat) : Int) = (t : Int) + o by omega, aq_s _ _ _ _ _ _ _ _ (by omega) (by omega)]
        rfl
theorem cS_removeBar (A : scA h b) {p N : Nat} (h5 : M b 0 = N) (h6 : N ≤ 150) (h7 : p < N) (k : Φ (.inl none) (x_w (mvM M b (p + 1) p ((N - (p + 1) : Nat) : Int)) b 0 (N - 1)) h) : x_Cal zS_removeBar [xA b, xI p] M h Φ := by
  refine x_met0 kS_removeBar (Nat.le_of_ble_eq_true rfl) ?_
  simp only [wq_g3, wq_gc, wq_g, wq_g1, wq_g2, eS_removeBar, iS_removeBar_0, vS_removeBar, wps, x_cnd, reduceIte, Nat.reduceAdd, Nat.reduceSub, Nat.reduceEqDiff, Nat.reduceLeDiff, Nat.lt_irrefl, Nat.reduceLT, Int.cast_ofNat_Int, wq_c0, wq_c1, true_and, and_true, and_self, true_implies, forall_const, ne_eq, Decidable.not_not, not_true_eq_false, not_false_eq_true, List.map_nil, List.map_cons, List.sum_nil, List.sum_cons, List.length_cons, List.length_nil, Nat.le_refl, Nat.zero_le, reduceCtorEq, true_or, or_true, false_or, or_false, false_and, and_false, false_implies, Nat.zero_add, Nat.add_zero, scs A]
  rw [w32_of (by omega), show (p : Int) + 1 = ((p + 1 : Nat) : Int) by omega]
  refine cS_moveBars A h5 h6 (by omega) (by omega) (by omega) ?_
  have e0 : mvM M b ((p + 1 : Nat) : Int) p ((N - (p + 1) : Nat) : Int) b 0 = N := by
    unfold mvM
    rw [if_neg (by omega), if_neg (by omega), h5]
  simp only [wq_g3, wq_gc, wq_g, wq_g1, wq_g2, eS_removeBar, iS_removeBar_0, vS_removeBar, wps, x_cnd, reduceIte, Nat.reduceAdd, Nat.reduceSub, Nat.reduceEqDiff, Nat.reduceLeDiff, Nat.lt_irrefl, Nat.reduceLT, Int.cast_ofNat_Int, wq_c0, wq_c1, true_and, and_true, and_self, true_implies, forall_const, ne_eq, Decidable.not_not, not_true_eq_false, not_false_eq_true, List.map_nil, List.map_cons, List.sum_nil, List.sum_cons, List.length_cons, List.length_nil, Nat.le_refl, Nat.zero_le, reduceCtorEq, true_or, or_true, false_or, or_false, false_and, and_false, false_implies, Nat.zero_add, Nat.add_zero, scs A, e0]
  simp (disch := omega) only [w32_of]
  exact k
/-- the memory when the Score at o is copied to that at b -/
def cpL (i : Nat) : Int := if i ≤ 5 then 150 else if i = 6 then 900 else if i = 7 then 41 else 10
def cpM (M : xM) (b o : Nat) : xM := fun a j => if a = b ∧ 0 ≤ j ∧ j < 3 then M o j else if b + 1 ≤ a ∧ a ≤ b + 9 ∧ 0 ≤ j ∧ j < cpL (a - b) then M (o + (a - b)) j else M a j
theorem cp_e (M : xM) (b o : Nat) (h1 : b + 11 ≤ o ∨ o + 11 ≤ b) : x_cp (x_cp (x_cp (x_cp (x_cp (x_cp (x_cp (x_cp (x_cp (x_w (x_w (x_w M b 0 (M o 0)) b 1 (M o 1)) b 2 (M o 2)) (o+1) 0 (b+1) 0 150) (o+2) 0 (b+2) 0 150) (o+3) 0 (b+3) 0 150) (o+4) 0 (b+4) 0 150) (o+5) 0 (b+5) 0 150) (o+6) 0 (b+6) 0 900) (o+7) 0 (b+7) 0 41) (o+8) 0 (b+8) 0 10) (o+9) 0 (b+9) 0 10 = cpM M b o := by
  funext a j
  have e : ∀ x : Int, 0 + (x - 0) = x := fun x => by omega
  have n1 : ∀ i k : Nat, i ≤ 10 → k ≤ 10 → o + i ≠ b + k := fun i k _ _ => by omega
  have n2 : ∀ i : Nat, i ≤ 10 → o + i ≠ b := fun i _ => by omega
  have n3 : o ≠ b := by omega
  by_cases hb : a = b
  · subst hb
    rw [cp_ne (by omega), cp_ne (by omega), cp_ne (by omega), cp_ne (by omega), cp_ne (by omega), cp_ne (by omega), cp_ne (by omega), cp_ne (by omega), cp_ne (by omega)]
    unfold cpM
    rw [if_neg (by omega : ¬ (a + 1 ≤ a ∧ a ≤ a + 9 ∧ 0 ≤ j ∧ j < cpL (a - a)))]
    by_cases j0 : j = 0
    · subst j0; simp [x_w]
    by_cases j1 : j = 1
    · subst j1; simp [x_w]
    by_cases j2 : j = 2
    · subst j2; simp [x_w]
    rw [if_neg (by omega), w_nj j2, w_nj j1, w_nj j0]
  by_cases hr : b + 1 ≤ a ∧ a ≤ b + 9
  · obtain ⟨i, hi⟩ : ∃ i : Nat, a = b + i := ⟨a - b, by omega⟩
    subst hi
    unfold cpM
    rw [if_neg (by omega : ¬ (b + i = b ∧ 0 ≤ j ∧ j < 3)), show b + i - b = i by omega]
    have : i = 1 ∨ i = 2 ∨ i = 3 ∨ i = 4 ∨ i = 5 ∨ i = 6 ∨ i = 7 ∨ i = 8 ∨ i = 9 := by omega
    rcases this with rfl | rfl | rfl | rfl | rfl | rfl | rfl | rfl | rfl <;> simp [x_cp, x_w, cpL, e, n1, n2, n3]
  · rw [cp_ne (by omega), cp_ne (by omega), cp_ne (by omega), cp_ne (by omega), cp_ne (by omega), cp_ne (by omega), cp_ne (by omega), cp_ne (by omega), cp_ne (by omega), w_ne hb, w_ne hb, w_ne hb]
    unfold cpM
    rw [if_neg (by omega), if_neg (by omega)]
theorem cS_copyFrom (A : scA h b) {o : Nat} (B : scA h o) (h1 : b + 11 ≤ o ∨ o + 11 ≤ b) (k : ∀ h', (∀ a i, hP h' a i = if a = b + 10 ∧ 0 ≤ i ∧ i < 6 then hP h (o + 10) i else hP h a i) → h'.2 = h.2 → Φ (.inl none) (cpM M b o) h')
    (hn1 : ∀ i : Nat, i < 6 → hP h (o + 10) i = 0 ∨ hK h (hP h (o + 10) i) = 1) : x_Cal zS_copyFrom [xA b, xA o] M h Φ := by
  refine x_metI kS_copyFrom (Nat.le_of_ble_eq_true rfl) (fun t m ls st M' h' c n => t = 167 ∧ st = [] ∧ c = 0 ∧ n = 0 ∧ ls 0 = some (xA b) ∧ ls 1 = some (xA o) ∧ M' = cpM M b o ∧ ∃ p : Nat, ls 2 = some (xI p) ∧ p ≤ 6 ∧ m = 6 - p ∧ h'.2 = h.2 ∧ (∀ a i, hP h' a i = if a = b + 10 ∧ 0 ≤ i ∧ i < p then hP h (o + 10) i else hP h a i)) 20 ?_ ?_
  · have n1 : ∀ i k : Nat, i ≤ 10 → k ≤ 10 → o + i ≠ b + k := fun i k _ _ => by omega
    have e1 : x_w M b 0 (M o 0) o 1 = M o 1 := if_neg (by omega)
    have e2 : x_w (x_w M b 0 (M o 0)) b 1 (M o 1) o 2 = M o 2 := by
      unfold x_w
      rw [if_neg (by omega), if_neg (by omega)]
    simp only [wq_g3, wq_gc, wq_g, wq_g1, wq_g2, eS_copyFrom, iS_copyFrom_0, iS_copyFrom_167, iS_copyFrom_191, vS_copyFrom, wps, x_cnd, reduceIte, Nat.reduceAdd, Nat.reduceSub, Nat.reduceEqDiff, Nat.reduceLeDiff, Nat.lt_irrefl, Nat.reduceLT, Int.cast_ofNat_Int, wq_c0, wq_c1, true_and, and_true, and_self, true_implies, forall_const, ne_eq, Decidable.not_not, not_true_eq_false, not_false_eq_true, List.map_nil, List.map_cons, List.sum_nil, List.sum_cons, List.length_cons, List.length_nil, Nat.le_refl, Nat.zero_le, reduceCtorEq, true_or, or_true, false_or, or_false, false_and, and_false, false_implies, Nat.zero_add, Nat.add_zero, scs A, scs B, e1, e2]
    refine ⟨by omega, by omega, by omega, by omega, by omega, by omega, by omega, by omega, by omega, 6, cp_e M b o h1, 0, rfl, by omega, rfl, fun a i => by rw [if_neg (by omega)]⟩
  · rintro t m ls st M' h' c n ⟨rfl, rfl, rfl, rfl, l0, l1, rfl, p, l2, q1, q2, q3, q4⟩
    obtain ⟨e1, e2, e3⟩ := h2_k q3
    have A1 : hP h' b 12 = b + 10 := by
      rw [q4, if_neg (by omega)]
      simp only [scs A]
    have B1 : hP h' o 12 = o + 10 := by
      rw [q4, if_neg (by omega)]
      simp only [scs B]
    simp only [wq_g3, wq_gc, wq_g, wq_g1, wq_g2, eS_copyFrom, iS_copyFrom_0, iS_copyFrom_167, iS_copyFrom_191, vS_copyFrom, wps, x_cnd, reduceIte, Nat.reduceAdd, Nat.reduceSub, Nat.reduceEqDiff, Nat.reduceLeDiff, Nat.lt_irrefl, Nat.reduceLT, Int.cast_ofNat_Int, wq_c0, wq_c1, true_and, and_true, and_self, true_implies, forall_const, ne_eq, Decidable.not_not, not_true_eq_false, not_false_eq_true, List.map_nil, List.map_cons, List.sum_nil, List.sum_cons, List.length_cons, List.length_nil, Nat.le_refl, Nat.zero_le, reduceCtorEq, true_or, or_true, false_or, or_false, false_and, and_false, false_implies, Nat.zero_add, Nat.add_zero, l0, l1, l2, e1, e2, A1, B1, scs A, scs B]
    have hq : hP h' (o + 10) p = hP h (o + 10) p := by rw [q4, if_neg (by omega)]
    refine ⟨fun c0 => k h' (by rw [show (p : Int) = 6 by omega] at q4; exact q4) q3, fun c0 => ⟨by omega, by rw [hq]; exact hn1 p (by omega), by omega, 6 - (p + 1), by omega, p + 1, by rw [w32_of (by omega)]; rfl, by omega, rfl, q3, fun a i => ?_⟩⟩
    rw [hP_pw, hq, q4]
    by_cases hc : a = b + 10 ∧ i = p
    · rw [if_pos hc, if_pos (by omega), hc.2]
    · rw [if_neg hc]
      by_cases hd : a = b + 10 ∧ 0 ≤ i ∧ i < p
      · rw [if_pos hd, if_pos (by omega)]
      · rw [if_neg hd, if_neg (by omega)]
end SCM2
