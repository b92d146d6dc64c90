/-! the law's look at a part's items -/
section LAW6
variable {A : xAb} {M M' : xM} {h h' : xH} {Φ : xO → xM → xH → Prop} {S : xSr} {nid part : Int}
set_option maxHeartbeats 2000000
theorem pN_nat : (((pN S).toNat : Nat) : Int) = pN S := Int.toNat_of_nonneg pN_rng.1
theorem stt_0 : stt S part 0 = true := by
  unfold stt
  simp
theorem lrl_nth {n : Nat} : ∀ i : Nat, i + 1 ≤ n → lrl S part (i + 1) = ((i + 1 : Nat) : Int) - nth (stt S part) n (cn (stt S part) (i + 1) - 1)
  | i, hi => by
    rw [lrl_s]
    cases hT : stt S part i with
    | true =>
      rw [if_pos rfl, cn_s1 hT, show cn (stt S part) i + 1 - 1 = cn (stt S part) i by omega, nth_at (by omega) hT]
      omega
    | false =>
      rw [if_neg (by decide), cn_s0 hT]
      cases i with
      | zero => rw [show ((0 : Nat) : Int) = 0 from rfl, stt_0] at hT; cases hT
      | succ i =>
        rw [lrl_nth (n := n) i (by omega)]
        omega
theorem anItem_at {it : Int} {s : Nat} (hp : 0 ≤ part ∧ part < sP S) (h : itS S part it = s) (w : Int) : anItem S part it w = if w < 0 ∨ 3 < w then .inr 1 else if w = 0 then .inl (sI S (pp S s)) else if w = 1 then .inl ((nx (stt S part) s (pN S).toNat : Int) - s) else if w = 2 then .inl (sC S part (pp S s)) else .inl (bts S s (nx (stt S part) s (pN S).toNat)) := by
  have h2 : ¬ ((s : Int) = -1) := by omega
  unfold anItem anPt
  rw [if_pos hp]
  unfold itE
  rw [h]
  simp [h2]
theorem it_at (w : wfS S nid) (hp : 0 ≤ part ∧ part < sP S) {k i : Nat} (hk : k < sN S) (hpl : isP S k = true) (hi : pb S k = i) :
    pp S i = k ∧ (i : Int) < pN S ∧
    ((stt S part i = true ∧ anItemOf S part (sI S k) = .inl (1000 * cn (stt S part) i) ∧ anItem S part (cn (stt S part) i) 2 = .inl (sC S part k) ∧ (∃ v, anItem S part (cn (stt S part) i) 1 = .inl v ∧ 1 ≤ v) ∧ anItem S part (cn (stt S part) i) 0 = .inl (sI S k)) ∨
    (stt S part i = false ∧ anItemOf S part (sI S k) = .inl (1000 * (cn (stt S part) i - 1) + lrl S part i) ∧ 1 ≤ cn (stt S part) i ∧ anReason S (sI S k) = .inl 0 ∧ sC S part k = 0 ∧ anItem S part (cn (stt S part) i - 1) 2 = .inl 0 ∧ ∃ v, anItem S part (cn (stt S part) i - 1) 1 = .inl v ∧ lrl S part i + 1 ≤ v)) := by
  have e1 : pp S i = k := by rw [← hi]; exact pp_at hk hpl
  have e2 : (i : Int) < pN S := by rw [← hi]; exact pb_lt hk hpl
  have e3 := pN_nat (S := S)
  have e4 : cov S k = 0 := isP_iff.mp hpl
  have e5 := pl_at w hk
  have e6 : ∀ f : Nat → Int, anPl S (sI S k) f = .inl (f i) := fun f => by
    unfold anPl
    rw [e5, if_neg (by omega), if_neg (by rw [e4]; decide), Int.toNat_natCast, hi, Int.toNat_natCast]
  have e7 : anItemOf S part (sI S k) = .inl (1000 * (cn (stt S part) (i + 1) - 1) + (i - itS S part (cn (stt S part) (i + 1) - 1))) := by
    unfold anItemOf anPt
    rw [if_pos hp, e6]
  refine ⟨e1, e2, ?_⟩
  cases hT : stt S part i with
  | true =>
    have hs : itS S part (cn (stt S part) i) = i := nth_at (by omega) hT
    refine Or.inl ⟨rfl, ?_, ?_, ?_, ?_⟩
    · rw [e7, cn_s1 hT, show cn (stt S part) i + 1 - 1 = cn (stt S part) i by omega, hs]
      congr 1
      omega
    · rw [anItem_at hp hs, e1]
      rfl
    · rw [anItem_at hp hs]
      refine ⟨_, rfl, ?_⟩
      obtain ⟨n1, n2, n3⟩ := nx_spec (P := stt S part) (s := i) (n := (pN S).toNat)
      by_cases hn9 : nx (stt S part) i (pN S).toNat < (pN S).toNat
      · have := (n3 hn9).1
        omega
      · omega
    · rw [anItem_at hp hs, e1]
      rfl
  | false =>
    have hi0 : i ≠ 0 := fun e => by
      rw [e, show ((0 : Nat) : Int) = 0 from rfl, stt_0] at hT
      cases hT
    have hc1 : 1 ≤ cn (stt S part) i := by
      have := cn_lt (P := stt S part) (m := 0) (n := i) (by omega) stt_0
      rw [cn_z] at this
      omega
    obtain ⟨s, s1, s2, s3, s4⟩ := nth_some (P := stt S part) (n := i) (j := cn (stt S part) i - 1) (by omega) (by omega)
    have s5 : itS S part (cn (stt S part) i - 1) = s := (nth_more (m := i) (by omega) (by omega)).trans s4
    have s6 : ∀ q : Nat, s < q → q ≤ i → stt S part q = false := fun q q1 q2 => by
      by_cases hq : q = i
      · subst hq; exact hT
      · cases hTq : stt S part q with
        | false => rfl
        | true =>
          have g1 := cn_lt q1 s2
          have g2 := cn_lt (P := stt S part) (m := q) (n := i) (by omega) hTq
          omega
    have s7 : lrl S part i = i - s := by
      obtain ⟨i0, rfl⟩ : ∃ i0, i = i0 + 1 := ⟨i - 1, by omega⟩
      rw [lrl_nth (n := (pN S).toNat) i0 (by omega)]
      have : nth (stt S part) (pN S).toNat (cn (stt S part) (i0 + 1) - 1) = s := s5
      rw [this]
    have t1 : ∀ q : Nat, stt S part q = false → q ≠ 0 → sC S part (pp S q) = 0 ∧ sC S part (pp S ((q : Int) - 1)) = 0 ∧ rsn S q = 0 := fun q hq _ => by
      unfold stt at hq
      simp only [Bool.or_eq_false_iff, bne_eq_false_iff_eq] at hq
      exact hq.2
    obtain ⟨u1, u2, u3⟩ := t1 i hT hi0
    rw [e1] at u1
    have u4 : sC S part (pp S s) = 0 := by
      have := (t1 (s + 1) (s6 (s + 1) (by omega) (by omega)) (by omega)).2.1
      rw [show ((s + 1 : Nat) : Int) - 1 = s by omega] at this
      exact this
    refine Or.inr ⟨rfl, ?_, hc1, ?_, u1, ?_, ?_⟩
    · rw [e7, cn_s0 hT, s5, s7]
    · unfold anReason
      rw [e6, u3]
    · rw [anItem_at hp s5, u4]
      rfl
    · rw [anItem_at hp s5]
      refine ⟨_, rfl, ?_⟩
      obtain ⟨n1, n2, n3⟩ := nx_spec (P := stt S part) (s := s) (n := (pN S).toNat)
      by_cases hn9 : nx (stt S part) s (pN S).toNat < (pN S).toNat
      · obtain ⟨n4, n5⟩ := n3 hn9
        by_cases hle : nx (stt S part) s (pN S).toNat ≤ i
        · rw [s6 _ n4 hle] at n5
          cases n5
        · omega
      · omega
theorem kX {z : xMD} {as : List xV} {an : xAn} {v : Int} (hv : an = .inl v) (hM : ∀ k : Φ (xo an) M h, x_Cal z as M h Φ) (k : Φ (.inl (some (xI v))) M h) : x_Cal z as M h Φ := hM (by rw [hv]; exact k)
theorem cl_items (C : CW A M h) {part : Nat} (hp : part < 3) (hP : sP (aS A) = 3) (hN : sN (aS A) ≤ 64) (k : Φ (.inl (some (xI 1))) M h) : x_Cal zL_items [xA 1, xI part] M h Φ := by
  have k1 := C.k1
  have hp2 : 0 ≤ (part : Int) ∧ (part : Int) < sP (aS A) := by omega
  refine x_metI kL_items (Nat.le_of_ble_eq_true rfl) (fun t m ls st M' h' c n => st = [] ∧ M' = M ∧ h' = h ∧ ls 0 = some (xA 1) ∧ ls 1 = some (xI part) ∧ t = 20 ∧ ∃ q i : Nat, m = 200 - q ∧ q ≤ sN (aS A) ∧ pb (aS A) q = i ∧ ls 2 = some (xI (itN (aS A) part)) ∧ ls 3 = some (xI (cn (stt (aS A) part) i - 1)) ∧ ls 4 = some (xI (lrl (aS A) part i)) ∧ ls 5 = some (xI (lrb (aS A) part i)) ∧ ls 6 = some (xI 1) ∧ ls 7 = some (xI q) ∧ c ≤ 1 + 19 * q ∧ n ≤ 6 + 114 * q) 40 ?_ ?_
  · simp only [wq_g3, wq_gc, wq_g, wq_g1, wq_g2, eL_items, iL_items_0, iL_items_20, iL_items_56, iL_items_81, iL_items_82, iL_items_121, iL_items_125, iL_items_126, iL_items_139, iL_items_140, iL_items_150, iL_items_154, iL_items_207, iL_items_211, iL_items_212, iL_items_234, iL_items_236, iL_items_238, iL_items_244, iL_items_270, iL_items_271, vL_items, wps, x_cnd, reduceIte, Nat.reduceAdd, Nat.reduceSub, Nat.reduceEqDiff, Nat.reduceLeDiff, Nat.lt_irrefl, Nat.reduceLT, Int.cast_ofNat_Int, wq_c0, wq_c1, true_and, and_true, and_self, true_implies, forall_const, ne_eq, Decidable.not_not, not_true_eq_false, not_false_eq_true, List.map_nil, List.map_cons, List.sum_nil, List.sum_cons, List.length_cons, List.length_nil, Nat.le_refl, Nat.zero_le, reduceCtorEq, true_or, or_true, false_or, or_false, false_and, and_false, false_implies, Nat.zero_add, Nat.add_zero, Int.reduceEq, Int.reduceNe, Int.reduceLT, Int.reduceLE, Int.reduceNeg, Int.reduceToNat, Nat.not_lt_zero, Int.reduceAdd, k1]
    refine cP_items C ?_
    unfold anItems anPt
    rw [if_pos hp2]
    simp only [wq_g3, wq_gc, wq_g, wq_g1, wq_g2, eL_items, iL_items_0, iL_items_20, iL_items_56, iL_items_81, iL_items_82, iL_items_121, iL_items_125, iL_items_126, iL_items_139, iL_items_140, iL_items_150, iL_items_154, iL_items_207, iL_items_211, iL_items_212, iL_items_234, iL_items_236, iL_items_238, iL_items_244, iL_items_270, iL_items_271, vL_items, wps, x_cnd, reduceIte, Nat.reduceAdd, Nat.reduceSub, Nat.reduceEqDiff, Nat.reduceLeDiff, Nat.lt_irrefl, Nat.reduceLT, Int.cast_ofNat_Int, wq_c0, wq_c1, true_and, and_true, and_self, true_implies, forall_const, ne_eq, Decidable.not_not, not_true_eq_false, not_false_eq_true, List.map_nil, List.map_cons, List.sum_nil, List.sum_cons, List.length_cons, List.length_nil, Nat.le_refl, Nat.zero_le, reduceCtorEq, true_or, or_true, false_or, or_false, false_and, and_false, false_implies, Nat.zero_add, Nat.add_zero, Int.reduceEq, Int.reduceNe, Int.reduceLT, Int.reduceLE, Int.reduceNeg, Int.reduceToNat, Nat.not_lt_zero, Int.reduceAdd, k1, xo]
    exact ⟨_, 0, 0, rfl, by omega, rfl, rfl, rfl, rfl, rfl, by omega, by omega⟩
  · rintro t m ls st M' h' c n ⟨rfl, rfl, rfl, l0, l1, rfl, q, i, m1, q1, hi, l2, l3, l4, l5, l6, l7, c1, n1⟩
    have e1 : (q : Int) + 1 = ((q + 1 : Nat) : Int) := by omega
    simp only [wq_g3, wq_gc, wq_g, wq_g1, wq_g2, eL_items, iL_items_0, iL_items_20, iL_items_56, iL_items_81, iL_items_82, iL_items_121, iL_items_125, iL_items_126, iL_items_139, iL_items_140, iL_items_150, iL_items_154, iL_items_207, iL_items_211, iL_items_212, iL_items_234, iL_items_236, iL_items_238, iL_items_244, iL_items_270, iL_items_271, vL_items, wps, x_cnd, reduceIte, Nat.reduceAdd, Nat.reduceSub, Nat.reduceEqDiff, Nat.reduceLeDiff, Nat.lt_irrefl, Nat.reduceLT, Int.cast_ofNat_Int, wq_c0, wq_c1, true_and, and_true, and_self, true_implies, forall_const, ne_eq, Decidable.not_not, not_true_eq_false, not_false_eq_true, List.map_nil, List.map_cons, List.sum_nil, List.sum_cons, List.length_cons, List.length_nil, Nat.le_refl, Nat.zero_le, reduceCtorEq, true_or, or_true, false_or, or_false, false_and, and_false, false_implies, Nat.zero_add, Nat.add_zero, Int.reduceEq, Int.reduceNe, Int.reduceLT, Int.reduceLE, Int.reduceNeg, Int.reduceToNat, Nat.not_lt_zero, Int.reduceAdd, k1, l0, l1, l2, l3, l4, l5, l6, l7]
    (repeat refine ⟨by omega, ?_⟩)
    refine cP_bars C ?_
    simp only [wq_g3, wq_gc, wq_g, wq_g1, wq_g2, eL_items, iL_items_0, iL_items_20, iL_items_56, iL_items_81, iL_items_82, iL_items_121, iL_items_125, iL_items_126, iL_items_139, iL_items_140, iL_items_150, iL_items_154, iL_items_207, iL_items_211, iL_items_212, iL_items_234, iL_items_236, iL_items_238, iL_items_244, iL_items_270, iL_items_271, vL_items, wps, x_cnd, reduceIte, Nat.reduceAdd, Nat.reduceSub, Nat.reduceEqDiff, Nat.reduceLeDiff, Nat.lt_irrefl, Nat.reduceLT, Int.cast_ofNat_Int, wq_c0, wq_c1, true_and, and_true, and_self, true_implies, forall_const, ne_eq, Decidable.not_not, not_true_eq_false, not_false_eq_true, List.map_nil, List.map_cons, List.sum_nil, List.sum_cons, List.length_cons, List.length_nil, Nat.le_refl, Nat.zero_le, reduceCtorEq, true_or, or_true, false_or, or_false, false_and, and_false, false_implies, Nat.zero_add, Nat.add_zero, Int.reduceEq, Int.reduceNe, Int.reduceLT, Int.reduceLE, Int.reduceNeg, Int.reduceToNat, Nat.not_lt_zero, Int.reduceAdd, k1, l0, l1, l2, l3, l4, l5, l6, l7]
    refine ⟨fun c0 => ?_, fun c0 => ?_⟩
    · have hq : q = sN (aS A) := by omega
      subst hq
      have hi2 : pN (aS A) = i := hi
      have e2 : (pN (aS A)).toNat = i := by omega
      have e3 : itN (aS A) part = cn (stt (aS A) part) i := by
        unfold itN
        rw [e2]
      have e4 := cn_rng (P := stt (aS A) part) (n := i)
      have hN2 := C.w.N
      have hi3 := (pN_rng (S := aS A)).2
      rw [e3]
      simp (disch := omega) only [w32_of]
      refine ⟨fun c => absurd trivial c, fun _ => ?_⟩
      (repeat refine ⟨by omega, ?_⟩)
      refine cP_longestRest C ?_
      unfold anLongest anPt
      rw [if_pos hp2, e2]
      simp only [wq_g3, wq_gc, wq_g, wq_g1, wq_g2, eL_items, iL_items_0, iL_items_20, iL_items_56, iL_items_81, iL_items_82, iL_items_121, iL_items_125, iL_items_126, iL_items_139, iL_items_140, iL_items_150, iL_items_154, iL_items_207, iL_items_211, iL_items_212, iL_items_234, iL_items_236, iL_items_238, iL_items_244, iL_items_270, iL_items_271, vL_items, wps, x_cnd, reduceIte, Nat.reduceAdd, Nat.reduceSub, Nat.reduceEqDiff, Nat.reduceLeDiff, Nat.lt_irrefl, Nat.reduceLT, Int.cast_ofNat_Int, wq_c0, wq_c1, true_and, and_true, and_self, true_implies, forall_const, ne_eq, Decidable.not_not, not_true_eq_false, not_false_eq_true, List.map_nil, List.map_cons, List.sum_nil, List.sum_cons, List.length_cons, List.length_nil, Nat.le_refl, Nat.zero_le, reduceCtorEq, true_or, or_true, false_or, or_false, false_and, and_false, false_implies, Nat.zero_add, Nat.add_zero, Int.reduceEq, Int.reduceNe, Int.reduceLT, Int.reduceLE, Int.reduceNeg, Int.reduceToNat, Nat.not_lt_zero, Int.reduceAdd, k1, xo]
      exact k
    · (repeat refine ⟨by omega, ?_⟩)
      refine cP_barAtV C (p := q) (by omega) ?_
      simp only [wq_g3, wq_gc, wq_g, wq_g1, wq_g2, eL_items, iL_items_0, iL_items_20, iL_items_56, iL_items_81, iL_items_82, iL_items_121, iL_items_125, iL_items_126, iL_items_139, iL_items_140, iL_items_150, iL_items_154, iL_items_207, iL_items_211, iL_items_212, iL_items_234, iL_items_236, iL_items_238, iL_items_244, iL_items_270, iL_items_271, vL_items, wps, x_cnd, reduceIte, Nat.reduceAdd, Nat.reduceSub, Nat.reduceEqDiff, Nat.reduceLeDiff, Nat.lt_irrefl, Nat.reduceLT, Int.cast_ofNat_Int, wq_c0, wq_c1, true_and, and_true, and_self, true_implies, forall_const, ne_eq, Decidable.not_not, not_true_eq_false, not_false_eq_true, List.map_nil, List.map_cons, List.sum_nil, List.sum_cons, List.length_cons, List.length_nil, Nat.le_refl, Nat.zero_le, reduceCtorEq, true_or, or_true, false_or, or_false, false_and, and_false, false_implies, Nat.zero_add, Nat.add_zero, Int.reduceEq, Int.reduceNe, Int.reduceLT, Int.reduceLE, Int.reduceNeg, Int.reduceToNat, Nat.not_lt_zero, Int.reduceAdd, k1, l0, l1, l2, l3, l4, l5, l6, l7]
      (repeat refine ⟨by omega, ?_⟩)
      refine cP_barV C (p := q) (by omega) (by omega) ?_
      have e6 : bv (aS A) q 6 = b01 (cov (aS A) q = 0) := rfl
      rw [e6]
      simp only [wq_g3, wq_gc, wq_g, wq_g1, wq_g2, eL_items, iL_items_0, iL_items_20, iL_items_56, iL_items_81, iL_items_82, iL_items_121, iL_items_125, iL_items_126, iL_items_139, iL_items_140, iL_items_150, iL_items_154, iL_items_207, iL_items_211, iL_items_212, iL_items_234, iL_items_236, iL_items_238, iL_items_244, iL_items_270, iL_items_271, vL_items, wps, x_cnd, reduceIte, Nat.reduceAdd, Nat.reduceSub, Nat.reduceEqDiff, Nat.reduceLeDiff, Nat.lt_irrefl, Nat.reduceLT, Int.cast_ofNat_Int, wq_c0, wq_c1, true_and, and_true, and_self, true_implies, forall_const, ne_eq, Decidable.not_not, not_true_eq_false, not_false_eq_true, List.map_nil, List.map_cons, List.sum_nil, List.sum_cons, List.length_cons, List.length_nil, Nat.le_refl, Nat.zero_le, reduceCtorEq, true_or, or_true, false_or, or_false, false_and, and_false, false_implies, Nat.zero_add, Nat.add_zero, Int.reduceEq, Int.reduceNe, Int.reduceLT, Int.reduceLE, Int.reduceNeg, Int.reduceToNat, Nat.not_lt_zero, Int.reduceAdd, k1, l0, l1, l2, l3, l4, l5, l6, l7, b01_0]
      have hN2 := C.w.N
      have hpb : ((i : Nat) : Int) ≤ q := by
        have := (pb_rng (S := aS A) (p := q)).2
        omega
      have g1 := cn_rng (P := stt (aS A) part) (n := i)
      have g2 := lrl_rng (aS A) part i
      refine ⟨fun c2 => ?_, fun c2 => ?_⟩
      · have hP1 : isP (aS A) q = true := isP_iff.mpr c2
        have hi1 : pb (aS A) (q + 1) = ((i + 1 : Nat) : Int) := by
          have := cn_s1 (P := isP (aS A)) (n := q) hP1
          unfold pb at hi ⊢
          omega
        obtain ⟨f1, f2, f3⟩ := it_at C.w hp2 (k := q) (by omega) hP1 hi
        have hb : lrb (aS A) part (i + 1) = if sC (aS A) part q = 0 then max (lrb (aS A) part i) (lrl (aS A) part (i + 1)) else lrb (aS A) part i := by rw [lrb_s, f1]
        (repeat refine ⟨by omega, ?_⟩)
        rcases f3 with ⟨hT, a1, a2, ⟨v, a3, a4⟩, a5⟩ | ⟨hT, a1, a2, a3, a4, a5, v, a6, a7⟩
        · refine kX a1 (cP_itemOf C) ?_
          have hl := lrl_s (aS A) part i
          rw [if_pos hT] at hl
          rw [hl] at hb
          have hc := cn_s1 hT
          generalize cn (stt (aS A) part) i = ct at *
          have ec : ct - 1 + 1 = ct := by omega
          simp only [wq_g3, wq_gc, wq_g, wq_g1, wq_g2, eL_items, iL_items_0, iL_items_20, iL_items_56, iL_items_81, iL_items_82, iL_items_121, iL_items_125, iL_items_126, iL_items_139, iL_items_140, iL_items_150, iL_items_154, iL_items_207, iL_items_211, iL_items_212, iL_items_234, iL_items_236, iL_items_238, iL_items_244, iL_items_270, iL_items_271, vL_items, wps, x_cnd, reduceIte, Nat.reduceAdd, Nat.reduceSub, Nat.reduceEqDiff, Nat.reduceLeDiff, Nat.lt_irrefl, Nat.reduceLT, Int.cast_ofNat_Int, wq_c0, wq_c1, true_and, and_true, and_self, true_implies, forall_const, ne_eq, Decidable.not_not, not_true_eq_false, not_false_eq_true, List.map_nil, List.map_cons, List.sum_nil, List.sum_cons, List.length_cons, List.length_nil, Nat.le_refl, Nat.zero_le, reduceCtorEq, true_or, or_true, false_or, or_false, false_and, and_false, false_implies, Nat.zero_add, Nat.add_zero, Int.reduceEq, Int.reduceNe, Int.reduceLT, Int.reduceLE, Int.reduceNeg, Int.reduceToNat, Nat.not_lt_zero, Int.reduceAdd, k1, l0, l1, l2, l3, l4, l5, l6, l7]
          simp (disch := omega) only [w32_of]
          simp only [ec]
          refine ⟨fun c3 => absurd trivial c3, fun _ => ?_⟩
          (repeat refine ⟨by omega, ?_⟩)
          refine kX a2 (cP_item C) ?_
          simp only [wq_g3, wq_gc, wq_g, wq_g1, wq_g2, eL_items, iL_items_0, iL_items_20, iL_items_56, iL_items_81, iL_items_82, iL_items_121, iL_items_125, iL_items_126, iL_items_139, iL_items_140, iL_items_150, iL_items_154, iL_items_207, iL_items_211, iL_items_212, iL_items_234, iL_items_236, iL_items_238, iL_items_244, iL_items_270, iL_items_271, vL_items, wps, x_cnd, reduceIte, Nat.reduceAdd, Nat.reduceSub, Nat.reduceEqDiff, Nat.reduceLeDiff, Nat.lt_irrefl, Nat.reduceLT, Int.cast_ofNat_Int, wq_c0, wq_c1, true_and, and_true, and_self, true_implies, forall_const, ne_eq, Decidable.not_not, not_true_eq_false, not_false_eq_true, List.map_nil, List.map_cons, List.sum_nil, List.sum_cons, List.length_cons, List.length_nil, Nat.le_refl, Nat.zero_le, reduceCtorEq, true_or, or_true, false_or, or_false, false_and, and_false, false_implies, Nat.zero_add, Nat.add_zero, Int.reduceEq, Int.reduceNe, Int.reduceLT, Int.reduceLE, Int.reduceNeg, Int.reduceToNat, Nat.not_lt_zero, Int.reduceAdd, k1, l0, l1, l2, l3, l4, l5, l6, l7]
          (repeat refine ⟨by omega, ?_⟩)
          refine cP_contentV C (p := q) (by omega) hp2 ?_
          simp only [wq_g3, wq_gc, wq_g, wq_g1, wq_g2, eL_items, iL_items_0, iL_items_20, iL_items_56, iL_items_81, iL_items_82, iL_items_121, iL_items_125, iL_items_126, iL_items_139, iL_items_140, iL_items_150, iL_items_154, iL_items_207, iL_items_211, iL_items_212, iL_items_234, iL_items_236, iL_items_238, iL_items_244, iL_items_270, iL_items_271, vL_items, wps, x_cnd, reduceIte, Nat.reduceAdd, Nat.reduceSub, Nat.reduceEqDiff, Nat.reduceLeDiff, Nat.lt_irrefl, Nat.reduceLT, Int.cast_ofNat_Int, wq_c0, wq_c1, true_and, and_true, and_self, true_implies, forall_const, ne_eq, Decidable.not_not, not_true_eq_false, not_false_eq_true, List.map_nil, List.map_cons, List.sum_nil, List.sum_cons, List.length_cons, List.length_nil, Nat.le_refl, Nat.zero_le, reduceCtorEq, true_or, or_true, false_or, or_false, false_and, and_false, false_implies, Nat.zero_add, Nat.add_zero, Int.reduceEq, Int.reduceNe, Int.reduceLT, Int.reduceLE, Int.reduceNeg, Int.reduceToNat, Nat.not_lt_zero, Int.reduceAdd, k1, l0, l1, l2, l3, l4, l5, l6, l7]
          (repeat refine ⟨by omega, ?_⟩)
          refine kX a3 (cP_item C) ?_
          simp only [wq_g3, wq_gc, wq_g, wq_g1, wq_g2, eL_items, iL_items_0, iL_items_20, iL_items_56, iL_items_81, iL_items_82, iL_items_121, iL_items_125, iL_items_126, iL_items_139, iL_items_140, iL_items_150, iL_items_154, iL_items_207, iL_items_211, iL_items_212, iL_items_234, iL_items_236, iL_items_238, iL_items_244, iL_items_270, iL_items_271, vL_items, wps, x_cnd, reduceIte, Nat.reduceAdd, Nat.reduceSub, Nat.reduceEqDiff, Nat.reduceLeDiff, Nat.lt_irrefl, Nat.reduceLT, Int.cast_ofNat_Int, wq_c0, wq_c1, true_and, and_true, and_self, true_implies, forall_const, ne_eq, Decidable.not_not, not_true_eq_false, not_false_eq_true, List.map_nil, List.map_cons, List.sum_nil, List.sum_cons, List.length_cons, List.length_nil, Nat.le_refl, Nat.zero_le, reduceCtorEq, true_or, or_true, false_or, or_false, false_and, and_false, false_implies, Nat.zero_add, Nat.add_zero, Int.reduceEq, Int.reduceNe, Int.reduceLT, Int.reduceLE, Int.reduceNeg, Int.reduceToNat, Nat.not_lt_zero, Int.reduceAdd, k1, l0, l1, l2, l3, l4, l5, l6, l7]
          refine ⟨fun c3 => absurd c3 (by omega), fun _ => ?_⟩
          (repeat refine ⟨by omega, ?_⟩)
          refine kX a5 (cP_item C) ?_
          simp only [wq_g3, wq_gc, wq_g, wq_g1, wq_g2, eL_items, iL_items_0, iL_items_20, iL_items_56, iL_items_81, iL_items_82, iL_items_121, iL_items_125, iL_items_126, iL_items_139, iL_items_140, iL_items_150, iL_items_154, iL_items_207, iL_items_211, iL_items_212, iL_items_234, iL_items_236, iL_items_238, iL_items_244, iL_items_270, iL_items_271, vL_items, wps, x_cnd, reduceIte, Nat.reduceAdd, Nat.reduceSub, Nat.reduceEqDiff, Nat.reduceLeDiff, Nat.lt_irrefl, Nat.reduceLT, Int.cast_ofNat_Int, wq_c0, wq_c1, true_and, and_true, and_self, true_implies, forall_const, ne_eq, Decidable.not_not, not_true_eq_false, not_false_eq_true, List.map_nil, List.map_cons, List.sum_nil, List.sum_cons, List.length_cons, List.length_nil, Nat.le_refl, Nat.zero_le, reduceCtorEq, true_or, or_true, false_or, or_false, false_and, and_false, false_implies, Nat.zero_add, Nat.add_zero, Int.reduceEq, Int.reduceNe, Int.reduceLT, Int.reduceLE, Int.reduceNeg, Int.reduceToNat, Nat.not_lt_zero, Int.reduceAdd, k1, l0, l1, l2, l3, l4, l5, l6, l7]
          (repeat refine ⟨by omega, ?_⟩)
          refine cP_contentV C (p := q) (by omega) hp2 ?_
          simp only [wq_g3, wq_gc, wq_g, wq_g1, wq_g2, eL_items, iL_items_0, iL_items_20, iL_items_56, iL_items_81, iL_items_82, iL_items_121, iL_items_125, iL_items_126, iL_items_139, iL_items_140, iL_items_150, iL_items_154, iL_items_207, iL_items_211, iL_items_212, iL_items_234, iL_items_236, iL_items_238, iL_items_244, iL_items_270, iL_items_271, vL_items, wps, x_cnd, reduceIte, Nat.reduceAdd, Nat.reduceSub, Nat.reduceEqDiff, Nat.reduceLeDiff, Nat.lt_irrefl, Nat.reduceLT, Int.cast_ofNat_Int, wq_c0, wq_c1, true_and, and_true, and_self, true_implies, forall_const, ne_eq, Decidable.not_not, not_true_eq_false, not_false_eq_true, List.map_nil, List.map_cons, List.sum_nil, List.sum_cons, List.length_cons, List.length_nil, Nat.le_refl, Nat.zero_le, reduceCtorEq, true_or, or_true, false_or, or_false, false_and, and_false, false_implies, Nat.zero_add, Nat.add_zero, Int.reduceEq, Int.reduceNe, Int.reduceLT, Int.reduceLE, Int.reduceNeg, Int.reduceToNat, Nat.not_lt_zero, Int.reduceAdd, k1, l0, l1, l2, l3, l4, l5, l6, l7]
          refine ⟨fun c3 => ?_, fun c3 => ?_⟩
          · simp (disch := omega) only [w32_of]
            refine ⟨200 - (q + 1), by omega, q + 1, i + 1, rfl, by omega, hi1, ?_, ?_, ?_, by rw [e1], by omega, by omega⟩
            · rw [hc, show ct + 1 - 1 = ct by omega]
            · rw [hl]
            · rw [hb, if_neg c3]
          · simp (disch := omega) only [w32_of]
            refine ⟨200 - (q + 1), by omega, q + 1, i + 1, rfl, by omega, hi1, ?_, ?_, ?_, by rw [e1], by omega, by omega⟩
            · rw [hc, show ct + 1 - 1 = ct by omega]
            · rw [hl]
            · rw [hb, if_pos c3]
        · refine kX a1 (cP_itemOf C) ?_
          have hl := lrl_s (aS A) part i
          rw [hT, if_neg (by decide)] at hl
          rw [hl, if_pos a4] at hb
          have hc := cn_s0 hT
          generalize cn (stt (aS A) part) i = ct at *
          generalize lrl (aS A) part i = lr at *
          have n1' : ¬ (1000 * (ct - 1) + lr = 1000 * (ct - 1 + 1)) := by omega
          simp only [wq_g3, wq_gc, wq_g, wq_g1, wq_g2, eL_items, iL_items_0, iL_items_20, iL_items_56, iL_items_81, iL_items_82, iL_items_121, iL_items_125, iL_items_126, iL_items_139, iL_items_140, iL_items_150, iL_items_154, iL_items_207, iL_items_211, iL_items_212, iL_items_234, iL_items_236, iL_items_238, iL_items_244, iL_items_270, iL_items_271, vL_items, wps, x_cnd, reduceIte, Nat.reduceAdd, Nat.reduceSub, Nat.reduceEqDiff, Nat.reduceLeDiff, Nat.lt_irrefl, Nat.reduceLT, Int.cast_ofNat_Int, wq_c0, wq_c1, true_and, and_true, and_self, true_implies, forall_const, ne_eq, Decidable.not_not, not_true_eq_false, not_false_eq_true, List.map_nil, List.map_cons, List.sum_nil, List.sum_cons, List.length_cons, List.length_nil, Nat.le_refl, Nat.zero_le, reduceCtorEq, true_or, or_true, false_or, or_false, false_and, and_false, false_implies, Nat.zero_add, Nat.add_zero, Int.reduceEq, Int.reduceNe, Int.reduceLT, Int.reduceLE, Int.reduceNeg, Int.reduceToNat, Nat.not_lt_zero, Int.reduceAdd, k1, l0, l1, l2, l3, l4, l5, l6, l7]
          simp (disch := omega) only [w32_of]
          refine ⟨fun _ => ⟨fun c3 => absurd trivial c3, fun _ => ?_⟩, fun c3 => absurd c3 n1'⟩
          (repeat refine ⟨by omega, ?_⟩)
          refine kX a3 (cP_reason C) ?_
          simp only [wq_g3, wq_gc, wq_g, wq_g1, wq_g2, eL_items, iL_items_0, iL_items_20, iL_items_56, iL_items_81, iL_items_82, iL_items_121, iL_items_125, iL_items_126, iL_items_139, iL_items_140, iL_items_150, iL_items_154, iL_items_207, iL_items_211, iL_items_212, iL_items_234, iL_items_236, iL_items_238, iL_items_244, iL_items_270, iL_items_271, vL_items, wps, x_cnd, reduceIte, Nat.reduceAdd, Nat.reduceSub, Nat.reduceEqDiff, Nat.reduceLeDiff, Nat.lt_irrefl, Nat.reduceLT, Int.cast_ofNat_Int, wq_c0, wq_c1, true_and, and_true, and_self, true_implies, forall_const, ne_eq, Decidable.not_not, not_true_eq_false, not_false_eq_true, List.map_nil, List.map_cons, List.sum_nil, List.sum_cons, List.length_cons, List.length_nil, Nat.le_refl, Nat.zero_le, reduceCtorEq, true_or, or_true, false_or, or_false, false_and, and_false, false_implies, Nat.zero_add, Nat.add_zero, Int.reduceEq, Int.reduceNe, Int.reduceLT, Int.reduceLE, Int.reduceNeg, Int.reduceToNat, Nat.not_lt_zero, Int.reduceAdd, k1, l0, l1, l2, l3, l4, l5, l6, l7]
          (repeat refine ⟨by omega, ?_⟩)
          refine cP_contentV C (p := q) (by omega) hp2 ?_
          rw [a4]
          simp only [wq_g3, wq_gc, wq_g, wq_g1, wq_g2, eL_items, iL_items_0, iL_items_20, iL_items_56, iL_items_81, iL_items_82, iL_items_121, iL_items_125, iL_items_126, iL_items_139, iL_items_140, iL_items_150, iL_items_154, iL_items_207, iL_items_211, iL_items_212, iL_items_234, iL_items_236, iL_items_238, iL_items_244, iL_items_270, iL_items_271, vL_items, wps, x_cnd, reduceIte, Nat.reduceAdd, Nat.reduceSub, Nat.reduceEqDiff, Nat.reduceLeDiff, Nat.lt_irrefl, Nat.reduceLT, Int.cast_ofNat_Int, wq_c0, wq_c1, true_and, and_true, and_self, true_implies, forall_const, ne_eq, Decidable.not_not, not_true_eq_false, not_false_eq_true, List.map_nil, List.map_cons, List.sum_nil, List.sum_cons, List.length_cons, List.length_nil, Nat.le_refl, Nat.zero_le, reduceCtorEq, true_or, or_true, false_or, or_false, false_and, and_false, false_implies, Nat.zero_add, Nat.add_zero, Int.reduceEq, Int.reduceNe, Int.reduceLT, Int.reduceLE, Int.reduceNeg, Int.reduceToNat, Nat.not_lt_zero, Int.reduceAdd, k1, l0, l1, l2, l3, l4, l5, l6, l7]
          (repeat refine ⟨by omega, ?_⟩)
          refine kX a5 (cP_item C) ?_
          simp only [wq_g3, wq_gc, wq_g, wq_g1, wq_g2, eL_items, iL_items_0, iL_items_20, iL_items_56, iL_items_81, iL_items_82, iL_items_121, iL_items_125, iL_items_126, iL_items_139, iL_items_140, iL_items_150, iL_items_154, iL_items_207, iL_items_211, iL_items_212, iL_items_234, iL_items_236, iL_items_238, iL_items_244, iL_items_270, iL_items_271, vL_items, wps, x_cnd, reduceIte, Nat.reduceAdd, Nat.reduceSub, Nat.reduceEqDiff, Nat.reduceLeDiff, Nat.lt_irrefl, Nat.reduceLT, Int.cast_ofNat_Int, wq_c0, wq_c1, true_and, and_true, and_self, true_implies, forall_const, ne_eq, Decidable.not_not, not_true_eq_false, not_false_eq_true, List.map_nil, List.map_cons, List.sum_nil, List.sum_cons, List.length_cons, List.length_nil, Nat.le_refl, Nat.zero_le, reduceCtorEq, true_or, or_true, false_or, or_false, false_and, and_false, false_implies, Nat.zero_add, Nat.add_zero, Int.reduceEq, Int.reduceNe, Int.reduceLT, Int.reduceLE, Int.reduceNeg, Int.reduceToNat, Nat.not_lt_zero, Int.reduceAdd, k1, l0, l1, l2, l3, l4, l5, l6, l7]
          (repeat refine ⟨by omega, ?_⟩)
          refine cP_contentV C (p := q) (by omega) hp2 ?_
          rw [a4]
          simp only [wq_g3, wq_gc, wq_g, wq_g1, wq_g2, eL_items, iL_items_0, iL_items_20, iL_items_56, iL_items_81, iL_items_82, iL_items_121, iL_items_125, iL_items_126, iL_items_139, iL_items_140, iL_items_150, iL_items_154, iL_items_207, iL_items_211, iL_items_212, iL_items_234, iL_items_236, iL_items_238, iL_items_244, iL_items_270, iL_items_271, vL_items, wps, x_cnd, reduceIte, Nat.reduceAdd, Nat.reduceSub, Nat.reduceEqDiff, Nat.reduceLeDiff, Nat.lt_irrefl, Nat.reduceLT, Int.cast_ofNat_Int, wq_c0, wq_c1, true_and, and_true, and_self, true_implies, forall_const, ne_eq, Decidable.not_not, not_true_eq_false, not_false_eq_true, List.map_nil, List.map_cons, List.sum_nil, List.sum_cons, List.length_cons, List.length_nil, Nat.le_refl, Nat.zero_le, reduceCtorEq, true_or, or_true, false_or, or_false, false_and, and_false, false_implies, Nat.zero_add, Nat.add_zero, Int.reduceEq, Int.reduceNe, Int.reduceLT, Int.reduceLE, Int.reduceNeg, Int.reduceToNat, Nat.not_lt_zero, Int.reduceAdd, k1, l0, l1, l2, l3, l4, l5, l6, l7]
          (repeat refine ⟨by omega, ?_⟩)
          refine kX a6 (cP_item C) ?_
          simp only [wq_g3, wq_gc, wq_g, wq_g1, wq_g2, eL_items, iL_items_0, iL_items_20, iL_items_56, iL_items_81, iL_items_82, iL_items_121, iL_items_125, iL_items_126, iL_items_139, iL_items_140, iL_items_150, iL_items_154, iL_items_207, iL_items_211, iL_items_212, iL_items_234, iL_items_236, iL_items_238, iL_items_244, iL_items_270, iL_items_271, vL_items, wps, x_cnd, reduceIte, Nat.reduceAdd, Nat.reduceSub, Nat.reduceEqDiff, Nat.reduceLeDiff, Nat.lt_irrefl, Nat.reduceLT, Int.cast_ofNat_Int, wq_c0, wq_c1, true_and, and_true, and_self, true_implies, forall_const, ne_eq, Decidable.not_not, not_true_eq_false, not_false_eq_true, List.map_nil, List.map_cons, List.sum_nil, List.sum_cons, List.length_cons, List.length_nil, Nat.le_refl, Nat.zero_le, reduceCtorEq, true_or, or_true, false_or, or_false, false_and, and_false, false_implies, Nat.zero_add, Nat.add_zero, Int.reduceEq, Int.reduceNe, Int.reduceLT, Int.reduceLE, Int.reduceNeg, Int.reduceToNat, Nat.not_lt_zero, Int.reduceAdd, k1, l0, l1, l2, l3, l4, l5, l6, l7]
          simp (disch := omega) only [w32_of]
          refine ⟨fun c3 => absurd c3 (by omega), fun _ => ?_⟩
          (repeat refine ⟨by omega, ?_⟩)
          refine cP_contentV C (p := q) (by omega) hp2 ?_
          rw [a4]
          simp only [wq_g3, wq_gc, wq_g, wq_g1, wq_g2, eL_items, iL_items_0, iL_items_20, iL_items_56, iL_items_81, iL_items_82, iL_items_121, iL_items_125, iL_items_126, iL_items_139, iL_items_140, iL_items_150, iL_items_154, iL_items_207, iL_items_211, iL_items_212, iL_items_234, iL_items_236, iL_items_238, iL_items_244, iL_items_270, iL_items_271, vL_items, wps, x_cnd, reduceIte, Nat.reduceAdd, Nat.reduceSub, Nat.reduceEqDiff, Nat.reduceLeDiff, Nat.lt_irrefl, Nat.reduceLT, Int.cast_ofNat_Int, wq_c0, wq_c1, true_and, and_true, and_self, true_implies, forall_const, ne_eq, Decidable.not_not, not_true_eq_false, not_false_eq_true, List.map_nil, List.map_cons, List.sum_nil, List.sum_cons, List.length_cons, List.length_nil, Nat.le_refl, Nat.zero_le, reduceCtorEq, true_or, or_true, false_or, or_false, false_and, and_false, false_implies, Nat.zero_add, Nat.add_zero, Int.reduceEq, Int.reduceNe, Int.reduceLT, Int.reduceLE, Int.reduceNeg, Int.reduceToNat, Nat.not_lt_zero, Int.reduceAdd, k1, l0, l1, l2, l3, l4, l5, l6, l7]
          simp (disch := omega) only [w32_of]
          refine ⟨200 - (q + 1), by omega, q + 1, i + 1, rfl, by omega, hi1, ?_, ?_, ?_, by rw [e1], by omega, by omega⟩
          · rw [hc]
          · rw [hl]
          · rw [hb]
      · have hP0 : isP (aS A) q = false := by
          cases hb : isP (aS A) q with
          | false => rfl
          | true => exact absurd (isP_iff.mp hb) c2
        have hi1 : pb (aS A) (q + 1) = (i : Int) := by
          have := cn_s0 (P := isP (aS A)) (n := q) hP0
          unfold pb at hi ⊢
          omega
        simp (disch := omega) only [w32_of]
        exact ⟨200 - (q + 1), by omega, q + 1, i, rfl, by omega, hi1, rfl, rfl, rfl, by rw [e1], by omega, by omega⟩
end LAW6
