/-! the law's look at errata -/
section LAW5
variable {A : xAb} {M M' : xM} {h h' : xH} {Φ : xO → xM → xH → Prop}
set_option maxHeartbeats 2000000
theorem CW.fm36 (C : CW A M h) (f : ∀ a j, ¬ (a = 36 ∧ 0 ≤ j ∧ j ≤ 2) → M' a j = M a j) : CW A M' h := C.same36 (fun a j ha => f a j (by omega))
theorem kd_rng {S : xSr} {part id : Int} {f : Int → Int} : 0 ≤ kd S part f id ∧ kd S part f id ≤ 6 := by
  unfold kd
  repeat' split
  all_goals omega
theorem kd_nd {S : xSr} {nid : Int} (W : wfS S nid) {part : Nat} (h6 : part < 6) {id : Int} (h0 : kd S part (sR S part) id ≠ 0) : kd S part (sR S part) id = 1 ↔ ndF (kd S part (sR S part) id) (sR S part id) = -1 := by
  refine ⟨fun h1 => by rw [h1]; rfl, fun h1 => ?_⟩
  rcases W.r h6 id with h2 | ⟨-, l, t, b, c, h2, h3, h4, h5, h7⟩
  · unfold kd at h0 ⊢
    rw [if_pos h2] at h0 ⊢
    split at h0
    · rename_i h9
      rw [if_pos h9]
    · exact absurd rfl h0
  · obtain ⟨q1, q2, q3, q4⟩ := pk4_d (l := l) h4 h5 h7
    by_cases hk : kd S part (sR S part) id = 1
    · exact hk
    · exfalso
      unfold ndF at h1
      rw [if_neg hk, h2, q1, q2, q3, q4] at h1
      split at h1
      · omega
      · split at h1
        · omega
        · split at h1 <;> omega
theorem anErr_at {S : xSr} {nid : Int} {part k : Nat} (hp : part < sP S) (hq : sQ S part = 1) (hk : (k : Int) < erN S part (sR S part) nid) : ∃ p : Nat, kdB S part (sR S part) p = true ∧ cn (kdB S part (sR S part)) p = k ∧ anErratum S nid part k 0 = .inl p ∧ anErratum S nid part k 1 = .inl (kd S part (sR S part) p) ∧ anErratum S nid part k 2 = .inl (ndF (kd S part (sR S part) p) (sR S part p)) := by
  obtain ⟨p, h1, h2, h3, h4⟩ := nth_some (P := kdB S part (sR S part)) (n := nid.toNat) (j := (k : Int)) (by omega) hk
  have e : erI S nid part k = p := h4
  have hr : ¬ ((k : Int) < 0 ∨ erN S part (sR S part) nid ≤ k) := by omega
  refine ⟨p, h2, h3, ?_, ?_, ?_⟩ <;> (unfold anErratum anPt; rw [if_pos (by omega), if_neg (by omega), if_pos hq, if_neg hr, e]; simp)
theorem cP_errW (C : CW A M h) {part e w v : Int} (hv : anErratum (aS A) (aI A) part e w = .inl v) (k : ∀ M', CW A M' h → Φ (.inl (some (xI v))) M' h) : x_Cal zP_erratum [xA 1, xI part, xI e, xI w] M h Φ := cP_erratum C (fun M' f => by rw [hv]; exact k M' (C.fm36 f))
theorem cl_errata (C : CW A M h) {part : Nat} (hp : part < 3) (hP : sP (aS A) = 3) (hI : aI A ≤ 77) (k : ∀ M', CW A M' h → Φ (.inl (some (xI 1))) M' h) : x_Cal zL_errata [xA 1, xI part] M h Φ := by
  have k1 := C.k1
  refine x_metI kL_errata (Nat.le_of_ble_eq_true rfl) (fun t m ls st M' h' c n => st = [] ∧ h' = h ∧ CW A M' h ∧ ls 0 = some (xA 1) ∧ ls 1 = some (xI part) ∧ t = 24 ∧ sQ (aS A) part = 1 ∧ ∃ (q : Nat) (lst : Int), m = 200 - q ∧ (q : Int) ≤ erN (aS A) part (sR (aS A) part) (aI A) ∧ ls 2 = some (xI (erN (aS A) part (sR (aS A) part) (aI A))) ∧ ls 3 = some (xI lst) ∧ ls 4 = some (xI 1) ∧ ls 5 = some (xI q) ∧ (∀ id : Nat, kdB (aS A) part (sR (aS A) part) id = true → cn (kdB (aS A) part (sR (aS A) part)) id = q → lst < id) ∧ c ≤ 3 + 9 * q ∧ n ≤ 18 + 54 * q) 20 ?_ ?_
  · simp only [wq_g3, wq_gc, wq_g, wq_g1, wq_g2, eL_errata, iL_errata_0, iL_errata_10, iL_errata_24, iL_errata_84, iL_errata_85, iL_errata_101, iL_errata_102, iL_errata_109, iL_errata_110, iL_errata_121, vL_errata, wps, x_cnd, reduceIte, Nat.reduceAdd, Nat.reduceSub, Nat.reduceEqDiff, Nat.reduceLeDiff, Nat.lt_irrefl, Nat.reduceLT, Int.cast_ofNat_Int, wq_c0, wq_c1, true_and, and_true, and_self, true_implies, forall_const, ne_eq, Decidable.not_not, not_true_eq_false, not_false_eq_true, List.map_nil, List.map_cons, List.sum_nil, List.sum_cons, List.length_cons, List.length_nil, Nat.le_refl, Nat.zero_le, reduceCtorEq, true_or, or_true, false_or, or_false, false_and, and_false, false_implies, Nat.zero_add, Nat.add_zero, Int.reduceEq, Int.reduceNe, Int.reduceLT, Int.reduceLE, Int.reduceNeg, Int.reduceToNat, Nat.not_lt_zero, Int.reduceAdd, k1]
    (repeat refine ⟨by omega, ?_⟩)
    refine cP_isPrintedV C (part := (part : Int)) (by omega) ?_
    simp only [wq_g3, wq_gc, wq_g, wq_g1, wq_g2, eL_errata, iL_errata_0, iL_errata_10, iL_errata_24, iL_errata_84, iL_errata_85, iL_errata_101, iL_errata_102, iL_errata_109, iL_errata_110, iL_errata_121, vL_errata, wps, x_cnd, reduceIte, Nat.reduceAdd, Nat.reduceSub, Nat.reduceEqDiff, Nat.reduceLeDiff, Nat.lt_irrefl, Nat.reduceLT, Int.cast_ofNat_Int, wq_c0, wq_c1, true_and, and_true, and_self, true_implies, forall_const, ne_eq, Decidable.not_not, not_true_eq_false, not_false_eq_true, List.map_nil, List.map_cons, List.sum_nil, List.sum_cons, List.length_cons, List.length_nil, Nat.le_refl, Nat.zero_le, reduceCtorEq, true_or, or_true, false_or, or_false, false_and, and_false, false_implies, Nat.zero_add, Nat.add_zero, Int.reduceEq, Int.reduceNe, Int.reduceLT, Int.reduceLE, Int.reduceNeg, Int.reduceToNat, Nat.not_lt_zero, Int.reduceAdd, k1, b01_0]
    refine ⟨fun c0 => ?_, fun c0 => k M C⟩
    (repeat refine ⟨by omega, ?_⟩)
    refine cP_errata C (fun M' f => ?_)
    have C' := C.fm36 f
    unfold anErrata anPt
    rw [if_pos (by omega), if_pos c0]
    simp only [wq_g3, wq_gc, wq_g, wq_g1, wq_g2, eL_errata, iL_errata_0, iL_errata_10, iL_errata_24, iL_errata_84, iL_errata_85, iL_errata_101, iL_errata_102, iL_errata_109, iL_errata_110, iL_errata_121, vL_errata, wps, x_cnd, reduceIte, Nat.reduceAdd, Nat.reduceSub, Nat.reduceEqDiff, Nat.reduceLeDiff, Nat.lt_irrefl, Nat.reduceLT, Int.cast_ofNat_Int, wq_c0, wq_c1, true_and, and_true, and_self, true_implies, forall_const, ne_eq, Decidable.not_not, not_true_eq_false, not_false_eq_true, List.map_nil, List.map_cons, List.sum_nil, List.sum_cons, List.length_cons, List.length_nil, Nat.le_refl, Nat.zero_le, reduceCtorEq, true_or, or_true, false_or, or_false, false_and, and_false, false_implies, Nat.zero_add, Nat.add_zero, Int.reduceEq, Int.reduceNe, Int.reduceLT, Int.reduceLE, Int.reduceNeg, Int.reduceToNat, Nat.not_lt_zero, Int.reduceAdd, k1, xo]
    exact ⟨_, C', c0, 0, -1, rfl, cn_rng.1, rfl, rfl, fun id _ _ => by omega, by omega, by omega⟩
  · rintro t m ls st M' h' c n ⟨rfl, rfl, C', l0, l1, rfl, hq, q, lst, m1, q1, l2, l3, l4, l5, hl, c1, n1⟩
    have hE : erN (aS A) part (sR (aS A) part) (aI A) ≤ 77 := by
      have h1 : erN (aS A) part (sR (aS A) part) (aI A) ≤ ((aI A).toNat : Nat) := cn_rng.2
      omega
    simp only [wq_g3, wq_gc, wq_g, wq_g1, wq_g2, eL_errata, iL_errata_0, iL_errata_10, iL_errata_24, iL_errata_84, iL_errata_85, iL_errata_101, iL_errata_102, iL_errata_109, iL_errata_110, iL_errata_121, vL_errata, wps, x_cnd, reduceIte, Nat.reduceAdd, Nat.reduceSub, Nat.reduceEqDiff, Nat.reduceLeDiff, Nat.lt_irrefl, Nat.reduceLT, Int.cast_ofNat_Int, wq_c0, wq_c1, true_and, and_true, and_self, true_implies, forall_const, ne_eq, Decidable.not_not, not_true_eq_false, not_false_eq_true, List.map_nil, List.map_cons, List.sum_nil, List.sum_cons, List.length_cons, List.length_nil, Nat.le_refl, Nat.zero_le, reduceCtorEq, true_or, or_true, false_or, or_false, false_and, and_false, false_implies, Nat.zero_add, Nat.add_zero, Int.reduceEq, Int.reduceNe, Int.reduceLT, Int.reduceLE, Int.reduceNeg, Int.reduceToNat, Nat.not_lt_zero, Int.reduceAdd, k1, l0, l1, l2, l3, l4, l5]
    refine ⟨fun c0 => k M' C', fun c0 => ?_⟩
    obtain ⟨p, p1, p2, a0, a1, a2⟩ := anErr_at (S := aS A) (nid := aI A) (part := part) (k := q) (by omega) hq (by omega)
    have p3 := hl p p1 p2
    have p4 := kd_rng (S := aS A) (part := part) (id := p) (f := sR (aS A) part)
    have p5 : kd (aS A) part (sR (aS A) part) p ≠ 0 := by
      unfold kdB at p1
      simpa using p1
    have p6 := kd_nd C'.w (part := part) (by omega) p5
    (repeat refine ⟨by omega, ?_⟩)
    refine cP_errW C' a0 (fun M1 C1 => ?_)
    simp only [wq_g3, wq_gc, wq_g, wq_g1, wq_g2, eL_errata, iL_errata_0, iL_errata_10, iL_errata_24, iL_errata_84, iL_errata_85, iL_errata_101, iL_errata_102, iL_errata_109, iL_errata_110, iL_errata_121, vL_errata, wps, x_cnd, reduceIte, Nat.reduceAdd, Nat.reduceSub, Nat.reduceEqDiff, Nat.reduceLeDiff, Nat.lt_irrefl, Nat.reduceLT, Int.cast_ofNat_Int, wq_c0, wq_c1, true_and, and_true, and_self, true_implies, forall_const, ne_eq, Decidable.not_not, not_true_eq_false, not_false_eq_true, List.map_nil, List.map_cons, List.sum_nil, List.sum_cons, List.length_cons, List.length_nil, Nat.le_refl, Nat.zero_le, reduceCtorEq, true_or, or_true, false_or, or_false, false_and, and_false, false_implies, Nat.zero_add, Nat.add_zero, Int.reduceEq, Int.reduceNe, Int.reduceLT, Int.reduceLE, Int.reduceNeg, Int.reduceToNat, Nat.not_lt_zero, Int.reduceAdd, k1, l0, l1, l2, l3, l4, l5]
    (repeat refine ⟨by omega, ?_⟩)
    refine cP_errW C1 a1 (fun M2 C2 => ?_)
    have g1 : ¬ ((p : Int) ≤ lst) := by omega
    have g2 : ¬ (kd (aS A) part (sR (aS A) part) p < 1) := by omega
    have g3 : ¬ (6 < kd (aS A) part (sR (aS A) part) p) := by omega
    have fin : ∀ id : Nat, kdB (aS A) part (sR (aS A) part) id = true → cn (kdB (aS A) part (sR (aS A) part)) id = ((q + 1 : Nat) : Int) → (p : Int) < id := fun id _ i2 => by
      by_cases hip : id ≤ p
      · have := cn_mono (P := kdB (aS A) part (sR (aS A) part)) hip
        omega
      · omega
    have fin2 : (q : Int) + 1 = ((q + 1 : Nat) : Int) := by omega
    by_cases hk : kd (aS A) part (sR (aS A) part) p = 1
    · rw [hk] at a1 a2 g2 g3
      simp only [wq_g3, wq_gc, wq_g, wq_g1, wq_g2, eL_errata, iL_errata_0, iL_errata_10, iL_errata_24, iL_errata_84, iL_errata_85, iL_errata_101, iL_errata_102, iL_errata_109, iL_errata_110, iL_errata_121, vL_errata, wps, x_cnd, reduceIte, Nat.reduceAdd, Nat.reduceSub, Nat.reduceEqDiff, Nat.reduceLeDiff, Nat.lt_irrefl, Nat.reduceLT, Int.cast_ofNat_Int, wq_c0, wq_c1, true_and, and_true, and_self, true_implies, forall_const, ne_eq, Decidable.not_not, not_true_eq_false, not_false_eq_true, List.map_nil, List.map_cons, List.sum_nil, List.sum_cons, List.length_cons, List.length_nil, Nat.le_refl, Nat.zero_le, reduceCtorEq, true_or, or_true, false_or, or_false, false_and, and_false, false_implies, Nat.zero_add, Nat.add_zero, Int.reduceEq, Int.reduceNe, Int.reduceLT, Int.reduceLE, Int.reduceNeg, Int.reduceToNat, Nat.not_lt_zero, Int.reduceAdd, k1, l0, l1, l2, l3, l4, l5, g1, hk]
      (repeat refine ⟨by omega, ?_⟩)
      refine cP_errW C2 a2 (fun M3 C3 => ?_)
      have e9 : ndF 1 (sR (aS A) part p) = -1 := rfl
      simp only [wq_g3, wq_gc, wq_g, wq_g1, wq_g2, eL_errata, iL_errata_0, iL_errata_10, iL_errata_24, iL_errata_84, iL_errata_85, iL_errata_101, iL_errata_102, iL_errata_109, iL_errata_110, iL_errata_121, vL_errata, wps, x_cnd, reduceIte, Nat.reduceAdd, Nat.reduceSub, Nat.reduceEqDiff, Nat.reduceLeDiff, Nat.lt_irrefl, Nat.reduceLT, Int.cast_ofNat_Int, wq_c0, wq_c1, true_and, and_true, and_self, true_implies, forall_const, ne_eq, Decidable.not_not, not_true_eq_false, not_false_eq_true, List.map_nil, List.map_cons, List.sum_nil, List.sum_cons, List.length_cons, List.length_nil, Nat.le_refl, Nat.zero_le, reduceCtorEq, true_or, or_true, false_or, or_false, false_and, and_false, false_implies, Nat.zero_add, Nat.add_zero, Int.reduceEq, Int.reduceNe, Int.reduceLT, Int.reduceLE, Int.reduceNeg, Int.reduceToNat, Nat.not_lt_zero, Int.reduceAdd, k1, l0, l1, l2, l3, l4, l5, g1, hk, e9]
      simp (disch := omega) only [w32_of]
      exact ⟨200 - (q + 1), by omega, C3, hq, q + 1, p, rfl, by omega, rfl, by rw [fin2], fin, by omega, by omega⟩
    · have e9 : ¬ (ndF (kd (aS A) part (sR (aS A) part) p) (sR (aS A) part p) = -1) := fun e => hk (p6.mpr e)
      simp only [wq_g3, wq_gc, wq_g, wq_g1, wq_g2, eL_errata, iL_errata_0, iL_errata_10, iL_errata_24, iL_errata_84, iL_errata_85, iL_errata_101, iL_errata_102, iL_errata_109, iL_errata_110, iL_errata_121, vL_errata, wps, x_cnd, reduceIte, Nat.reduceAdd, Nat.reduceSub, Nat.reduceEqDiff, Nat.reduceLeDiff, Nat.lt_irrefl, Nat.reduceLT, Int.cast_ofNat_Int, wq_c0, wq_c1, true_and, and_true, and_self, true_implies, forall_const, ne_eq, Decidable.not_not, not_true_eq_false, not_false_eq_true, List.map_nil, List.map_cons, List.sum_nil, List.sum_cons, List.length_cons, List.length_nil, Nat.le_refl, Nat.zero_le, reduceCtorEq, true_or, or_true, false_or, or_false, false_and, and_false, false_implies, Nat.zero_add, Nat.add_zero, Int.reduceEq, Int.reduceNe, Int.reduceLT, Int.reduceLE, Int.reduceNeg, Int.reduceToNat, Nat.not_lt_zero, Int.reduceAdd, k1, l0, l1, l2, l3, l4, l5, g1, g2, g3, hk]
      (repeat refine ⟨by omega, ?_⟩)
      refine cP_errW C2 a2 (fun M3 C3 => ?_)
      simp only [wq_g3, wq_gc, wq_g, wq_g1, wq_g2, eL_errata, iL_errata_0, iL_errata_10, iL_errata_24, iL_errata_84, iL_errata_85, iL_errata_101, iL_errata_102, iL_errata_109, iL_errata_110, iL_errata_121, vL_errata, wps, x_cnd, reduceIte, Nat.reduceAdd, Nat.reduceSub, Nat.reduceEqDiff, Nat.reduceLeDiff, Nat.lt_irrefl, Nat.reduceLT, Int.cast_ofNat_Int, wq_c0, wq_c1, true_and, and_true, and_self, true_implies, forall_const, ne_eq, Decidable.not_not, not_true_eq_false, not_false_eq_true, List.map_nil, List.map_cons, List.sum_nil, List.sum_cons, List.length_cons, List.length_nil, Nat.le_refl, Nat.zero_le, reduceCtorEq, true_or, or_true, false_or, or_false, false_and, and_false, false_implies, Nat.zero_add, Nat.add_zero, Int.reduceEq, Int.reduceNe, Int.reduceLT, Int.reduceLE, Int.reduceNeg, Int.reduceToNat, Nat.not_lt_zero, Int.reduceAdd, k1, l0, l1, l2, l3, l4, l5, e9]
      simp (disch := omega) only [w32_of]
      exact ⟨200 - (q + 1), by omega, C3, hq, q + 1, p, rfl, by omega, rfl, by rw [fin2], fin, by omega, by omega⟩
end LAW5
