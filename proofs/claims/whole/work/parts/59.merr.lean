/-! the model's questions: errata -/
section MERR
variable {A : xAb} {M M' : xM} {h : xH} {Φ : xO → xM → xH → Prop} {S : xSr} {nid : Int}
set_option maxHeartbeats 1000000
theorem kd_rng {part id : Int} {f : Int → Int} : 0 ≤ kd S part f id ∧ kd S part f id ≤ 6 := by
  unfold kd
  repeat' split
  all_goals omega
theorem kdB_t {part id : Int} {f : Int → Int} : kdB S part f id = true ↔ kd S part f id ≠ 0 := by
  unfold kdB
  exact bne_iff_ne
theorem err_300 (w : wfS S nid) {part : Nat} {f : Int → Int} (N : NT (sR S part) part f) {n : Nat} : cn (kdB S part (sR S part)) n ≤ 300 := by
  obtain ⟨K, n1, n2, n3, n4⟩ := N
  have hN := w.N
  have := cn_cover (P := kdB S part (sR S part)) (f := fun p => if p < sN S then sI S p else f (371 + 300 * part + 2 * (p - sN S))) (N := sN S + K) (n := n) (fun q hq hp => by
    rw [kdB_t] at hp
    by_cases h1 : pl S q = -1
    · by_cases h2 : sR S part q = -1
      · exact absurd (kd_out h1 h2) hp
      · obtain ⟨k, k1, k2⟩ := n4 q h2
        refine ⟨sN S + k, by omega, ?_⟩
        show (if ((sN S + k : Nat) : Int) < sN S then _ else _) = _
        rw [if_neg (by omega), show ((sN S + k : Nat) : Int) - sN S = k by omega]
        exact k2
    · obtain ⟨p, p1, p2, p3⟩ := pl_some h1
      refine ⟨p, by omega, ?_⟩
      show (if (p : Int) < sN S then _ else _) = _
      rw [if_pos (by omega)]
      exact p3)
  omega
/-- what laysErrata lays -/
def LE (S : xSr) (nid : Int) (part : Int) (M : xM) : Prop := M 41 30 = erN S part (sR S part) nid ∧ ∀ j : Nat, (j : Int) < erN S part (sR S part) nid → M 54 j = erI S nid part j
theorem good_rng (w : wfS S nid) {part : Nat} (h6 : part < 6) {id : Int} (h : pl S id ≠ -1 ∨ sR S part id ≠ -1) : 0 ≤ id ∧ id < nid := by
  rcases h with h | h
  · obtain ⟨p, p1, p2, p3⟩ := pl_some h
    have := w.id p1
    omega
  · exact NT_r w h6 h
theorem cM_laysErrata (W : MW A M h) {part : Nat} (h6 : part < 6) (hq : sQ (aS A) part = 1) (k : ∀ M2, MW A M2 h → LK (aS A) M2 → LE (aS A) (aI A) part M2 → FM M M2 → M2 41 0 = M 41 0 → Φ (.inl none) M2 h) : x_Cal zM_laysErrata [xA 41, xI part] M h Φ := by
  have F := W.F
  have hN := W.w.N
  obtain ⟨-, hi0, hi1⟩ := W.2.2.2.2.1
  refine x_metI kM_laysErrata (Nat.le_of_ble_eq_true rfl) (fun t m ls st M' h' c2 n2 => t = 16 ∧ st = [] ∧ h' = h ∧ c2 = 0 ∧ n2 = 0 ∧ ls 0 = some (xA 41) ∧ ls 1 = some (xI part) ∧ MW A M' h ∧ LK (aS A) M' ∧ FM M M' ∧ M' 41 0 = M 41 0 ∧ ∃ (r : Int) (u : Nat), (u : Int) ≤ aI A ∧ m = (aI A).toNat - u ∧ ls 2 = some (xI r) ∧ idA2 (aS A) part ((u : Int) - 1) r ∧ M' 41 30 = cn (kdB (aS A) part (sR (aS A) part)) u ∧ ∀ j : Nat, (j : Int) < cn (kdB (aS A) part (sR (aS A) part)) u → M' 54 j = erI (aS A) (aI A) part j) 20 ?_ ?_
  · simp only [wq_g3, wq_gc, wq_g, wq_g1, wq_g2, eM_laysErrata, iM_laysErrata_0, iM_laysErrata_16, iM_laysErrata_50, iM_laysErrata_60, vM_laysErrata, wps, x_cnd, reduceIte, Nat.reduceAdd, Nat.reduceSub, Nat.reduceEqDiff, Nat.reduceLeDiff, Nat.lt_irrefl, Nat.reduceLT, Int.cast_ofNat_Int, wq_c0, wq_c1, true_and, and_true, and_self, true_implies, forall_const, ne_eq, Decidable.not_not, not_true_eq_false, not_false_eq_true, List.map_nil, List.map_cons, List.sum_nil, List.sum_cons, List.length_cons, List.length_nil, Nat.le_refl, Nat.zero_le, reduceCtorEq, true_or, or_true, false_or, or_false, false_and, and_false, false_implies, Nat.zero_add, Nat.add_zero, Int.reduceEq, Int.reduceNe, Int.reduceLT, Int.reduceLE, Int.reduceNeg, Int.reduceToNat, Nat.not_lt_zero, Int.reduceAdd, fxs F]
    refine cM_look W (fun M2 W2 L2 f2 => ?_)
    simp only [wq_g3, wq_gc, wq_g, wq_g1, wq_g2, eM_laysErrata, iM_laysErrata_0, iM_laysErrata_16, iM_laysErrata_50, iM_laysErrata_60, vM_laysErrata, wps, x_cnd, reduceIte, Nat.reduceAdd, Nat.reduceSub, Nat.reduceEqDiff, Nat.reduceLeDiff, Nat.lt_irrefl, Nat.reduceLT, Int.cast_ofNat_Int, wq_c0, wq_c1, true_and, and_true, and_self, true_implies, forall_const, ne_eq, Decidable.not_not, not_true_eq_false, not_false_eq_true, List.map_nil, List.map_cons, List.sum_nil, List.sum_cons, List.length_cons, List.length_nil, Nat.le_refl, Nat.zero_le, reduceCtorEq, true_or, or_true, false_or, or_false, false_and, and_false, false_implies, Nat.zero_add, Nat.add_zero, Int.reduceEq, Int.reduceNe, Int.reduceLT, Int.reduceLE, Int.reduceNeg, Int.reduceToNat, Nat.not_lt_zero, Int.reduceAdd, fxs F]
    have W3 : MW A (x_w M2 41 30 0) h := W2.frame (fun a j ha => w_ne (by omega)) (fun j hj => w_nj (by omega))
    have L3 : LK (aS A) (x_w M2 41 30 0) := L2.frame (fun a j h1 h2 => w_ne (by omega)) (w_nj (by decide))
    refine cM_idAbove F W3.G W3.w h6 hq (by omega) (fun r hr => ?_)
    simp only [wq_g3, wq_gc, wq_g, wq_g1, wq_g2, eM_laysErrata, iM_laysErrata_0, iM_laysErrata_16, iM_laysErrata_50, iM_laysErrata_60, vM_laysErrata, wps, x_cnd, reduceIte, Nat.reduceAdd, Nat.reduceSub, Nat.reduceEqDiff, Nat.reduceLeDiff, Nat.lt_irrefl, Nat.reduceLT, Int.cast_ofNat_Int, wq_c0, wq_c1, true_and, and_true, and_self, true_implies, forall_const, ne_eq, Decidable.not_not, not_true_eq_false, not_false_eq_true, List.map_nil, List.map_cons, List.sum_nil, List.sum_cons, List.length_cons, List.length_nil, Nat.le_refl, Nat.zero_le, reduceCtorEq, true_or, or_true, false_or, or_false, false_and, and_false, false_implies, Nat.zero_add, Nat.add_zero, Int.reduceEq, Int.reduceNe, Int.reduceLT, Int.reduceLE, Int.reduceNeg, Int.reduceToNat, Nat.not_lt_zero, Int.reduceAdd, fxs F]
    refine ⟨(aI A).toNat - 0, W3, L3, (FM.r.l f2).w (by decide), (w_nj (by decide)).trans (f2 41 0 (by omega) (by omega)), r, 0, by omega, rfl, rfl, hr, w_eq, fun j hj => ?_⟩
    have : cn (kdB (aS A) part (sR (aS A) part)) 0 = 0 := rfl
    omega
  · rintro t m ls st M1 h' c2 n2 ⟨rfl, rfl, rfl, rfl, rfl, l0, l1, W1, L1, f1, t1, r, u, y1, y2, l2, y3, y4, y5⟩
    have hnt := W1.G.nt h6 hq
    have hc0 := cn_rng (P := kdB (aS A) part (sR (aS A) part)) (n := u)
    simp only [wq_g3, wq_gc, wq_g, wq_g1, wq_g2, eM_laysErrata, iM_laysErrata_0, iM_laysErrata_16, iM_laysErrata_50, iM_laysErrata_60, vM_laysErrata, wps, x_cnd, reduceIte, Nat.reduceAdd, Nat.reduceSub, Nat.reduceEqDiff, Nat.reduceLeDiff, Nat.lt_irrefl, Nat.reduceLT, Int.cast_ofNat_Int, wq_c0, wq_c1, true_and, and_true, and_self, true_implies, forall_const, ne_eq, Decidable.not_not, not_true_eq_false, not_false_eq_true, List.map_nil, List.map_cons, List.sum_nil, List.sum_cons, List.length_cons, List.length_nil, Nat.le_refl, Nat.zero_le, reduceCtorEq, true_or, or_true, false_or, or_false, false_and, and_false, false_implies, Nat.zero_add, Nat.add_zero, Int.reduceEq, Int.reduceNe, Int.reduceLT, Int.reduceLE, Int.reduceNeg, Int.reduceToNat, Nat.not_lt_zero, Int.reduceAdd, fxs F, l0, l1, l2]
    refine ⟨fun c0 => ?_, fun c0 => ?_⟩
    · rcases y3 with ⟨g1, g2⟩ | ⟨g1, g2, -⟩
      · have hend : cn (kdB (aS A) part (sR (aS A) part)) (aI A).toNat = cn (kdB (aS A) part (sR (aS A) part)) u := cn_tl (by omega) (fun q q1 q2 => by
          obtain ⟨e1, e2⟩ := g2 q (by omega) (by omega)
          exact bf_of kdB_t (fun z => z (kd_out e1 e2)))
        have hE : erN (aS A) part (sR (aS A) part) (aI A) = cn (kdB (aS A) part (sR (aS A) part)) u := hend
        exact k M1 W1 L1 ⟨y4.trans hE.symm, fun j hj => y5 j (by rw [← hE]; exact hj)⟩ f1 t1
      · omega
    · rcases y3 with ⟨g1, -⟩ | ⟨g1, g2, g3, g4⟩
      · exact absurd g1 c0
      · obtain ⟨q, rfl⟩ : ∃ q : Nat, r = q := ⟨r.toNat, by omega⟩
        have hqr := good_rng W1.w h6 g3
        have hcq : cn (kdB (aS A) part (sR (aS A) part)) q = cn (kdB (aS A) part (sR (aS A) part)) u := cn_tl (by omega) (fun v v1 v2 => by
          obtain ⟨e1, e2⟩ := g4 v (by omega) (by omega) (by omega)
          exact bf_of kdB_t (fun z => z (kd_out e1 e2)))
        refine cM_kindOf F W1.G W1.w L1 h6 hq ?_
        have hk := kd_rng (S := aS A) (part := part) (id := q) (f := sR (aS A) part)
        have h300 := err_300 W1.w hnt (n := q + 1)
        simp only [wq_g3, wq_gc, wq_g, wq_g1, wq_g2, eM_laysErrata, iM_laysErrata_0, iM_laysErrata_16, iM_laysErrata_50, iM_laysErrata_60, vM_laysErrata, wps, x_cnd, reduceIte, Nat.reduceAdd, Nat.reduceSub, Nat.reduceEqDiff, Nat.reduceLeDiff, Nat.lt_irrefl, Nat.reduceLT, Int.cast_ofNat_Int, wq_c0, wq_c1, true_and, and_true, and_self, true_implies, forall_const, ne_eq, Decidable.not_not, not_true_eq_false, not_false_eq_true, List.map_nil, List.map_cons, List.sum_nil, List.sum_cons, List.length_cons, List.length_nil, Nat.le_refl, Nat.zero_le, reduceCtorEq, true_or, or_true, false_or, or_false, false_and, and_false, false_implies, Nat.zero_add, Nat.add_zero, Int.reduceEq, Int.reduceNe, Int.reduceLT, Int.reduceLE, Int.reduceNeg, Int.reduceToNat, Nat.not_lt_zero, Int.reduceAdd, fxs F, l0, l1, l2]
        simp (disch := decide) only [w_ne, w_eq, w_nj]
        rw [y4]
        have hnx : (((q + 1 : Nat) : Int) - 1) = q := by omega
        refine ⟨fun c1 => ?_, fun c1 => ?_⟩
        · have hst : cn (kdB (aS A) part (sR (aS A) part)) (q + 1) = cn (kdB (aS A) part (sR (aS A) part)) u := by
            rw [cn_s0 (bf_of kdB_t (fun z => z (by omega))), hcq]
          refine cM_idAbove F W1.G W1.w h6 hq (by omega) (fun r' hr' => ?_)
          simp only [wq_g3, wq_gc, wq_g, wq_g1, wq_g2, eM_laysErrata, iM_laysErrata_0, iM_laysErrata_16, iM_laysErrata_50, iM_laysErrata_60, vM_laysErrata, wps, x_cnd, reduceIte, Nat.reduceAdd, Nat.reduceSub, Nat.reduceEqDiff, Nat.reduceLeDiff, Nat.lt_irrefl, Nat.reduceLT, Int.cast_ofNat_Int, wq_c0, wq_c1, true_and, and_true, and_self, true_implies, forall_const, ne_eq, Decidable.not_not, not_true_eq_false, not_false_eq_true, List.map_nil, List.map_cons, List.sum_nil, List.sum_cons, List.length_cons, List.length_nil, Nat.le_refl, Nat.zero_le, reduceCtorEq, true_or, or_true, false_or, or_false, false_and, and_false, false_implies, Nat.zero_add, Nat.add_zero, Int.reduceEq, Int.reduceNe, Int.reduceLT, Int.reduceLE, Int.reduceNeg, Int.reduceToNat, Nat.not_lt_zero, Int.reduceAdd, fxs F, l0, l1, l2]
          exact ⟨(aI A).toNat - (q + 1), by omega, W1, L1, f1, t1, r', q + 1, by omega, rfl, rfl, by rw [hnx]; exact hr', by rw [hst]; exact y4, fun j hj => y5 j (by rw [hst] at hj; exact hj)⟩
        · have hkt : kdB (aS A) part (sR (aS A) part) q = true := kdB_t.mpr (by omega)
          have hst : cn (kdB (aS A) part (sR (aS A) part)) (q + 1) = cn (kdB (aS A) part (sR (aS A) part)) u + 1 := by
            rw [cn_s1 hkt, hcq]
          rw [w32_of (by omega)]
          have W3 : MW A (x_w (x_w M1 54 (cn (kdB (aS A) part (sR (aS A) part)) u) q) 41 30 (cn (kdB (aS A) part (sR (aS A) part)) u + 1)) h' := W1.frame (fun a j ha => by rw [w_ne (by omega), w_ne (by omega)]) (fun j hj => by rw [w_nj (by omega), w_ne (by decide)])
          have L3 : LK (aS A) (x_w (x_w M1 54 (cn (kdB (aS A) part (sR (aS A) part)) u) q) 41 30 (cn (kdB (aS A) part (sR (aS A) part)) u + 1)) := L1.frame (fun a j h1 h2 => by rw [w_ne (by omega), w_ne (by omega)]) (by rw [w_nj (by decide), w_ne (by decide)])
          refine ⟨by omega, cM_idAbove F W3.G W3.w h6 hq (by omega) (fun r' hr' => ?_)⟩
          simp only [wq_g3, wq_gc, wq_g, wq_g1, wq_g2, eM_laysErrata, iM_laysErrata_0, iM_laysErrata_16, iM_laysErrata_50, iM_laysErrata_60, vM_laysErrata, wps, x_cnd, reduceIte, Nat.reduceAdd, Nat.reduceSub, Nat.reduceEqDiff, Nat.reduceLeDiff, Nat.lt_irrefl, Nat.reduceLT, Int.cast_ofNat_Int, wq_c0, wq_c1, true_and, and_true, and_self, true_implies, forall_const, ne_eq, Decidable.not_not, not_true_eq_false, not_false_eq_true, List.map_nil, List.map_cons, List.sum_nil, List.sum_cons, List.length_cons, List.length_nil, Nat.le_refl, Nat.zero_le, reduceCtorEq, true_or, or_true, false_or, or_false, false_and, and_false, false_implies, Nat.zero_add, Nat.add_zero, Int.reduceEq, Int.reduceNe, Int.reduceLT, Int.reduceLE, Int.reduceNeg, Int.reduceToNat, Nat.not_lt_zero, Int.reduceAdd, fxs F, l0, l1, l2]
          simp (disch := decide) only [w_ne, w_eq, w_nj]
          refine ⟨(aI A).toNat - (q + 1), by omega, W3, L3, (f1.w (by decide)).w (by decide), t1, r', q + 1, by omega, rfl, rfl, by rw [hnx]; exact hr', hst.symm, fun j hj => ?_⟩
          rw [hst] at hj
          by_cases hjc : (j : Int) = cn (kdB (aS A) part (sR (aS A) part)) u
          · rw [hjc, w_eq, ← hcq]
            unfold erI
            exact (nth_at (by omega) hkt).symm
          · rw [w_nj hjc]
            exact y5 j (by omega)
theorem LE.thr {part v : Int} (L : LE S nid part M) : LE S nid part (x_w M 41 0 v) := ⟨(w_nj (by decide)).trans L.1, fun j hj => (w_ne (by decide)).trans (L.2 j hj)⟩
theorem cM_hasQ (w : wfS S nid) {part : Nat} (h6 : part < 6) (k : Φ (.inl (some (xI (b01 (sQ S part = 1))))) M h) : x_Cal zM_has [xI (bs (fun p => sQ S p == 1) 6), xI part] M h Φ :=
  cM_hasB (by decide) h6 (kr k (b01_c (by simp)))
theorem cM_errata (W : MW A M h) {part : Int} (k : ∀ v M', MW A M' h → FM M M' → MA (xk [2, 0]) (anErrata (aS A) (aI A) part) v M' → Φ (.inl (some (xI v))) M' h) : x_Cal zM_errata [xA 41, xI part] M h Φ := by
  have F := W.F
  have hP := W.w.P
  have e3 := W.G.q
  refine x_met0 kM_errata (Nat.le_of_ble_eq_true rfl) ?_
  simp only [wq_g3, wq_gc, wq_g, wq_g1, wq_g2, eM_errata, iM_errata_0, iM_errata_13, iM_errata_30, iM_errata_31, iM_errata_39, vM_errata, wps, x_cnd, reduceIte, Nat.reduceAdd, Nat.reduceSub, Nat.reduceEqDiff, Nat.reduceLeDiff, Nat.lt_irrefl, Nat.reduceLT, Int.cast_ofNat_Int, wq_c0, wq_c1, true_and, and_true, and_self, true_implies, forall_const, ne_eq, Decidable.not_not, not_true_eq_false, not_false_eq_true, List.map_nil, List.map_cons, List.sum_nil, List.sum_cons, List.length_cons, List.length_nil, Nat.le_refl, Nat.zero_le, reduceCtorEq, true_or, or_true, false_or, or_false, false_and, and_false, false_implies, Nat.zero_add, Nat.add_zero, Int.reduceEq, Int.reduceNe, Int.reduceLT, Int.reduceLE, Int.reduceNeg, Int.reduceToNat, Nat.not_lt_zero, Int.reduceAdd, fxs F]
  refine cM_isPart F W.G W.w ?_
  simp only [wq_g3, wq_gc, wq_g, wq_g1, wq_g2, eM_errata, iM_errata_0, iM_errata_13, iM_errata_30, iM_errata_31, iM_errata_39, vM_errata, wps, x_cnd, reduceIte, Nat.reduceAdd, Nat.reduceSub, Nat.reduceEqDiff, Nat.reduceLeDiff, Nat.lt_irrefl, Nat.reduceLT, Int.cast_ofNat_Int, wq_c0, wq_c1, true_and, and_true, and_self, true_implies, forall_const, ne_eq, Decidable.not_not, not_true_eq_false, not_false_eq_true, List.map_nil, List.map_cons, List.sum_nil, List.sum_cons, List.length_cons, List.length_nil, Nat.le_refl, Nat.zero_le, reduceCtorEq, true_or, or_true, false_or, or_false, false_and, and_false, false_implies, Nat.zero_add, Nat.add_zero, Int.reduceEq, Int.reduceNe, Int.reduceLT, Int.reduceLE, Int.reduceNeg, Int.reduceToNat, Nat.not_lt_zero, Int.reduceAdd, fxs F, b01_0, e3]
  refine ⟨fun c0 => ?_, fun c0 => cM_ref1 F (by decide) ?_⟩
  · obtain ⟨q, rfl⟩ : ∃ q : Nat, part = q := ⟨part.toNat, by omega⟩
    have ea : anErrata (aS A) (aI A) q = if sQ (aS A) q = 1 then .inl (erN (aS A) q (sR (aS A) q) (aI A)) else .inr 0 := anPt_0 c0
    refine cM_hasQ W.w (by omega) ?_
    simp only [wq_g3, wq_gc, wq_g, wq_g1, wq_g2, eM_errata, iM_errata_0, iM_errata_13, iM_errata_30, iM_errata_31, iM_errata_39, vM_errata, wps, x_cnd, reduceIte, Nat.reduceAdd, Nat.reduceSub, Nat.reduceEqDiff, Nat.reduceLeDiff, Nat.lt_irrefl, Nat.reduceLT, Int.cast_ofNat_Int, wq_c0, wq_c1, true_and, and_true, and_self, true_implies, forall_const, ne_eq, Decidable.not_not, not_true_eq_false, not_false_eq_true, List.map_nil, List.map_cons, List.sum_nil, List.sum_cons, List.length_cons, List.length_nil, Nat.le_refl, Nat.zero_le, reduceCtorEq, true_or, or_true, false_or, or_false, false_and, and_false, false_implies, Nat.zero_add, Nat.add_zero, Int.reduceEq, Int.reduceNe, Int.reduceLT, Int.reduceLE, Int.reduceNeg, Int.reduceToNat, Nat.not_lt_zero, Int.reduceAdd, fxs F, b01_0]
    refine ⟨fun c1 => cM_ref0 F ?_, fun c1 => cM_ref1 F (by decide) ?_⟩
    · simp only [wq_g3, wq_gc, wq_g, wq_g1, wq_g2, eM_errata, iM_errata_0, iM_errata_13, iM_errata_30, iM_errata_31, iM_errata_39, vM_errata, wps, x_cnd, reduceIte, Nat.reduceAdd, Nat.reduceSub, Nat.reduceEqDiff, Nat.reduceLeDiff, Nat.lt_irrefl, Nat.reduceLT, Int.cast_ofNat_Int, wq_c0, wq_c1, true_and, and_true, and_self, true_implies, forall_const, ne_eq, Decidable.not_not, not_true_eq_false, not_false_eq_true, List.map_nil, List.map_cons, List.sum_nil, List.sum_cons, List.length_cons, List.length_nil, Nat.le_refl, Nat.zero_le, reduceCtorEq, true_or, or_true, false_or, or_false, false_and, and_false, false_implies, Nat.zero_add, Nat.add_zero, Int.reduceEq, Int.reduceNe, Int.reduceLT, Int.reduceLE, Int.reduceNeg, Int.reduceToNat, Nat.not_lt_zero, Int.reduceAdd, fxs F]
      refine cM_laysErrata W.thr (by omega) c1 (fun M2 W2 L2 E2 f2 t2 => ?_)
      have e := E2.1
      simp only [wq_g3, wq_gc, wq_g, wq_g1, wq_g2, eM_errata, iM_errata_0, iM_errata_13, iM_errata_30, iM_errata_31, iM_errata_39, vM_errata, wps, x_cnd, reduceIte, Nat.reduceAdd, Nat.reduceSub, Nat.reduceEqDiff, Nat.reduceLeDiff, Nat.lt_irrefl, Nat.reduceLT, Int.cast_ofNat_Int, wq_c0, wq_c1, true_and, and_true, and_self, true_implies, forall_const, ne_eq, Decidable.not_not, not_true_eq_false, not_false_eq_true, List.map_nil, List.map_cons, List.sum_nil, List.sum_cons, List.length_cons, List.length_nil, Nat.le_refl, Nat.zero_le, reduceCtorEq, true_or, or_true, false_or, or_false, false_and, and_false, false_implies, Nat.zero_add, Nat.add_zero, Int.reduceEq, Int.reduceNe, Int.reduceLT, Int.reduceLE, Int.reduceNeg, Int.reduceToNat, Nat.not_lt_zero, Int.reduceAdd, fxs F, e]
      exact k _ _ W2 (fun a j ha => (f2 a j ha).trans (w_ne (by omega))) (ma_v (t2.trans w_eq) (by rw [ea, if_pos c1]))
    · simp only [wq_g3, wq_gc, wq_g, wq_g1, wq_g2, eM_errata, iM_errata_0, iM_errata_13, iM_errata_30, iM_errata_31, iM_errata_39, vM_errata, wps, x_cnd, reduceIte, Nat.reduceAdd, Nat.reduceSub, Nat.reduceEqDiff, Nat.reduceLeDiff, Nat.lt_irrefl, Nat.reduceLT, Int.cast_ofNat_Int, wq_c0, wq_c1, true_and, and_true, and_self, true_implies, forall_const, ne_eq, Decidable.not_not, not_true_eq_false, not_false_eq_true, List.map_nil, List.map_cons, List.sum_nil, List.sum_cons, List.length_cons, List.length_nil, Nat.le_refl, Nat.zero_le, reduceCtorEq, true_or, or_true, false_or, or_false, false_and, and_false, false_implies, Nat.zero_add, Nat.add_zero, Int.reduceEq, Int.reduceNe, Int.reduceLT, Int.reduceLE, Int.reduceNeg, Int.reduceToNat, Nat.not_lt_zero, Int.reduceAdd, fxs F]
      exact k _ _ W.thr (FM.r.w (by decide)) (ma_e w_eq (by rw [ea, if_neg c1]) rfl)
  · simp only [wq_g3, wq_gc, wq_g, wq_g1, wq_g2, eM_errata, iM_errata_0, iM_errata_13, iM_errata_30, iM_errata_31, iM_errata_39, vM_errata, wps, x_cnd, reduceIte, Nat.reduceAdd, Nat.reduceSub, Nat.reduceEqDiff, Nat.reduceLeDiff, Nat.lt_irrefl, Nat.reduceLT, Int.cast_ofNat_Int, wq_c0, wq_c1, true_and, and_true, and_self, true_implies, forall_const, ne_eq, Decidable.not_not, not_true_eq_false, not_false_eq_true, List.map_nil, List.map_cons, List.sum_nil, List.sum_cons, List.length_cons, List.length_nil, Nat.le_refl, Nat.zero_le, reduceCtorEq, true_or, or_true, false_or, or_false, false_and, and_false, false_implies, Nat.zero_add, Nat.add_zero, Int.reduceEq, Int.reduceNe, Int.reduceLT, Int.reduceLE, Int.reduceNeg, Int.reduceToNat, Nat.not_lt_zero, Int.reduceAdd, fxs F]
    exact k _ _ W.thr (FM.r.w (by decide)) (ma_e w_eq (anPt_1 c0) rfl)
theorem cM_notedFor (F : Fx h) {n kk : Int} (hn : kk ≠ 1 → 0 ≤ n ∧ n < 2147483648) (h2 : 0 ≤ kk ∧ kk ≤ 6) (k : Φ (.inl (some (xI (ndF kk n)))) M h) : x_Cal zM_notedFor [xA 41, xI kk, xI n] M h Φ := by
  unfold ndF at k
  refine x_met0 kM_notedFor (Nat.le_of_ble_eq_true rfl) ?_
  simp only [wq_g3, wq_gc, wq_g, wq_g1, wq_g2, eM_notedFor, iM_notedFor_0, iM_notedFor_40, iM_notedFor_42, iM_notedFor_47, iM_notedFor_52, iM_notedFor_56, vM_notedFor, wps, x_cnd, reduceIte, Nat.reduceAdd, Nat.reduceSub, Nat.reduceEqDiff, Nat.reduceLeDiff, Nat.lt_irrefl, Nat.reduceLT, Int.cast_ofNat_Int, wq_c0, wq_c1, true_and, and_true, and_self, true_implies, forall_const, ne_eq, Decidable.not_not, not_true_eq_false, not_false_eq_true, List.map_nil, List.map_cons, List.sum_nil, List.sum_cons, List.length_cons, List.length_nil, Nat.le_refl, Nat.zero_le, reduceCtorEq, true_or, or_true, false_or, or_false, false_and, and_false, false_implies, Nat.zero_add, Nat.add_zero, Int.reduceEq, Int.reduceNe, Int.reduceLT, Int.reduceLE, Int.reduceNeg, Int.reduceToNat, Nat.not_lt_zero, Int.reduceAdd, fxs F]
  have lab : kk ≠ 1 → kk ≠ 4 → kk ≠ 5 → kk ≠ 6 → x_Cal zM_labelIn [xI n] M h (x_k x_Cal (0, 0, 1, x_sc0) (wpG x_Cal (0, 0, 1, x_sc0) bM_notedFor (fun _ _ _ _ _ _ _ => False) Φ 18) Φ [(Instr.ireturn, [], [])] (x_ent [xA 41, xI kk, xI n] 0) [] 0 0) := fun z1 z4 z5 z6 => by
    refine cM_labelIn (hn z1) ?_
    simp only [wq_g3, wq_gc, wq_g, wq_g1, wq_g2, eM_notedFor, iM_notedFor_0, iM_notedFor_40, iM_notedFor_42, iM_notedFor_47, iM_notedFor_52, iM_notedFor_56, vM_notedFor, wps, x_cnd, reduceIte, Nat.reduceAdd, Nat.reduceSub, Nat.reduceEqDiff, Nat.reduceLeDiff, Nat.lt_irrefl, Nat.reduceLT, Int.cast_ofNat_Int, wq_c0, wq_c1, true_and, and_true, and_self, true_implies, forall_const, ne_eq, Decidable.not_not, not_true_eq_false, not_false_eq_true, List.map_nil, List.map_cons, List.sum_nil, List.sum_cons, List.length_cons, List.length_nil, Nat.le_refl, Nat.zero_le, reduceCtorEq, true_or, or_true, false_or, or_false, false_and, and_false, false_implies, Nat.zero_add, Nat.add_zero, Int.reduceEq, Int.reduceNe, Int.reduceLT, Int.reduceLE, Int.reduceNeg, Int.reduceToNat, Nat.not_lt_zero, Int.reduceAdd, fxs F]
    rw [if_neg z1, if_neg z4, if_neg z5, if_neg z6] at k
    exact k
  refine ⟨fun c => kr k (if_pos c), fun c => lab (by omega) (by omega) (by omega) (by omega), fun c => lab (by omega) (by omega) (by omega) (by omega), fun c => ?_, fun c => ?_, fun c => ?_, fun c => lab (by omega) (by omega) (by omega) (by omega)⟩
  · refine cM_letterIn (hn (by omega)) ?_
    simp only [wq_g3, wq_gc, wq_g, wq_g1, wq_g2, eM_notedFor, iM_notedFor_0, iM_notedFor_40, iM_notedFor_42, iM_notedFor_47, iM_notedFor_52, iM_notedFor_56, vM_notedFor, wps, x_cnd, reduceIte, Nat.reduceAdd, Nat.reduceSub, Nat.reduceEqDiff, Nat.reduceLeDiff, Nat.lt_irrefl, Nat.reduceLT, Int.cast_ofNat_Int, wq_c0, wq_c1, true_and, and_true, and_self, true_implies, forall_const, ne_eq, Decidable.not_not, not_true_eq_false, not_false_eq_true, List.map_nil, List.map_cons, List.sum_nil, List.sum_cons, List.length_cons, List.length_nil, Nat.le_refl, Nat.zero_le, reduceCtorEq, true_or, or_true, false_or, or_false, false_and, and_false, false_implies, Nat.zero_add, Nat.add_zero, Int.reduceEq, Int.reduceNe, Int.reduceLT, Int.reduceLE, Int.reduceNeg, Int.reduceToNat, Nat.not_lt_zero, Int.reduceAdd, fxs F]
    exact kr k (by rw [if_neg (by omega), if_pos c])
  · refine cM_notedBeats (hn (by omega)) ?_
    simp only [wq_g3, wq_gc, wq_g, wq_g1, wq_g2, eM_notedFor, iM_notedFor_0, iM_notedFor_40, iM_notedFor_42, iM_notedFor_47, iM_notedFor_52, iM_notedFor_56, vM_notedFor, wps, x_cnd, reduceIte, Nat.reduceAdd, Nat.reduceSub, Nat.reduceEqDiff, Nat.reduceLeDiff, Nat.lt_irrefl, Nat.reduceLT, Int.cast_ofNat_Int, wq_c0, wq_c1, true_and, and_true, and_self, true_implies, forall_const, ne_eq, Decidable.not_not, not_true_eq_false, not_false_eq_true, List.map_nil, List.map_cons, List.sum_nil, List.sum_cons, List.length_cons, List.length_nil, Nat.le_refl, Nat.zero_le, reduceCtorEq, true_or, or_true, false_or, or_false, false_and, and_false, false_implies, Nat.zero_add, Nat.add_zero, Int.reduceEq, Int.reduceNe, Int.reduceLT, Int.reduceLE, Int.reduceNeg, Int.reduceToNat, Nat.not_lt_zero, Int.reduceAdd, fxs F]
    exact kr k (by rw [if_neg (by omega), if_neg (by omega), if_pos c])
  · rw [x_and_3 (hn (by omega))]
    exact kr k (by rw [if_neg (by omega), if_neg (by omega), if_neg (by omega), if_pos c])
theorem note_r (w : wfS S nid) {part : Nat} (h6 : part < 6) {id : Int} (h : sR S part id ≠ -1) : 0 ≤ sR S part id ∧ sR S part id < 2147483648 := by
  obtain ⟨l, t, b, c, g1, g2, g3, g4, g5⟩ := ((w.r h6 id).resolve_left h).2
  rw [g1]
  exact pk4_lt g2 g3 g4 g5
theorem cM_erratum (W : MW A M h) {part e w : Int} (k : ∀ v M', MW A M' h → FM M M' → MA (xk [2, 1, 0, 3]) (anErratum (aS A) (aI A) part e w) v M' → Φ (.inl (some (xI v))) M' h) : x_Cal zM_erratum [xA 41, xI part, xI e, xI w] M h Φ := by
  have F := W.F
  have hP := W.w.P
  have e3 := W.G.q
  refine x_met0 kM_erratum (Nat.le_of_ble_eq_true rfl) ?_
  simp only [wq_g3, wq_gc, wq_g, wq_g1, wq_g2, eM_erratum, iM_erratum_0, iM_erratum_13, iM_erratum_26, iM_erratum_43, iM_erratum_44, iM_erratum_52, iM_erratum_76, iM_erratum_77, iM_erratum_85, iM_erratum_100, iM_erratum_119, iM_erratum_132, vM_erratum, wps, x_cnd, reduceIte, Nat.reduceAdd, Nat.reduceSub, Nat.reduceEqDiff, Nat.reduceLeDiff, Nat.lt_irrefl, Nat.reduceLT, Int.cast_ofNat_Int, wq_c0, wq_c1, true_and, and_true, and_self, true_implies, forall_const, ne_eq, Decidable.not_not, not_true_eq_false, not_false_eq_true, List.map_nil, List.map_cons, List.sum_nil, List.sum_cons, List.length_cons, List.length_nil, Nat.le_refl, Nat.zero_le, reduceCtorEq, true_or, or_true, false_or, or_false, false_and, and_false, false_implies, Nat.zero_add, Nat.add_zero, Int.reduceEq, Int.reduceNe, Int.reduceLT, Int.reduceLE, Int.reduceNeg, Int.reduceToNat, Nat.not_lt_zero, Int.reduceAdd, fxs F]
  refine cM_isPart F W.G W.w ?_
  simp only [wq_g3, wq_gc, wq_g, wq_g1, wq_g2, eM_erratum, iM_erratum_0, iM_erratum_13, iM_erratum_26, iM_erratum_43, iM_erratum_44, iM_erratum_52, iM_erratum_76, iM_erratum_77, iM_erratum_85, iM_erratum_100, iM_erratum_119, iM_erratum_132, vM_erratum, wps, x_cnd, reduceIte, Nat.reduceAdd, Nat.reduceSub, Nat.reduceEqDiff, Nat.reduceLeDiff, Nat.lt_irrefl, Nat.reduceLT, Int.cast_ofNat_Int, wq_c0, wq_c1, true_and, and_true, and_self, true_implies, forall_const, ne_eq, Decidable.not_not, not_true_eq_false, not_false_eq_true, List.map_nil, List.map_cons, List.sum_nil, List.sum_cons, List.length_cons, List.length_nil, Nat.le_refl, Nat.zero_le, reduceCtorEq, true_or, or_true, false_or, or_false, false_and, and_false, false_implies, Nat.zero_add, Nat.add_zero, Int.reduceEq, Int.reduceNe, Int.reduceLT, Int.reduceLE, Int.reduceNeg, Int.reduceToNat, Nat.not_lt_zero, Int.reduceAdd, fxs F, b01_0, e3]
  refine ⟨fun c0 => cM_in ?_, fun c0 => cM_ref1 F (by decide) ?_⟩
  · obtain ⟨q, rfl⟩ : ∃ q : Nat, part = q := ⟨part.toNat, by omega⟩
    have ea : anErratum (aS A) (aI A) q e w = if w < 0 ∨ 2 < w then .inr 1 else if sQ (aS A) q = 1 then (if e < 0 ∨ erN (aS A) q (sR (aS A) q) (aI A) ≤ e then .inr 3 else if w = 0 then .inl (erI (aS A) (aI A) q e) else if w = 1 then .inl (kd (aS A) q (sR (aS A) q) (erI (aS A) (aI A) q e)) else .inl (ndF (kd (aS A) q (sR (aS A) q) (erI (aS A) (aI A) q e)) (sR (aS A) q (erI (aS A) (aI A) q e)))) else .inr 0 := anPt_0 c0
    simp only [wq_g3, wq_gc, wq_g, wq_g1, wq_g2, eM_erratum, iM_erratum_0, iM_erratum_13, iM_erratum_26, iM_erratum_43, iM_erratum_44, iM_erratum_52, iM_erratum_76, iM_erratum_77, iM_erratum_85, iM_erratum_100, iM_erratum_119, iM_erratum_132, vM_erratum, wps, x_cnd, reduceIte, Nat.reduceAdd, Nat.reduceSub, Nat.reduceEqDiff, Nat.reduceLeDiff, Nat.lt_irrefl, Nat.reduceLT, Int.cast_ofNat_Int, wq_c0, wq_c1, true_and, and_true, and_self, true_implies, forall_const, ne_eq, Decidable.not_not, not_true_eq_false, not_false_eq_true, List.map_nil, List.map_cons, List.sum_nil, List.sum_cons, List.length_cons, List.length_nil, Nat.le_refl, Nat.zero_le, reduceCtorEq, true_or, or_true, false_or, or_false, false_and, and_false, false_implies, Nat.zero_add, Nat.add_zero, Int.reduceEq, Int.reduceNe, Int.reduceLT, Int.reduceLE, Int.reduceNeg, Int.reduceToNat, Nat.not_lt_zero, Int.reduceAdd, fxs F, b01_0, e3]
    refine ⟨fun c1 => cM_hasQ W.w (by omega) ?_, fun c1 => cM_ref1 F (by decide) ?_⟩
    · rw [if_neg (by omega)] at ea
      simp only [wq_g3, wq_gc, wq_g, wq_g1, wq_g2, eM_erratum, iM_erratum_0, iM_erratum_13, iM_erratum_26, iM_erratum_43, iM_erratum_44, iM_erratum_52, iM_erratum_76, iM_erratum_77, iM_erratum_85, iM_erratum_100, iM_erratum_119, iM_erratum_132, vM_erratum, wps, x_cnd, reduceIte, Nat.reduceAdd, Nat.reduceSub, Nat.reduceEqDiff, Nat.reduceLeDiff, Nat.lt_irrefl, Nat.reduceLT, Int.cast_ofNat_Int, wq_c0, wq_c1, true_and, and_true, and_self, true_implies, forall_const, ne_eq, Decidable.not_not, not_true_eq_false, not_false_eq_true, List.map_nil, List.map_cons, List.sum_nil, List.sum_cons, List.length_cons, List.length_nil, Nat.le_refl, Nat.zero_le, reduceCtorEq, true_or, or_true, false_or, or_false, false_and, and_false, false_implies, Nat.zero_add, Nat.add_zero, Int.reduceEq, Int.reduceNe, Int.reduceLT, Int.reduceLE, Int.reduceNeg, Int.reduceToNat, Nat.not_lt_zero, Int.reduceAdd, fxs F, b01_0]
      refine ⟨fun c2 => cM_ref0 F ?_, fun c2 => cM_ref1 F (by decide) ?_⟩
      · rw [if_pos c2] at ea
        simp only [wq_g3, wq_gc, wq_g, wq_g1, wq_g2, eM_erratum, iM_erratum_0, iM_erratum_13, iM_erratum_26, iM_erratum_43, iM_erratum_44, iM_erratum_52, iM_erratum_76, iM_erratum_77, iM_erratum_85, iM_erratum_100, iM_erratum_119, iM_erratum_132, vM_erratum, wps, x_cnd, reduceIte, Nat.reduceAdd, Nat.reduceSub, Nat.reduceEqDiff, Nat.reduceLeDiff, Nat.lt_irrefl, Nat.reduceLT, Int.cast_ofNat_Int, wq_c0, wq_c1, true_and, and_true, and_self, true_implies, forall_const, ne_eq, Decidable.not_not, not_true_eq_false, not_false_eq_true, List.map_nil, List.map_cons, List.sum_nil, List.sum_cons, List.length_cons, List.length_nil, Nat.le_refl, Nat.zero_le, reduceCtorEq, true_or, or_true, false_or, or_false, false_and, and_false, false_implies, Nat.zero_add, Nat.add_zero, Int.reduceEq, Int.reduceNe, Int.reduceLT, Int.reduceLE, Int.reduceNeg, Int.reduceToNat, Nat.not_lt_zero, Int.reduceAdd, fxs F]
        refine cM_laysErrata W.thr (by omega) c2 (fun M2 W2 L2 E2 f2 t2 => ?_)
        have f2' : FM M M2 := fun a j ha => (f2 a j ha).trans (w_ne (by omega))
        have e0 := E2.1
        have hnt := W2.G.nt (part := q) (by omega) c2
        have h300 : 0 ≤ erN (aS A) q (sR (aS A) q) (aI A) ∧ erN (aS A) q (sR (aS A) q) (aI A) ≤ 300 := ⟨cn_rng.1, err_300 W2.w hnt⟩
        simp only [wq_g3, wq_gc, wq_g, wq_g1, wq_g2, eM_erratum, iM_erratum_0, iM_erratum_13, iM_erratum_26, iM_erratum_43, iM_erratum_44, iM_erratum_52, iM_erratum_76, iM_erratum_77, iM_erratum_85, iM_erratum_100, iM_erratum_119, iM_erratum_132, vM_erratum, wps, x_cnd, reduceIte, Nat.reduceAdd, Nat.reduceSub, Nat.reduceEqDiff, Nat.reduceLeDiff, Nat.lt_irrefl, Nat.reduceLT, Int.cast_ofNat_Int, wq_c0, wq_c1, true_and, and_true, and_self, true_implies, forall_const, ne_eq, Decidable.not_not, not_true_eq_false, not_false_eq_true, List.map_nil, List.map_cons, List.sum_nil, List.sum_cons, List.length_cons, List.length_nil, Nat.le_refl, Nat.zero_le, reduceCtorEq, true_or, or_true, false_or, or_false, false_and, and_false, false_implies, Nat.zero_add, Nat.add_zero, Int.reduceEq, Int.reduceNe, Int.reduceLT, Int.reduceLE, Int.reduceNeg, Int.reduceToNat, Nat.not_lt_zero, Int.reduceAdd, fxs F, e0]
        rw [w32_of (by omega)]
        refine cM_in ?_
        simp only [wq_g3, wq_gc, wq_g, wq_g1, wq_g2, eM_erratum, iM_erratum_0, iM_erratum_13, iM_erratum_26, iM_erratum_43, iM_erratum_44, iM_erratum_52, iM_erratum_76, iM_erratum_77, iM_erratum_85, iM_erratum_100, iM_erratum_119, iM_erratum_132, vM_erratum, wps, x_cnd, reduceIte, Nat.reduceAdd, Nat.reduceSub, Nat.reduceEqDiff, Nat.reduceLeDiff, Nat.lt_irrefl, Nat.reduceLT, Int.cast_ofNat_Int, wq_c0, wq_c1, true_and, and_true, and_self, true_implies, forall_const, ne_eq, Decidable.not_not, not_true_eq_false, not_false_eq_true, List.map_nil, List.map_cons, List.sum_nil, List.sum_cons, List.length_cons, List.length_nil, Nat.le_refl, Nat.zero_le, reduceCtorEq, true_or, or_true, false_or, or_false, false_and, and_false, false_implies, Nat.zero_add, Nat.add_zero, Int.reduceEq, Int.reduceNe, Int.reduceLT, Int.reduceLE, Int.reduceNeg, Int.reduceToNat, Nat.not_lt_zero, Int.reduceAdd, fxs F, b01_0]
        refine ⟨fun c3 => cM_ref1 F (by decide) ?_, fun c3 => cM_ref0 F ?_⟩
        · simp only [wq_g3, wq_gc, wq_g, wq_g1, wq_g2, eM_erratum, iM_erratum_0, iM_erratum_13, iM_erratum_26, iM_erratum_43, iM_erratum_44, iM_erratum_52, iM_erratum_76, iM_erratum_77, iM_erratum_85, iM_erratum_100, iM_erratum_119, iM_erratum_132, vM_erratum, wps, x_cnd, reduceIte, Nat.reduceAdd, Nat.reduceSub, Nat.reduceEqDiff, Nat.reduceLeDiff, Nat.lt_irrefl, Nat.reduceLT, Int.cast_ofNat_Int, wq_c0, wq_c1, true_and, and_true, and_self, true_implies, forall_const, ne_eq, Decidable.not_not, not_true_eq_false, not_false_eq_true, List.map_nil, List.map_cons, List.sum_nil, List.sum_cons, List.length_cons, List.length_nil, Nat.le_refl, Nat.zero_le, reduceCtorEq, true_or, or_true, false_or, or_false, false_and, and_false, false_implies, Nat.zero_add, Nat.add_zero, Int.reduceEq, Int.reduceNe, Int.reduceLT, Int.reduceLE, Int.reduceNeg, Int.reduceToNat, Nat.not_lt_zero, Int.reduceAdd, fxs F]
          exact k _ _ W2.thr (f2'.w (by decide)) (ma_e w_eq (by rw [ea, if_pos (by omega)]) rfl)
        · simp only [wq_g3, wq_gc, wq_g, wq_g1, wq_g2, eM_erratum, iM_erratum_0, iM_erratum_13, iM_erratum_26, iM_erratum_43, iM_erratum_44, iM_erratum_52, iM_erratum_76, iM_erratum_77, iM_erratum_85, iM_erratum_100, iM_erratum_119, iM_erratum_132, vM_erratum, wps, x_cnd, reduceIte, Nat.reduceAdd, Nat.reduceSub, Nat.reduceEqDiff, Nat.reduceLeDiff, Nat.lt_irrefl, Nat.reduceLT, Int.cast_ofNat_Int, wq_c0, wq_c1, true_and, and_true, and_self, true_implies, forall_const, ne_eq, Decidable.not_not, not_true_eq_false, not_false_eq_true, List.map_nil, List.map_cons, List.sum_nil, List.sum_cons, List.length_cons, List.length_nil, Nat.le_refl, Nat.zero_le, reduceCtorEq, true_or, or_true, false_or, or_false, false_and, and_false, false_implies, Nat.zero_add, Nat.add_zero, Int.reduceEq, Int.reduceNe, Int.reduceLT, Int.reduceLE, Int.reduceNeg, Int.reduceToNat, Nat.not_lt_zero, Int.reduceAdd, fxs F]
          obtain ⟨j, rfl⟩ : ∃ j : Nat, e = j := ⟨e.toNat, by omega⟩
          have W3 := W2.thr (v := 0)
          have L3 := L2.thr (v := 0)
          have ok : ∀ v : Int, anErratum (aS A) (aI A) q j w = .inl v → Φ (.inl (some (xI v))) (x_w M2 41 0 0) h := fun v e => k _ _ W3 (f2'.w (by decide)) (ma_v w_eq e)
          rw [if_neg (by omega)] at ea
          have e54 : x_w M2 41 0 0 54 j = erI (aS A) (aI A) q j := (w_ne (by decide)).trans (E2.2 j (by omega))
          obtain ⟨r, r1, r2, r3, r4⟩ := nth_some (P := kdB (aS A) q (sR (aS A) q)) (n := (aI A).toNat) (j := j) (by omega) (by show (j : Int) < erN (aS A) q (sR (aS A) q) (aI A); omega)
          have hr : erI (aS A) (aI A) q j = r := r4
          rw [e54]
          rw [hr] at ea ⊢
          have hk := kd_rng (S := aS A) (part := q) (id := r) (f := sR (aS A) q)
          refine ⟨by omega, fun c4 => cM_kindOf F W3.G W3.w L3 (by omega) c2 ?_, fun c4 => ok _ (by rw [ea, if_pos c4])⟩
          simp only [wq_g3, wq_gc, wq_g, wq_g1, wq_g2, eM_erratum, iM_erratum_0, iM_erratum_13, iM_erratum_26, iM_erratum_43, iM_erratum_44, iM_erratum_52, iM_erratum_76, iM_erratum_77, iM_erratum_85, iM_erratum_100, iM_erratum_119, iM_erratum_132, vM_erratum, wps, x_cnd, reduceIte, Nat.reduceAdd, Nat.reduceSub, Nat.reduceEqDiff, Nat.reduceLeDiff, Nat.lt_irrefl, Nat.reduceLT, Int.cast_ofNat_Int, wq_c0, wq_c1, true_and, and_true, and_self, true_implies, forall_const, ne_eq, Decidable.not_not, not_true_eq_false, not_false_eq_true, List.map_nil, List.map_cons, List.sum_nil, List.sum_cons, List.length_cons, List.length_nil, Nat.le_refl, Nat.zero_le, reduceCtorEq, true_or, or_true, false_or, or_false, false_and, and_false, false_implies, Nat.zero_add, Nat.add_zero, Int.reduceEq, Int.reduceNe, Int.reduceLT, Int.reduceLE, Int.reduceNeg, Int.reduceToNat, Nat.not_lt_zero, Int.reduceAdd, fxs F]
          refine ⟨fun c5 => cM_noteFor F (by omega) (W3.G.nt (by omega) c2) ?_, fun c5 => ok _ (by rw [ea, if_neg c4, if_pos c5])⟩
          simp only [wq_g3, wq_gc, wq_g, wq_g1, wq_g2, eM_erratum, iM_erratum_0, iM_erratum_13, iM_erratum_26, iM_erratum_43, iM_erratum_44, iM_erratum_52, iM_erratum_76, iM_erratum_77, iM_erratum_85, iM_erratum_100, iM_erratum_119, iM_erratum_132, vM_erratum, wps, x_cnd, reduceIte, Nat.reduceAdd, Nat.reduceSub, Nat.reduceEqDiff, Nat.reduceLeDiff, Nat.lt_irrefl, Nat.reduceLT, Int.cast_ofNat_Int, wq_c0, wq_c1, true_and, and_true, and_self, true_implies, forall_const, ne_eq, Decidable.not_not, not_true_eq_false, not_false_eq_true, List.map_nil, List.map_cons, List.sum_nil, List.sum_cons, List.length_cons, List.length_nil, Nat.le_refl, Nat.zero_le, reduceCtorEq, true_or, or_true, false_or, or_false, false_and, and_false, false_implies, Nat.zero_add, Nat.add_zero, Int.reduceEq, Int.reduceNe, Int.reduceLT, Int.reduceLE, Int.reduceNeg, Int.reduceToNat, Nat.not_lt_zero, Int.reduceAdd, fxs F]
          refine cM_notedFor F (fun hk1 => ?_) hk ?_
          · refine note_r W2.w (by omega) (fun hz => ?_)
            have hkt := kdB_t.mp r2
            unfold kd at hkt hk1
            rw [if_pos hz] at hkt hk1
            split at hk1
            · exact hk1 rfl
            · rename_i hc
              rw [if_neg hc] at hkt
              exact hkt rfl
          · simp only [wq_g3, wq_gc, wq_g, wq_g1, wq_g2, eM_erratum, iM_erratum_0, iM_erratum_13, iM_erratum_26, iM_erratum_43, iM_erratum_44, iM_erratum_52, iM_erratum_76, iM_erratum_77, iM_erratum_85, iM_erratum_100, iM_erratum_119, iM_erratum_132, vM_erratum, wps, x_cnd, reduceIte, Nat.reduceAdd, Nat.reduceSub, Nat.reduceEqDiff, Nat.reduceLeDiff, Nat.lt_irrefl, Nat.reduceLT, Int.cast_ofNat_Int, wq_c0, wq_c1, true_and, and_true, and_self, true_implies, forall_const, ne_eq, Decidable.not_not, not_true_eq_false, not_false_eq_true, List.map_nil, List.map_cons, List.sum_nil, List.sum_cons, List.length_cons, List.length_nil, Nat.le_refl, Nat.zero_le, reduceCtorEq, true_or, or_true, false_or, or_false, false_and, and_false, false_implies, Nat.zero_add, Nat.add_zero, Int.reduceEq, Int.reduceNe, Int.reduceLT, Int.reduceLE, Int.reduceNeg, Int.reduceToNat, Nat.not_lt_zero, Int.reduceAdd, fxs F]
            exact ok _ (by rw [ea, if_neg c4, if_neg c5])
      · rw [if_neg c2] at ea
        simp only [wq_g3, wq_gc, wq_g, wq_g1, wq_g2, eM_erratum, iM_erratum_0, iM_erratum_13, iM_erratum_26, iM_erratum_43, iM_erratum_44, iM_erratum_52, iM_erratum_76, iM_erratum_77, iM_erratum_85, iM_erratum_100, iM_erratum_119, iM_erratum_132, vM_erratum, wps, x_cnd, reduceIte, Nat.reduceAdd, Nat.reduceSub, Nat.reduceEqDiff, Nat.reduceLeDiff, Nat.lt_irrefl, Nat.reduceLT, Int.cast_ofNat_Int, wq_c0, wq_c1, true_and, and_true, and_self, true_implies, forall_const, ne_eq, Decidable.not_not, not_true_eq_false, not_false_eq_true, List.map_nil, List.map_cons, List.sum_nil, List.sum_cons, List.length_cons, List.length_nil, Nat.le_refl, Nat.zero_le, reduceCtorEq, true_or, or_true, false_or, or_false, false_and, and_false, false_implies, Nat.zero_add, Nat.add_zero, Int.reduceEq, Int.reduceNe, Int.reduceLT, Int.reduceLE, Int.reduceNeg, Int.reduceToNat, Nat.not_lt_zero, Int.reduceAdd, fxs F]
        exact k _ _ W.thr (FM.r.w (by decide)) (ma_e w_eq ea rfl)
    · rw [if_pos (by omega)] at ea
      simp only [wq_g3, wq_gc, wq_g, wq_g1, wq_g2, eM_erratum, iM_erratum_0, iM_erratum_13, iM_erratum_26, iM_erratum_43, iM_erratum_44, iM_erratum_52, iM_erratum_76, iM_erratum_77, iM_erratum_85, iM_erratum_100, iM_erratum_119, iM_erratum_132, vM_erratum, wps, x_cnd, reduceIte, Nat.reduceAdd, Nat.reduceSub, Nat.reduceEqDiff, Nat.reduceLeDiff, Nat.lt_irrefl, Nat.reduceLT, Int.cast_ofNat_Int, wq_c0, wq_c1, true_and, and_true, and_self, true_implies, forall_const, ne_eq, Decidable.not_not, not_true_eq_false, not_false_eq_true, List.map_nil, List.map_cons, List.sum_nil, List.sum_cons, List.length_cons, List.length_nil, Nat.le_refl, Nat.zero_le, reduceCtorEq, true_or, or_true, false_or, or_false, false_and, and_false, false_implies, Nat.zero_add, Nat.add_zero, Int.reduceEq, Int.reduceNe, Int.reduceLT, Int.reduceLE, Int.reduceNeg, Int.reduceToNat, Nat.not_lt_zero, Int.reduceAdd, fxs F]
      exact k _ _ W.thr (FM.r.w (by decide)) (ma_e w_eq ea rfl)
  · simp only [wq_g3, wq_gc, wq_g, wq_g1, wq_g2, eM_erratum, iM_erratum_0, iM_erratum_13, iM_erratum_26, iM_erratum_43, iM_erratum_44, iM_erratum_52, iM_erratum_76, iM_erratum_77, iM_erratum_85, iM_erratum_100, iM_erratum_119, iM_erratum_132, vM_erratum, wps, x_cnd, reduceIte, Nat.reduceAdd, Nat.reduceSub, Nat.reduceEqDiff, Nat.reduceLeDiff, Nat.lt_irrefl, Nat.reduceLT, Int.cast_ofNat_Int, wq_c0, wq_c1, true_and, and_true, and_self, true_implies, forall_const, ne_eq, Decidable.not_not, not_true_eq_false, not_false_eq_true, List.map_nil, List.map_cons, List.sum_nil, List.sum_cons, List.length_cons, List.length_nil, Nat.le_refl, Nat.zero_le, reduceCtorEq, true_or, or_true, false_or, or_false, false_and, and_false, false_implies, Nat.zero_add, Nat.add_zero, Int.reduceEq, Int.reduceNe, Int.reduceLT, Int.reduceLE, Int.reduceNeg, Int.reduceToNat, Nat.not_lt_zero, Int.reduceAdd, fxs F]
    exact k _ _ W.thr (FM.r.w (by decide)) (ma_e w_eq (anPt_1 c0) rfl)
theorem om_d {part j K : Nat} (h : part < 6) (h2 : j < K) (h3 : K ≤ 150) : w32 (371 + 300 * (part : Int) + 2 * j + 1) = 371 + 300 * (part : Int) + 2 * j + 1 := w32_of (by omega)
theorem om_e {part j K : Nat} (h : part < 6) (h2 : j < K) (h3 : K ≤ 150) : 0 ≤ 371 + 300 * (part : Int) + 2 * j + 1 ∧ 371 + 300 * (part : Int) + 2 * j + 1 < 2171 := by omega
theorem cM_notedBar (F : Fx h) (w : wfS S nid) {part l : Nat} (h6 : part < 6) (h1 : 1 ≤ l) (N : NT (sR S part) part (M 42)) (k : Φ (.inl (some (xI (ntl (sR S part) l nid)))) M h) : x_Cal zM_notedBar [xA 41, xI part, xI l] M h Φ := by
  obtain ⟨K, n1, n2, n3, n4⟩ := N
  refine x_metI kM_notedBar (Nat.le_of_ble_eq_true rfl) (fun t m ls st M' h' c n => t = 2 ∧ st = [] ∧ h' = h ∧ M' = M ∧ c = 0 ∧ n = 0 ∧ ls 0 = some (xA 41) ∧ ls 1 = some (xI part) ∧ ls 2 = some (xI l) ∧ ∃ p : Nat, p ≤ K ∧ m = K - p ∧ ls 3 = some (xI p) ∧ ∀ q : Nat, q < p → sR S part (M 42 (371 + 300 * part + 2 * q)) / 64 % 64 ≠ l) 20 ?_ ?_
  · simp only [wq_g3, wq_gc, wq_g, wq_g1, wq_g2, eM_notedBar, iM_notedBar_0, iM_notedBar_2, iM_notedBar_46, iM_notedBar_52, vM_notedBar, wps, x_cnd, reduceIte, Nat.reduceAdd, Nat.reduceSub, Nat.reduceEqDiff, Nat.reduceLeDiff, Nat.lt_irrefl, Nat.reduceLT, Int.cast_ofNat_Int, wq_c0, wq_c1, true_and, and_true, and_self, true_implies, forall_const, ne_eq, Decidable.not_not, not_true_eq_false, not_false_eq_true, List.map_nil, List.map_cons, List.sum_nil, List.sum_cons, List.length_cons, List.length_nil, Nat.le_refl, Nat.zero_le, reduceCtorEq, true_or, or_true, false_or, or_false, false_and, and_false, false_implies, Nat.zero_add, Nat.add_zero, Int.reduceEq, Int.reduceNe, Int.reduceLT, Int.reduceLE, Int.reduceNeg, Int.reduceToNat, Nat.not_lt_zero, Int.reduceAdd, fxs F]
    exact ⟨K - 0, 0, by omega, rfl, by rw [Int.natCast_zero], fun q hq => by omega⟩
  · rintro t m ls st M1 h' c n ⟨rfl, rfl, rfl, rfl, rfl, rfl, l0, l1, l2, p, q1, q2, l3, q3⟩
    simp only [wq_g3, wq_gc, wq_g, wq_g1, wq_g2, eM_notedBar, iM_notedBar_0, iM_notedBar_2, iM_notedBar_46, iM_notedBar_52, vM_notedBar, wps, x_cnd, reduceIte, Nat.reduceAdd, Nat.reduceSub, Nat.reduceEqDiff, Nat.reduceLeDiff, Nat.lt_irrefl, Nat.reduceLT, Int.cast_ofNat_Int, wq_c0, wq_c1, true_and, and_true, and_self, true_implies, forall_const, ne_eq, Decidable.not_not, not_true_eq_false, not_false_eq_true, List.map_nil, List.map_cons, List.sum_nil, List.sum_cons, List.length_cons, List.length_nil, Nat.le_refl, Nat.zero_le, reduceCtorEq, true_or, or_true, false_or, or_false, false_and, and_false, false_implies, Nat.zero_add, Nat.add_zero, Int.reduceEq, Int.reduceNe, Int.reduceLT, Int.reduceLE, Int.reduceNeg, Int.reduceToNat, Nat.not_lt_zero, Int.reduceAdd, fxs F, l0, l1, l2, l3]
    simp (disch := omega) only [w32_of]
    rw [n2]
    refine ⟨by omega, fun c0 => ?_, fun c0 => cM_noteAt h6 (by omega) ?_⟩
    · refine kr k ?_
      unfold ntl
      refine fi_none (fun id _ => ?_)
      show (if sR S part id = -1 then -1 else sR S part id / 64 % 64) ≠ l
      by_cases hg : sR S part id = -1
      · rw [if_pos hg]
        omega
      · rw [if_neg hg]
        obtain ⟨q, g1, g2⟩ := n4 id hg
        have := q3 q (by omega)
        rw [g2] at this
        exact this
    · have hpK : p < K := by omega
      obtain ⟨v1, v2, v3⟩ := n3 p hpK
      have hb := om_c h6 hpK n1
      have hp1 : w32 ((p : Int) + 1) = (p : Int) + 1 := w32_of (by omega)
      simp only [wq_g3, wq_gc, wq_g, wq_g1, wq_g2, eM_notedBar, iM_notedBar_0, iM_notedBar_2, iM_notedBar_46, iM_notedBar_52, vM_notedBar, wps, x_cnd, reduceIte, Nat.reduceAdd, Nat.reduceSub, Nat.reduceEqDiff, Nat.reduceLeDiff, Nat.lt_irrefl, Nat.reduceLT, Int.cast_ofNat_Int, wq_c0, wq_c1, true_and, and_true, and_self, true_implies, forall_const, ne_eq, Decidable.not_not, not_true_eq_false, not_false_eq_true, List.map_nil, List.map_cons, List.sum_nil, List.sum_cons, List.length_cons, List.length_nil, Nat.le_refl, Nat.zero_le, reduceCtorEq, true_or, or_true, false_or, or_false, false_and, and_false, false_implies, Nat.zero_add, Nat.add_zero, Int.reduceEq, Int.reduceNe, Int.reduceLT, Int.reduceLE, Int.reduceNeg, Int.reduceToNat, Nat.not_lt_zero, Int.reduceAdd, fxs F, l0, l1, l2, l3]
      rw [om_d h6 hpK n1, v2]
      refine ⟨om_e h6 hpK n1, cM_letterIn (note_r w h6 v3) ?_⟩
      simp only [wq_g3, wq_gc, wq_g, wq_g1, wq_g2, eM_notedBar, iM_notedBar_0, iM_notedBar_2, iM_notedBar_46, iM_notedBar_52, vM_notedBar, wps, x_cnd, reduceIte, Nat.reduceAdd, Nat.reduceSub, Nat.reduceEqDiff, Nat.reduceLeDiff, Nat.lt_irrefl, Nat.reduceLT, Int.cast_ofNat_Int, wq_c0, wq_c1, true_and, and_true, and_self, true_implies, forall_const, ne_eq, Decidable.not_not, not_true_eq_false, not_false_eq_true, List.map_nil, List.map_cons, List.sum_nil, List.sum_cons, List.length_cons, List.length_nil, Nat.le_refl, Nat.zero_le, reduceCtorEq, true_or, or_true, false_or, or_false, false_and, and_false, false_implies, Nat.zero_add, Nat.add_zero, Int.reduceEq, Int.reduceNe, Int.reduceLT, Int.reduceLE, Int.reduceNeg, Int.reduceToNat, Nat.not_lt_zero, Int.reduceAdd, fxs F, l0, l1, l2, l3]
      rw [hp1]
      refine ⟨fun c1 => ⟨K - (p + 1), om_b hpK q2, p + 1, hpK, rfl, rfl, fun q hq => ?_⟩, fun c1 => cM_noteAt h6 (Nat.le_of_lt (Nat.lt_of_lt_of_le hpK n1)) ?_⟩
      · by_cases hqp : q = p
        · subst hqp
          exact c1
        · exact q3 q (Nat.lt_of_le_of_ne (Nat.le_of_lt_succ hq) hqp)
      · simp only [wq_g3, wq_gc, wq_g, wq_g1, wq_g2, eM_notedBar, iM_notedBar_0, iM_notedBar_2, iM_notedBar_46, iM_notedBar_52, vM_notedBar, wps, x_cnd, reduceIte, Nat.reduceAdd, Nat.reduceSub, Nat.reduceEqDiff, Nat.reduceLeDiff, Nat.lt_irrefl, Nat.reduceLT, Int.cast_ofNat_Int, wq_c0, wq_c1, true_and, and_true, and_self, true_implies, forall_const, ne_eq, Decidable.not_not, not_true_eq_false, not_false_eq_true, List.map_nil, List.map_cons, List.sum_nil, List.sum_cons, List.length_cons, List.length_nil, Nat.le_refl, Nat.zero_le, reduceCtorEq, true_or, or_true, false_or, or_false, false_and, and_false, false_implies, Nat.zero_add, Nat.add_zero, Int.reduceEq, Int.reduceNe, Int.reduceLT, Int.reduceLE, Int.reduceNeg, Int.reduceToNat, Nat.not_lt_zero, Int.reduceAdd, fxs F, l0, l1, l2, l3]
        refine ⟨hb, kr k ?_⟩
        have hr := NT_r w h6 v3
        obtain ⟨r, hr2⟩ : ∃ r : Nat, M1 42 (371 + 300 * part + 2 * p) = r := ⟨(M1 42 (371 + 300 * part + 2 * p)).toNat, by omega⟩
        rw [hr2] at c1 v3 ⊢
        unfold ntl
        have hf : (fun id : Int => if sR S part id = -1 then -1 else sR S part id / 64 % 64) r = l := by
          show (if sR S part r = -1 then -1 else sR S part r / 64 % 64) = _
          rw [if_neg v3]
          exact c1
        refine fi_eq (by omega) hf (fun z hz he => ?_)
        have he : (if sR S part z = -1 then -1 else sR S part z / 64 % 64) = (l : Int) := he
        by_cases hzn : sR S part z = -1
        · rw [if_pos hzn] at he
          omega
        · rw [if_neg hzn] at he
          have := w.u h6 hzn v3 (by omega) (by omega)
          omega
theorem cM_misled (W : MW A M h) {l : Int} (k : ∀ v M', MW A M' h → FM M M' → MA (xk [1]) (anMisled (aS A) (aI A) l) v M' → Φ (.inl (some (xI v))) M' h) : x_Cal zM_misled [xA 41, xI l] M h Φ := by
  have F := W.F
  have hP := W.w.P
  have hN := W.w.N
  refine x_metI kM_misled (Nat.le_of_ble_eq_true rfl) (fun t m ls st M' h' c2 n2 => t = 64 ∧ st = [] ∧ h' = h ∧ c2 = 0 ∧ n2 = 0 ∧ ls 0 = some (xA 41) ∧ ls 1 = some (xI l) ∧ MW A M' h ∧ FM M M' ∧ M' 41 0 = 0 ∧ (1 ≤ l ∧ l ≤ 40) ∧ ls 2 = some (xI (idA (aS A) (cts (aS A) l))) ∧ ∃ j : Nat, j ≤ sP (aS A) ∧ m = sP (aS A) - j ∧ ls 3 = some (xI (bs (msB (aS A) (aI A) l) j)) ∧ ls 4 = some (xI j)) 20 ?_ ?_
  · simp only [wq_g3, wq_gc, wq_g, wq_g1, wq_g2, eM_misled, iM_misled_0, iM_misled_15, iM_misled_16, iM_misled_24, iM_misled_57, iM_misled_58, iM_misled_64, iM_misled_107, iM_misled_113, vM_misled, wps, x_cnd, reduceIte, Nat.reduceAdd, Nat.reduceSub, Nat.reduceEqDiff, Nat.reduceLeDiff, Nat.lt_irrefl, Nat.reduceLT, Int.cast_ofNat_Int, wq_c0, wq_c1, true_and, and_true, and_self, true_implies, forall_const, ne_eq, Decidable.not_not, not_true_eq_false, not_false_eq_true, List.map_nil, List.map_cons, List.sum_nil, List.sum_cons, List.length_cons, List.length_nil, Nat.le_refl, Nat.zero_le, reduceCtorEq, true_or, or_true, false_or, or_false, false_and, and_false, false_implies, Nat.zero_add, Nat.add_zero, Int.reduceEq, Int.reduceNe, Int.reduceLT, Int.reduceLE, Int.reduceNeg, Int.reduceToNat, Nat.not_lt_zero, Int.reduceAdd, fxs F]
    refine cM_in ?_
    simp only [wq_g3, wq_gc, wq_g, wq_g1, wq_g2, eM_misled, iM_misled_0, iM_misled_15, iM_misled_16, iM_misled_24, iM_misled_57, iM_misled_58, iM_misled_64, iM_misled_107, iM_misled_113, vM_misled, wps, x_cnd, reduceIte, Nat.reduceAdd, Nat.reduceSub, Nat.reduceEqDiff, Nat.reduceLeDiff, Nat.lt_irrefl, Nat.reduceLT, Int.cast_ofNat_Int, wq_c0, wq_c1, true_and, and_true, and_self, true_implies, forall_const, ne_eq, Decidable.not_not, not_true_eq_false, not_false_eq_true, List.map_nil, List.map_cons, List.sum_nil, List.sum_cons, List.length_cons, List.length_nil, Nat.le_refl, Nat.zero_le, reduceCtorEq, true_or, or_true, false_or, or_false, false_and, and_false, false_implies, Nat.zero_add, Nat.add_zero, Int.reduceEq, Int.reduceNe, Int.reduceLT, Int.reduceLE, Int.reduceNeg, Int.reduceToNat, Nat.not_lt_zero, Int.reduceAdd, fxs F, b01_0]
    refine ⟨fun c0 => cM_ref1 F (by decide) ?_, fun c0 => cM_ref0 F ?_⟩
    · simp only [wq_g3, wq_gc, wq_g, wq_g1, wq_g2, eM_misled, iM_misled_0, iM_misled_15, iM_misled_16, iM_misled_24, iM_misled_57, iM_misled_58, iM_misled_64, iM_misled_107, iM_misled_113, vM_misled, wps, x_cnd, reduceIte, Nat.reduceAdd, Nat.reduceSub, Nat.reduceEqDiff, Nat.reduceLeDiff, Nat.lt_irrefl, Nat.reduceLT, Int.cast_ofNat_Int, wq_c0, wq_c1, true_and, and_true, and_self, true_implies, forall_const, ne_eq, Decidable.not_not, not_true_eq_false, not_false_eq_true, List.map_nil, List.map_cons, List.sum_nil, List.sum_cons, List.length_cons, List.length_nil, Nat.le_refl, Nat.zero_le, reduceCtorEq, true_or, or_true, false_or, or_false, false_and, and_false, false_implies, Nat.zero_add, Nat.add_zero, Int.reduceEq, Int.reduceNe, Int.reduceLT, Int.reduceLE, Int.reduceNeg, Int.reduceToNat, Nat.not_lt_zero, Int.reduceAdd, fxs F]
      exact k _ _ W.thr (FM.r.w (by decide)) (ma_e w_eq (if_neg c0) rfl)
    · simp only [wq_g3, wq_gc, wq_g, wq_g1, wq_g2, eM_misled, iM_misled_0, iM_misled_15, iM_misled_16, iM_misled_24, iM_misled_57, iM_misled_58, iM_misled_64, iM_misled_107, iM_misled_113, vM_misled, wps, x_cnd, reduceIte, Nat.reduceAdd, Nat.reduceSub, Nat.reduceEqDiff, Nat.reduceLeDiff, Nat.lt_irrefl, Nat.reduceLT, Int.cast_ofNat_Int, wq_c0, wq_c1, true_and, and_true, and_self, true_implies, forall_const, ne_eq, Decidable.not_not, not_true_eq_false, not_false_eq_true, List.map_nil, List.map_cons, List.sum_nil, List.sum_cons, List.length_cons, List.length_nil, Nat.le_refl, Nat.zero_le, reduceCtorEq, true_or, or_true, false_or, or_false, false_and, and_false, false_implies, Nat.zero_add, Nat.add_zero, Int.reduceEq, Int.reduceNe, Int.reduceLT, Int.reduceLE, Int.reduceNeg, Int.reduceToNat, Nat.not_lt_zero, Int.reduceAdd, fxs F]
      refine cM_look W.thr (fun M2 W2 L2 f2 => ?_)
      have t2 : M2 41 0 = 0 := (f2 41 0 (by omega) (by omega)).trans w_eq
      have f2' : FM M M2 := (FM.r.w (by decide)).l f2
      obtain ⟨j, rfl⟩ : ∃ j : Nat, l = j := ⟨l.toNat, by omega⟩
      have go : ∀ v : Int, v = idA (aS A) (cts (aS A) j) → ∃ m, MW A M2 h ∧ FM M M2 ∧ M2 41 0 = 0 ∧ (1 ≤ (j : Int) ∧ (j : Int) ≤ 40) ∧ some (xI v) = some (xI (idA (aS A) (cts (aS A) j))) ∧ ∃ j_1 : Nat, j_1 ≤ sP (aS A) ∧ m = sP (aS A) - j_1 ∧ some (xI 0) = some (xI (bs (msB (aS A) (aI A) j) j_1)) ∧ some (xI 0) = some (xI j_1) := fun v hv => ⟨sP (aS A) - 0, W2, f2', t2, c0, by rw [hv], 0, by omega, rfl, rfl, by rw [Int.natCast_zero]⟩
      have hno : cts (aS A) j = -1 → idA (aS A) (cts (aS A) j) = -1 := fun q => by rw [q]; rfl
      simp only [wq_g3, wq_gc, wq_g, wq_g1, wq_g2, eM_misled, iM_misled_0, iM_misled_15, iM_misled_16, iM_misled_24, iM_misled_57, iM_misled_58, iM_misled_64, iM_misled_107, iM_misled_113, vM_misled, wps, x_cnd, reduceIte, Nat.reduceAdd, Nat.reduceSub, Nat.reduceEqDiff, Nat.reduceLeDiff, Nat.lt_irrefl, Nat.reduceLT, Int.cast_ofNat_Int, wq_c0, wq_c1, true_and, and_true, and_self, true_implies, forall_const, ne_eq, Decidable.not_not, not_true_eq_false, not_false_eq_true, List.map_nil, List.map_cons, List.sum_nil, List.sum_cons, List.length_cons, List.length_nil, Nat.le_refl, Nat.zero_le, reduceCtorEq, true_or, or_true, false_or, or_false, false_and, and_false, false_implies, Nat.zero_add, Nat.add_zero, Int.reduceEq, Int.reduceNe, Int.reduceLT, Int.reduceLE, Int.reduceNeg, Int.reduceToNat, Nat.not_lt_zero, Int.reduceAdd, fxs F]
      refine cM_isMark F W2.G ?_
      simp only [wq_g3, wq_gc, wq_g, wq_g1, wq_g2, eM_misled, iM_misled_0, iM_misled_15, iM_misled_16, iM_misled_24, iM_misled_57, iM_misled_58, iM_misled_64, iM_misled_107, iM_misled_113, vM_misled, wps, x_cnd, reduceIte, Nat.reduceAdd, Nat.reduceSub, Nat.reduceEqDiff, Nat.reduceLeDiff, Nat.lt_irrefl, Nat.reduceLT, Int.cast_ofNat_Int, wq_c0, wq_c1, true_and, and_true, and_self, true_implies, forall_const, ne_eq, Decidable.not_not, not_true_eq_false, not_false_eq_true, List.map_nil, List.map_cons, List.sum_nil, List.sum_cons, List.length_cons, List.length_nil, Nat.le_refl, Nat.zero_le, reduceCtorEq, true_or, or_true, false_or, or_false, false_and, and_false, false_implies, Nat.zero_add, Nat.add_zero, Int.reduceEq, Int.reduceNe, Int.reduceLT, Int.reduceLE, Int.reduceNeg, Int.reduceToNat, Nat.not_lt_zero, Int.reduceAdd, fxs F, b01_0]
      refine ⟨fun c1 => go _ ?_, fun c1 => cM_counts F L2 hN (by omega) (by omega) ?_⟩
      · refine (hno ?_).symm
        unfold cts
        rw [if_neg (fun q => q.1 (by unfold shl; rw [if_neg c1]))]
      · have e50 := L2.sh (l := j) (by omega) (by omega)
        simp only [wq_g3, wq_gc, wq_g, wq_g1, wq_g2, eM_misled, iM_misled_0, iM_misled_15, iM_misled_16, iM_misled_24, iM_misled_57, iM_misled_58, iM_misled_64, iM_misled_107, iM_misled_113, vM_misled, wps, x_cnd, reduceIte, Nat.reduceAdd, Nat.reduceSub, Nat.reduceEqDiff, Nat.reduceLeDiff, Nat.lt_irrefl, Nat.reduceLT, Int.cast_ofNat_Int, wq_c0, wq_c1, true_and, and_true, and_self, true_implies, forall_const, ne_eq, Decidable.not_not, not_true_eq_false, not_false_eq_true, List.map_nil, List.map_cons, List.sum_nil, List.sum_cons, List.length_cons, List.length_nil, Nat.le_refl, Nat.zero_le, reduceCtorEq, true_or, or_true, false_or, or_false, false_and, and_false, false_implies, Nat.zero_add, Nat.add_zero, Int.reduceEq, Int.reduceNe, Int.reduceLT, Int.reduceLE, Int.reduceNeg, Int.reduceToNat, Nat.not_lt_zero, Int.reduceAdd, fxs F, b01_0, e50]
        refine ⟨fun c2 => go _ (hno c2).symm, fun c2 => ⟨by omega, ?_⟩⟩
        have hct := cts_iff.mp c2
        have hr := shl_rng2 (S := aS A) (l := j)
        obtain ⟨r, hr2⟩ : ∃ r : Nat, shl (aS A) j = r := ⟨(shl (aS A) j).toNat, by omega⟩
        have hce : cts (aS A) j = r := by
          unfold cts
          rw [if_pos hct, hr2]
        rw [hr2]
        refine cM_idAt F (by omega) ?_
        rw [W2.G.id (by omega)]
        simp only [wq_g3, wq_gc, wq_g, wq_g1, wq_g2, eM_misled, iM_misled_0, iM_misled_15, iM_misled_16, iM_misled_24, iM_misled_57, iM_misled_58, iM_misled_64, iM_misled_107, iM_misled_113, vM_misled, wps, x_cnd, reduceIte, Nat.reduceAdd, Nat.reduceSub, Nat.reduceEqDiff, Nat.reduceLeDiff, Nat.lt_irrefl, Nat.reduceLT, Int.cast_ofNat_Int, wq_c0, wq_c1, true_and, and_true, and_self, true_implies, forall_const, ne_eq, Decidable.not_not, not_true_eq_false, not_false_eq_true, List.map_nil, List.map_cons, List.sum_nil, List.sum_cons, List.length_cons, List.length_nil, Nat.le_refl, Nat.zero_le, reduceCtorEq, true_or, or_true, false_or, or_false, false_and, and_false, false_implies, Nat.zero_add, Nat.add_zero, Int.reduceEq, Int.reduceNe, Int.reduceLT, Int.reduceLE, Int.reduceNeg, Int.reduceToNat, Nat.not_lt_zero, Int.reduceAdd, fxs F]
        refine go _ ?_
        rw [hce]
        unfold idA
        rw [if_pos (by omega)]
  · rintro t m ls st M1 h' c2 n2 ⟨rfl, rfl, rfl, rfl, rfl, l0, l1, W1, f1, t1, c0, l2, j, y1, y2, l3, l4⟩
    have e0 := W1.G.p
    have e3 := W1.G.q
    simp only [wq_g3, wq_gc, wq_g, wq_g1, wq_g2, eM_misled, iM_misled_0, iM_misled_15, iM_misled_16, iM_misled_24, iM_misled_57, iM_misled_58, iM_misled_64, iM_misled_107, iM_misled_113, vM_misled, wps, x_cnd, reduceIte, Nat.reduceAdd, Nat.reduceSub, Nat.reduceEqDiff, Nat.reduceLeDiff, Nat.lt_irrefl, Nat.reduceLT, Int.cast_ofNat_Int, wq_c0, wq_c1, true_and, and_true, and_self, true_implies, forall_const, ne_eq, Decidable.not_not, not_true_eq_false, not_false_eq_true, List.map_nil, List.map_cons, List.sum_nil, List.sum_cons, List.length_cons, List.length_nil, Nat.le_refl, Nat.zero_le, reduceCtorEq, true_or, or_true, false_or, or_false, false_and, and_false, false_implies, Nat.zero_add, Nat.add_zero, Int.reduceEq, Int.reduceNe, Int.reduceLT, Int.reduceLE, Int.reduceNeg, Int.reduceToNat, Nat.not_lt_zero, Int.reduceAdd, fxs F, l0, l1, l2, l3, l4, e0, e3]
    refine ⟨fun c1 => ?_, fun c1 => cM_hasQ W1.w (by omega) ?_⟩
    · refine k _ _ W1 f1 (ma_v t1 ?_)
      unfold anMisled
      rw [if_pos c0, show sP (aS A) = j by omega]
    · have hjP : j < sP (aS A) := by omega
      simp only [wq_g3, wq_gc, wq_g, wq_g1, wq_g2, eM_misled, iM_misled_0, iM_misled_15, iM_misled_16, iM_misled_24, iM_misled_57, iM_misled_58, iM_misled_64, iM_misled_107, iM_misled_113, vM_misled, wps, x_cnd, reduceIte, Nat.reduceAdd, Nat.reduceSub, Nat.reduceEqDiff, Nat.reduceLeDiff, Nat.lt_irrefl, Nat.reduceLT, Int.cast_ofNat_Int, wq_c0, wq_c1, true_and, and_true, and_self, true_implies, forall_const, ne_eq, Decidable.not_not, not_true_eq_false, not_false_eq_true, List.map_nil, List.map_cons, List.sum_nil, List.sum_cons, List.length_cons, List.length_nil, Nat.le_refl, Nat.zero_le, reduceCtorEq, true_or, or_true, false_or, or_false, false_and, and_false, false_implies, Nat.zero_add, Nat.add_zero, Int.reduceEq, Int.reduceNe, Int.reduceLT, Int.reduceLE, Int.reduceNeg, Int.reduceToNat, Nat.not_lt_zero, Int.reduceAdd, fxs F, l0, l1, l2, l3, l4, b01_0]
      have hb : msB (aS A) (aI A) l j = true ↔ (sQ (aS A) j = 1 ∧ ntl (sR (aS A) j) l (aI A) ≠ idA (aS A) (cts (aS A) l)) := by
        unfold msB
        simp
      have h31 : j < 31 := by omega
      have hjc : w32 ((j : Int) + 1) = (j : Int) + 1 := w32_of (by omega)
      rw [hjc]
      have keep : msB (aS A) (aI A) l j = false → ∃ m2, m2 < m ∧ MW A M1 h' ∧ FM M M1 ∧ M1 41 0 = 0 ∧ (1 ≤ l ∧ l ≤ 40) ∧ ∃ j_1 : Nat, j_1 ≤ sP (aS A) ∧ m2 = sP (aS A) - j_1 ∧ some (xI (bs (msB (aS A) (aI A) l) j)) = some (xI (bs (msB (aS A) (aI A) l) j_1)) ∧ some (xI ((j : Int) + 1)) = some (xI j_1) := fun hf => ⟨sP (aS A) - (j + 1), om_b hjP y2, W1, f1, t1, c0, j + 1, hjP, rfl, by rw [bs_0 hf], rfl⟩
      refine ⟨fun c2 => keep (bf_of hb (fun q => c2 q.1)), fun c2 => ?_⟩
      obtain ⟨l', rfl⟩ : ∃ l' : Nat, l = l' := ⟨l.toNat, by omega⟩
      refine cM_notedBar F W1.w (by omega) (by omega) (W1.G.nt (by omega) c2) ?_
      simp only [wq_g3, wq_gc, wq_g, wq_g1, wq_g2, eM_misled, iM_misled_0, iM_misled_15, iM_misled_16, iM_misled_24, iM_misled_57, iM_misled_58, iM_misled_64, iM_misled_107, iM_misled_113, vM_misled, wps, x_cnd, reduceIte, Nat.reduceAdd, Nat.reduceSub, Nat.reduceEqDiff, Nat.reduceLeDiff, Nat.lt_irrefl, Nat.reduceLT, Int.cast_ofNat_Int, wq_c0, wq_c1, true_and, and_true, and_self, true_implies, forall_const, ne_eq, Decidable.not_not, not_true_eq_false, not_false_eq_true, List.map_nil, List.map_cons, List.sum_nil, List.sum_cons, List.length_cons, List.length_nil, Nat.le_refl, Nat.zero_le, reduceCtorEq, true_or, or_true, false_or, or_false, false_and, and_false, false_implies, Nat.zero_add, Nat.add_zero, Int.reduceEq, Int.reduceNe, Int.reduceLT, Int.reduceLE, Int.reduceNeg, Int.reduceToNat, Nat.not_lt_zero, Int.reduceAdd, fxs F, l0, l1, l2, l3, l4, b01_0]
      rw [hjc]
      refine ⟨fun c3 => keep (bf_of hb (fun q => q.2 c3)), fun c3 => ⟨sP (aS A) - (j + 1), om_b hjP y2, W1, f1, t1, c0, j + 1, hjP, rfl, by rw [x_or_bs h31 (hb.mpr ⟨c2, c3⟩)], rfl⟩⟩
end MERR
