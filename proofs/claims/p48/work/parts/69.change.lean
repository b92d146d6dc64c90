/-! one change -/
/-- a score of the law's: three parts, one bar at least that was not inserted -/
def gdS (S : xSr) : Prop := sP S = 3 ∧ ∃ p : Nat, p < sN S ∧ sX S p = 0
/-- what a change leaves -/
def chK (A A' : xAb) : Prop := ∃ (S : xSr) (nid : Int), A' = aKeep A S nid ∧ gdS S ∧ sN S ≤ sN (aS A) + 3 ∧ aI A ≤ nid ∧ nid ≤ aI A + 3
def chR (A A' : xAb) (d : Int) : Prop := (d = 0 ∧ A' = A) ∨ (d = 1 ∧ chK A A')
def chO (A : xAb) (r : xAn × xAb) (l : List Nat) (lo : Int) : Prop := (∃ e, r.1 = .inr e ∧ e ∈ l ∧ r.2 = A) ∨ ∃ v, r.1 = .inl v ∧ lo ≤ v ∧ chK A r.2
section LAW9
variable {A : xAb} {M M' : xM} {h h' : xH} {Φ : xO → xM → xH → Prop} {S : xSr}
set_option maxHeartbeats 2000000
theorem chO.hex {r : xAn × xAb} {l : List Nat} {lo : Int} (R : chO A r l lo) : ∀ e, r.1 = .inr e → e ∈ l := fun e he => by
  rcases R with ⟨e', r1, r2, -⟩ | ⟨v, r1, -⟩
  · rw [r1] at he
    cases he
    exact r2
  · rw [r1] at he
    cases he
theorem chK.of {S : xSr} {nid : Int} (G : gdS S) (h1 : sN S ≤ sN (aS A) + 3) (h2 : aI A ≤ nid) (h3 : nid ≤ aI A + 3) : chK A (aKeep A S nid) := ⟨S, nid, rfl, G, h1, h2, h3⟩
theorem chO.inr {r : xAn × xAb} {l : List Nat} {lo : Int} {e : Nat} (h : e ∈ l) (hr : r = (.inr e, A)) : chO A r l lo := Or.inl ⟨e, by rw [hr], h, by rw [hr]⟩
theorem chO.inl {r : xAn × xAb} {l : List Nat} {lo v : Int} {A' : xAb} (h : lo ≤ v) (K : chK A A') (hr : r = (.inl v, A')) : chO A r l lo := Or.inr ⟨v, by rw [hr], h, by rw [hr]; exact K⟩
theorem d_ins {nid after count beats : Int} (w : wfS (aS A) nid) (G : gdS (aS A)) (h0 : 0 ≤ aI A) (ha : after = -1 ∨ pl (aS A) after ≠ -1) (hc : 1 ≤ count ∧ count ≤ 3) (hb : 1 ≤ beats ∧ beats ≤ 4) : chO A (dIns A after count beats) [0] (-1) := by
  have g1 : ¬ (after ≠ -1 ∧ pl (aS A) after = -1) := fun e => ha.elim (fun h => e.1 h) (fun h => h e.2)
  have g2 : ¬ ¬ (1 ≤ count ∧ count ≤ 20 ∧ 1 ≤ beats ∧ beats ≤ 12) := by omega
  have hpl := pl_rng (S := aS A) (x := after)
  by_cases g3 : 150 < (sN (aS A) : Int) + count
  · exact chO.inr (e := 0) (by decide) (by unfold dIns; rw [if_neg g1, if_neg g2, if_pos g3])
  · refine chO.inl (v := aI A) (by omega) (chK.of ?_ ?_ ?_ ?_) (by unfold dIns; rw [if_neg g1, if_neg g2, if_neg g3])
    · obtain ⟨t, ht⟩ : ∃ t : Nat, (if after = -1 then (0 : Int) else pl (aS A) after + 1) = t := by
        split
        · exact ⟨0, rfl⟩
        · exact ⟨(pl (aS A) after + 1).toNat, by omega⟩
      rw [ht]
      obtain ⟨p3, p, p1, p2⟩ := G
      refine ⟨p3, if p < t then p else p + count.toNat, ?_, ?_⟩
      · show _ < sN (aS A) + count.toNat
        split <;> omega
      · show shf t count.toNat (sX (aS A)) (fun _ => 1) _ = 0
        unfold shf
        by_cases hp : p < t
        · rw [if_pos hp, if_pos (by omega)]
          exact p2
        · rw [if_neg hp, if_neg (by omega), if_neg (by omega), show (((p + count.toNat : Nat) : Int) - (count.toNat : Nat)) = p by omega]
          exact p2
    · show sN (aS A) + count.toNat ≤ _
      omega
    · omega
    · omega
theorem d_er {nid b : Int} (w : wfS (aS A) nid) (G : gdS (aS A)) (ha : pl (aS A) b ≠ -1) : chO A (dEr A b) [0] (-1) := by
  have hpl := pl_rng (S := aS A) (x := b)
  by_cases g3 : sX (aS A) (pl (aS A) b) = 0 ∨ sit (aS A) (pl (aS A) b) ≠ 0 ∨ cn (endC (aS A) b) 10 ≠ 0
  · exact chO.inr (e := 0) (by decide) (by unfold dEr; rw [if_neg ha, if_pos g3])
  · refine chO.inl (v := sN (aS A) - 1) (by omega) (chK.of ?_ ?_ (Int.le_refl _) (by omega)) (by unfold dEr; rw [if_neg ha, if_neg g3])
    · obtain ⟨p3, p, p1, p2⟩ := G
      obtain ⟨t, ht⟩ : ∃ t : Nat, pl (aS A) b = t := ⟨(pl (aS A) b).toNat, by omega⟩
      rw [ht] at g3 hpl ⊢
      rw [Int.toNat_natCast]
      have hne : p ≠ t := fun e => g3 (Or.inl (by rw [← e]; exact p2))
      refine ⟨p3, if p < t then p else p - 1, ?_, ?_⟩
      · show _ < sN (aS A) - 1
        split <;> omega
      · show dl t (sX (aS A)) _ = 0
        unfold dl
        by_cases hp : p < t
        · rw [if_pos hp, if_pos (by omega)]
          exact p2
        · rw [if_neg hp, if_neg (by omega), show (((p - 1 : Nat) : Int) + 1) = p by omega]
          exact p2
    · show sN (aS A) - 1 ≤ _
      omega
theorem d_cut {f l : Int} (G : gdS (aS A)) (h1 : pl (aS A) f ≠ -1) (h2 : pl (aS A) l ≠ -1) : chO A (dCut A f l) [1, 0] (-1) := by
  have g1 : ¬ (pl (aS A) f = -1 ∨ pl (aS A) l = -1) := by omega
  by_cases g2 : pl (aS A) l < pl (aS A) f
  · exact chO.inr (e := 1) (by decide) (by unfold dCut; rw [if_neg g1, if_pos g2])
  by_cases g3 : fi (sF (aS A)) (-1) 10 = -1
  · exact chO.inr (e := 0) (by decide) (by unfold dCut; rw [if_neg g1, if_neg g2, if_pos g3])
  · exact chO.inl (v := fi (sF (aS A)) (-1) 10) fi_rng.1 (chK.of (S := cutS (aS A) (fi (sF (aS A)) (-1) 10) f l) G (by show sN (aS A) ≤ _; omega) (Int.le_refl _) (by omega)) (by unfold dCut; rw [if_neg g1, if_neg g2, if_neg g3])
theorem d_open {c : Int} (G : gdS (aS A)) : chO A (dOpen A c) [2] (-1) := by
  by_cases g1 : 0 ≤ c ∧ c < 10 ∧ sF (aS A) c ≠ -1
  · exact chO.inl (v := pN (cutS (aS A) c (-1) (-1))) (by have := pN_rng (S := cutS (aS A) c (-1) (-1)); omega) (chK.of (S := cutS (aS A) c (-1) (-1)) G (by show sN (aS A) ≤ _; omega) (Int.le_refl _) (by omega)) (by unfold dOpen; rw [if_pos g1])
  · exact chO.inr (e := 2) (by decide) (by unfold dOpen; rw [if_neg g1])
theorem d_put {nid l b : Int} (w : wfS (aS A) nid) (G : gdS (aS A)) (h1 : pl (aS A) b ≠ -1) (h2 : 1 ≤ l ∧ l ≤ 40) : chO A (dPut A l b) [0] (-1) := by
  have g2 : ¬ ¬ (1 ≤ l ∧ l ≤ 40) := by omega
  by_cases g3 : (sit (aS A) (pl (aS A) b) ≠ 0 ∧ sit (aS A) (pl (aS A) b) ≠ l) ∨ (20 ≤ mkN (aS A) ∧ sM (aS A) l = -1)
  · exact chO.inr (e := 0) (by decide) (by unfold dPut; rw [if_neg h1, if_neg g2, if_pos g3])
  · refine chO.inl (v := sM (aS A) l) ?_ (chK.of (S := markS (aS A) l b) G (by show sN (aS A) ≤ _; omega) (Int.le_refl _) (by omega)) (by unfold dPut; rw [if_neg h1, if_neg g2, if_neg g3])
    obtain ⟨n, rfl⟩ := Int.eq_ofNat_of_zero_le (show 0 ≤ l by omega)
    rcases w.mk (l := n) (by omega) (by omega) with h | ⟨p, p1, p2⟩
    · omega
    · have := w.id p1
      omega
theorem mkN_0 {S : xSr} : 0 ≤ mkN S := cn_rng.1
theorem d_rem {l : Int} (G : gdS (aS A)) : chO A (dRem A l) [2] (-1) := by
  by_cases g1 : 1 ≤ l ∧ l ≤ 40 ∧ sM (aS A) l ≠ -1
  · exact chO.inl (v := mkN (markS (aS A) l (-1))) (by have := mkN_0 (S := markS (aS A) l (-1)); omega) (chK.of (S := markS (aS A) l (-1)) G (by show sN (aS A) ≤ _; omega) (Int.le_refl _) (by omega)) (by unfold dRem; rw [if_pos g1])
  · exact chO.inr (e := 2) (by decide) (by unfold dRem; rw [if_neg g1])
theorem d_let (G : gdS (aS A)) : chO A (dLet A) [] 0 := by
  have : ∀ k : Nat, 0 ≤ ro (aS A) k := fun k => by
    induction k with
    | zero => exact Int.le_refl _
    | succ k ih =>
      unfold ro
      split
      · split <;> omega
      · exact ih
  exact chO.inl (v := ro (aS A) (sN (aS A))) (this _) (chK.of (S := letS (aS A)) G (by show sN (aS A) ≤ _; omega) (Int.le_refl _) (by omega)) rfl
theorem d_num (G : gdS (aS A)) : chO A (dNum A) [] 0 := chO.inl (v := cn (otN (aS A)) (sN (aS A))) cn_rng.1 (chK.of (S := numS (aS A)) ⟨G.1, G.2.choose, G.2.choose_spec.1, rfl⟩ (by show sN (aS A) ≤ _; omega) (Int.le_refl _) (by omega)) rfl
theorem d_set2 {nid v : Int} {p : Nat} (w : wfS (aS A) nid) (G : gdS (aS A)) (hp : p < sN (aS A)) (hv : 1 ≤ v ∧ v ≤ 4) : chO A (dSet A (sI (aS A) p) 2 v) [] 1 := by
  have e := pl_at w hp
  have g1 : ¬ (pl (aS A) (sI (aS A) p) = -1) := by omega
  have g2 : ¬ ¬ okSet 2 v := fun q => q (by unfold okSet; omega)
  exact chO.inl (v := sB (aS A) (pl (aS A) (sI (aS A) p))) (by rw [e]; exact (w.b hp).1) (chK.of (S := barS (aS A) 2 (pl (aS A) (sI (aS A) p)) v) G (by show sN (aS A) ≤ _; omega) (Int.le_refl _) (by omega)) (by unfold dSet; rw [if_neg g1, if_neg g2, if_pos rfl])
theorem d_set4 {nid u v : Int} {p : Nat} (w : wfS (aS A) nid) (G : gdS (aS A)) (hp : p < sN (aS A)) (hu : u = 4 ∨ u = 5) (hv : 0 ≤ v ∧ v ≤ 1) : chO A (dSet A (sI (aS A) p) u v) [] 0 := by
  have e := pl_at w hp
  have g1 : ¬ (pl (aS A) (sI (aS A) p) = -1) := by omega
  have g2 : ¬ ¬ okSet u v := fun q => q (by unfold okSet; omega)
  have h4 := w.t hp
  have h5 := w.d hp
  rcases hu with rfl | rfl
  · exact chO.inl (v := sT (aS A) (pl (aS A) (sI (aS A) p))) (by rw [e]; omega) (chK.of (S := barS (aS A) 4 (pl (aS A) (sI (aS A) p)) v) G (by show sN (aS A) ≤ _; omega) (Int.le_refl _) (by omega)) (by unfold dSet; rw [if_neg g1, if_neg g2]; rfl)
  · exact chO.inl (v := sD (aS A) (pl (aS A) (sI (aS A) p))) (by rw [e]; omega) (chK.of (S := barS (aS A) 5 (pl (aS A) (sI (aS A) p)) v) G (by show sN (aS A) ≤ _; omega) (Int.le_refl _) (by omega)) (by unfold dSet; rw [if_neg g1, if_neg g2]; rfl)
theorem d_print {part : Int} (G : gdS (aS A)) (hp : 0 ≤ part ∧ part < 3) : chO A (dPrint A part) [] 0 := by
  have g1 : 0 ≤ part ∧ part < (sP (aS A) : Int) := by rw [G.1]; omega
  exact chO.inl (v := itN (aS A) part) cn_rng.1 (chK.of (S := prS (aS A) part) G (by show sN (aS A) ≤ _; omega) (Int.le_refl _) (by omega)) (by unfold dPrint; rw [if_pos g1])
theorem d_con {nid part v : Int} {p : Nat} (w : wfS (aS A) nid) (G : gdS (aS A)) (hq : 0 ≤ part ∧ part < 3) (hp : p < sN (aS A)) (hv : 0 ≤ v ∧ v ≤ 2) : chO A (dCon A part (sI (aS A) p) v) [] 0 := by
  have e := pl_at w hp
  have g1 : ¬ ¬ (0 ≤ part ∧ part < (sP (aS A) : Int)) := by rw [G.1]; omega
  have g2 : ¬ (pl (aS A) (sI (aS A) p) = -1) := by omega
  have g3 : ¬ ¬ (0 ≤ v ∧ v ≤ 2) := by omega
  obtain ⟨q, rfl⟩ := Int.eq_ofNat_of_zero_le hq.1
  exact chO.inl (v := sC (aS A) q (pl (aS A) (sI (aS A) p))) (by rw [e]; exact (w.c hp (by omega)).1) (chK.of (S := contS (aS A) q (pl (aS A) (sI (aS A) p)) v) G (by show sN (aS A) ≤ _; omega) (Int.le_refl _) (by omega)) (by unfold dCon; rw [if_neg g1, if_neg g2, if_neg g3])
theorem cl_change (C : CW A M h) (G : gdS (aS A)) (hnid : aI A ≤ 49980) (k : ∀ M' h' A' d, CW A' M' h' → chR A A' d → Φ (.inl (some (xI d))) M' h') : x_Cal zL_change [xA 1, xA 41] M h Φ := by
  have k1 := C.k1
  have w := C.w
  have hI := C.i.2.1
  have hN0 : 0 < sN (aS A) := by obtain ⟨-, p, p1, -⟩ := G; omega
  have hP3 : (sP (aS A) : Int) = 3 := by rw [G.1]; rfl
  refine x_met0 kL_change (Nat.le_of_ble_eq_true rfl) ?_
  simp only [wq_g3, wq_gc, wq_g, wq_g1, wq_g2, eL_change, iL_change_0, iL_change_60, iL_change_74, iL_change_79, iL_change_107, iL_change_108, iL_change_109, iL_change_127, iL_change_128, iL_change_129, iL_change_152, iL_change_153, iL_change_154, iL_change_173, iL_change_174, iL_change_175, iL_change_202, iL_change_203, iL_change_204, iL_change_226, iL_change_227, iL_change_228, iL_change_248, iL_change_252, iL_change_263, iL_change_264, iL_change_265, iL_change_291, iL_change_292, iL_change_293, iL_change_323, iL_change_324, iL_change_325, iL_change_345, iL_change_346, iL_change_347, iL_change_378, iL_change_379, vL_change, wps, x_cnd, reduceIte, Nat.reduceAdd, Nat.reduceSub, Nat.reduceEqDiff, Nat.reduceLeDiff, Nat.lt_irrefl, Nat.reduceLT, Int.cast_ofNat_Int, wq_c0, wq_c1, true_and, and_true, and_self, true_implies, forall_const, ne_eq, Decidable.not_not, not_true_eq_false, not_false_eq_true, List.map_nil, List.map_cons, List.sum_nil, List.sum_cons, List.length_cons, List.length_nil, Nat.le_refl, Nat.zero_le, reduceCtorEq, true_or, or_true, false_or, or_false, false_and, and_false, false_implies, Nat.zero_add, Nat.add_zero, Int.reduceEq, Int.reduceNe, Int.reduceLT, Int.reduceLE, Int.reduceNeg, Int.reduceToNat, Nat.not_lt_zero, Int.reduceAdd, k1]
  (repeat refine ⟨by omega, ?_⟩)
  refine cl_next C.r41.1 C.r41.2 (fun y0 v0 a0 b0 => ?_)
  have C0 := C.y y0
  obtain ⟨d0, ed0, dd0, de0⟩ := remv (k := 12) a0 b0 (by decide)
  simp only [wq_g3, wq_gc, wq_g, wq_g1, wq_g2, eL_change, iL_change_0, iL_change_60, iL_change_74, iL_change_79, iL_change_107, iL_change_108, iL_change_109, iL_change_127, iL_change_128, iL_change_129, iL_change_152, iL_change_153, iL_change_154, iL_change_173, iL_change_174, iL_change_175, iL_change_202, iL_change_203, iL_change_204, iL_change_226, iL_change_227, iL_change_228, iL_change_248, iL_change_252, iL_change_263, iL_change_264, iL_change_265, iL_change_291, iL_change_292, iL_change_293, iL_change_323, iL_change_324, iL_change_325, iL_change_345, iL_change_346, iL_change_347, iL_change_378, iL_change_379, vL_change, wps, x_cnd, reduceIte, Nat.reduceAdd, Nat.reduceSub, Nat.reduceEqDiff, Nat.reduceLeDiff, Nat.lt_irrefl, Nat.reduceLT, Int.cast_ofNat_Int, wq_c0, wq_c1, true_and, and_true, and_self, true_implies, forall_const, ne_eq, Decidable.not_not, not_true_eq_false, not_false_eq_true, List.map_nil, List.map_cons, List.sum_nil, List.sum_cons, List.length_cons, List.length_nil, Nat.le_refl, Nat.zero_le, reduceCtorEq, true_or, or_true, false_or, or_false, false_and, and_false, false_implies, Nat.zero_add, Nat.add_zero, Int.reduceEq, Int.reduceNe, Int.reduceLT, Int.reduceLE, Int.reduceNeg, Int.reduceToNat, Nat.not_lt_zero, Int.reduceAdd, k1, ed0]
  refine ⟨fun c0 => ?_, fun c0 => ?_, fun c0 => ?_, fun c0 => ?_, fun c0 => ?_, fun c0 => ?_, fun c0 => ?_, fun c0 => ?_, fun c0 => ?_, fun c0 => ?_, fun c0 => ?_⟩
  · (repeat refine ⟨by omega, ?_⟩)
    refine cl_next C0.r41.1 C0.r41.2 (fun y1 v1 a1 b1 => ?_)
    have C1 := C0.y y1
    obtain ⟨d1, ed1, dd1, de1⟩ := remv (k := 5) a1 b1 (by decide)
    simp only [wq_g3, wq_gc, wq_g, wq_g1, wq_g2, eL_change, iL_change_0, iL_change_60, iL_change_74, iL_change_79, iL_change_107, iL_change_108, iL_change_109, iL_change_127, iL_change_128, iL_change_129, iL_change_152, iL_change_153, iL_change_154, iL_change_173, iL_change_174, iL_change_175, iL_change_202, iL_change_203, iL_change_204, iL_change_226, iL_change_227, iL_change_228, iL_change_248, iL_change_252, iL_change_263, iL_change_264, iL_change_265, iL_change_291, iL_change_292, iL_change_293, iL_change_323, iL_change_324, iL_change_325, iL_change_345, iL_change_346, iL_change_347, iL_change_378, iL_change_379, vL_change, wps, x_cnd, reduceIte, Nat.reduceAdd, Nat.reduceSub, Nat.reduceEqDiff, Nat.reduceLeDiff, Nat.lt_irrefl, Nat.reduceLT, Int.cast_ofNat_Int, wq_c0, wq_c1, true_and, and_true, and_self, true_implies, forall_const, ne_eq, Decidable.not_not, not_true_eq_false, not_false_eq_true, List.map_nil, List.map_cons, List.sum_nil, List.sum_cons, List.length_cons, List.length_nil, Nat.le_refl, Nat.zero_le, reduceCtorEq, true_or, or_true, false_or, or_false, false_and, and_false, false_implies, Nat.zero_add, Nat.add_zero, Int.reduceEq, Int.reduceNe, Int.reduceLT, Int.reduceLE, Int.reduceNeg, Int.reduceToNat, Nat.not_lt_zero, Int.reduceAdd, k1, ed1]
    try simp (disch := omega) only [w32_of]
    refine ⟨fun c1 => ?_, fun c1 => ?_⟩
    · (repeat refine ⟨by omega, ?_⟩)
      refine cl_bar C1 hN0 (fun y2 p2 hp2 => ?_)
      have C2 := C1.y y2
      have pl2 : pl (aS A) (sI (aS A) p2) ≠ -1 := by rw [pl_at w hp2]; omega
      simp only [wq_g3, wq_gc, wq_g, wq_g1, wq_g2, eL_change, iL_change_0, iL_change_60, iL_change_74, iL_change_79, iL_change_107, iL_change_108, iL_change_109, iL_change_127, iL_change_128, iL_change_129, iL_change_152, iL_change_153, iL_change_154, iL_change_173, iL_change_174, iL_change_175, iL_change_202, iL_change_203, iL_change_204, iL_change_226, iL_change_227, iL_change_228, iL_change_248, iL_change_252, iL_change_263, iL_change_264, iL_change_265, iL_change_291, iL_change_292, iL_change_293, iL_change_323, iL_change_324, iL_change_325, iL_change_345, iL_change_346, iL_change_347, iL_change_378, iL_change_379, vL_change, wps, x_cnd, reduceIte, Nat.reduceAdd, Nat.reduceSub, Nat.reduceEqDiff, Nat.reduceLeDiff, Nat.lt_irrefl, Nat.reduceLT, Int.cast_ofNat_Int, wq_c0, wq_c1, true_and, and_true, and_self, true_implies, forall_const, ne_eq, Decidable.not_not, not_true_eq_false, not_false_eq_true, List.map_nil, List.map_cons, List.sum_nil, List.sum_cons, List.length_cons, List.length_nil, Nat.le_refl, Nat.zero_le, reduceCtorEq, true_or, or_true, false_or, or_false, false_and, and_false, false_implies, Nat.zero_add, Nat.add_zero, Int.reduceEq, Int.reduceNe, Int.reduceLT, Int.reduceLE, Int.reduceNeg, Int.reduceToNat, Nat.not_lt_zero, Int.reduceAdd, k1]
      (repeat refine ⟨by omega, ?_⟩)
      refine cl_next C2.r41.1 C2.r41.2 (fun y3 v3 a3 b3 => ?_)
      have C3 := C2.y y3
      obtain ⟨d3, ed3, dd3, de3⟩ := remv (k := 3) a3 b3 (by decide)
      simp only [wq_g3, wq_gc, wq_g, wq_g1, wq_g2, eL_change, iL_change_0, iL_change_60, iL_change_74, iL_change_79, iL_change_107, iL_change_108, iL_change_109, iL_change_127, iL_change_128, iL_change_129, iL_change_152, iL_change_153, iL_change_154, iL_change_173, iL_change_174, iL_change_175, iL_change_202, iL_change_203, iL_change_204, iL_change_226, iL_change_227, iL_change_228, iL_change_248, iL_change_252, iL_change_263, iL_change_264, iL_change_265, iL_change_291, iL_change_292, iL_change_293, iL_change_323, iL_change_324, iL_change_325, iL_change_345, iL_change_346, iL_change_347, iL_change_378, iL_change_379, vL_change, wps, x_cnd, reduceIte, Nat.reduceAdd, Nat.reduceSub, Nat.reduceEqDiff, Nat.reduceLeDiff, Nat.lt_irrefl, Nat.reduceLT, Int.cast_ofNat_Int, wq_c0, wq_c1, true_and, and_true, and_self, true_implies, forall_const, ne_eq, Decidable.not_not, not_true_eq_false, not_false_eq_true, List.map_nil, List.map_cons, List.sum_nil, List.sum_cons, List.length_cons, List.length_nil, Nat.le_refl, Nat.zero_le, reduceCtorEq, true_or, or_true, false_or, or_false, false_and, and_false, false_implies, Nat.zero_add, Nat.add_zero, Int.reduceEq, Int.reduceNe, Int.reduceLT, Int.reduceLE, Int.reduceNeg, Int.reduceToNat, Nat.not_lt_zero, Int.reduceAdd, k1, ed3]
      try simp (disch := omega) only [w32_of]
      (repeat refine ⟨by omega, ?_⟩)
      refine cl_next C3.r41.1 C3.r41.2 (fun y4 v4 a4 b4 => ?_)
      have C4 := C3.y y4
      obtain ⟨d4, ed4, dd4, de4⟩ := remv (k := 4) a4 b4 (by decide)
      simp only [wq_g3, wq_gc, wq_g, wq_g1, wq_g2, eL_change, iL_change_0, iL_change_60, iL_change_74, iL_change_79, iL_change_107, iL_change_108, iL_change_109, iL_change_127, iL_change_128, iL_change_129, iL_change_152, iL_change_153, iL_change_154, iL_change_173, iL_change_174, iL_change_175, iL_change_202, iL_change_203, iL_change_204, iL_change_226, iL_change_227, iL_change_228, iL_change_248, iL_change_252, iL_change_263, iL_change_264, iL_change_265, iL_change_291, iL_change_292, iL_change_293, iL_change_323, iL_change_324, iL_change_325, iL_change_345, iL_change_346, iL_change_347, iL_change_378, iL_change_379, vL_change, wps, x_cnd, reduceIte, Nat.reduceAdd, Nat.reduceSub, Nat.reduceEqDiff, Nat.reduceLeDiff, Nat.lt_irrefl, Nat.reduceLT, Int.cast_ofNat_Int, wq_c0, wq_c1, true_and, and_true, and_self, true_implies, forall_const, ne_eq, Decidable.not_not, not_true_eq_false, not_false_eq_true, List.map_nil, List.map_cons, List.sum_nil, List.sum_cons, List.length_cons, List.length_nil, Nat.le_refl, Nat.zero_le, reduceCtorEq, true_or, or_true, false_or, or_false, false_and, and_false, false_implies, Nat.zero_add, Nat.add_zero, Int.reduceEq, Int.reduceNe, Int.reduceLT, Int.reduceLE, Int.reduceNeg, Int.reduceToNat, Nat.not_lt_zero, Int.reduceAdd, k1, ed4]
      try simp (disch := omega) only [w32_of]
      have R := d_ins (after := sI (aS A) p2) (count := 1 + d3) (beats := 1 + d4) w G hI (Or.inr pl2) (by omega) (by omega)
      (repeat refine ⟨by omega, ?_⟩)
      refine cG_inserted C4 hnid (by unfold x_i32; omega) R.hex (fun M9 h9 C9 => ?_)
      rcases R with ⟨e9, r1, r2, r3⟩ | ⟨v9, r1, r2, K⟩
      · rw [r1]
        rw [r3] at C9
        simp only [wq_g3, wq_gc, wq_g, wq_g1, wq_g2, eL_change, iL_change_0, iL_change_60, iL_change_74, iL_change_79, iL_change_107, iL_change_108, iL_change_109, iL_change_127, iL_change_128, iL_change_129, iL_change_152, iL_change_153, iL_change_154, iL_change_173, iL_change_174, iL_change_175, iL_change_202, iL_change_203, iL_change_204, iL_change_226, iL_change_227, iL_change_228, iL_change_248, iL_change_252, iL_change_263, iL_change_264, iL_change_265, iL_change_291, iL_change_292, iL_change_293, iL_change_323, iL_change_324, iL_change_325, iL_change_345, iL_change_346, iL_change_347, iL_change_378, iL_change_379, vL_change, wps, x_cnd, reduceIte, Nat.reduceAdd, Nat.reduceSub, Nat.reduceEqDiff, Nat.reduceLeDiff, Nat.lt_irrefl, Nat.reduceLT, Int.cast_ofNat_Int, wq_c0, wq_c1, true_and, and_true, and_self, true_implies, forall_const, ne_eq, Decidable.not_not, not_true_eq_false, not_false_eq_true, List.map_nil, List.map_cons, List.sum_nil, List.sum_cons, List.length_cons, List.length_nil, Nat.le_refl, Nat.zero_le, reduceCtorEq, true_or, or_true, false_or, or_false, false_and, and_false, false_implies, Nat.zero_add, Nat.add_zero, Int.reduceEq, Int.reduceNe, Int.reduceLT, Int.reduceLE, Int.reduceNeg, Int.reduceToNat, Nat.not_lt_zero, Int.reduceAdd, an2]
        exact k M9 h9 A 0 C9 (Or.inl ⟨rfl, rfl⟩)
      · rw [r1]
        have g9 : ¬ (v9 = -2) := by omega
        simp only [wq_g3, wq_gc, wq_g, wq_g1, wq_g2, eL_change, iL_change_0, iL_change_60, iL_change_74, iL_change_79, iL_change_107, iL_change_108, iL_change_109, iL_change_127, iL_change_128, iL_change_129, iL_change_152, iL_change_153, iL_change_154, iL_change_173, iL_change_174, iL_change_175, iL_change_202, iL_change_203, iL_change_204, iL_change_226, iL_change_227, iL_change_228, iL_change_248, iL_change_252, iL_change_263, iL_change_264, iL_change_265, iL_change_291, iL_change_292, iL_change_293, iL_change_323, iL_change_324, iL_change_325, iL_change_345, iL_change_346, iL_change_347, iL_change_378, iL_change_379, vL_change, wps, x_cnd, reduceIte, Nat.reduceAdd, Nat.reduceSub, Nat.reduceEqDiff, Nat.reduceLeDiff, Nat.lt_irrefl, Nat.reduceLT, Int.cast_ofNat_Int, wq_c0, wq_c1, true_and, and_true, and_self, true_implies, forall_const, ne_eq, Decidable.not_not, not_true_eq_false, not_false_eq_true, List.map_nil, List.map_cons, List.sum_nil, List.sum_cons, List.length_cons, List.length_nil, Nat.le_refl, Nat.zero_le, reduceCtorEq, true_or, or_true, false_or, or_false, false_and, and_false, false_implies, Nat.zero_add, Nat.add_zero, Int.reduceEq, Int.reduceNe, Int.reduceLT, Int.reduceLE, Int.reduceNeg, Int.reduceToNat, Nat.not_lt_zero, Int.reduceAdd, an2, g9]
        exact k M9 h9 _ 1 C9 (Or.inr ⟨rfl, K⟩)
    · (repeat refine ⟨by omega, ?_⟩)
      refine cl_next C1.r41.1 C1.r41.2 (fun y2 v2 a2 b2 => ?_)
      have C2 := C1.y y2
      obtain ⟨d2, ed2, dd2, de2⟩ := remv (k := 3) a2 b2 (by decide)
      simp only [wq_g3, wq_gc, wq_g, wq_g1, wq_g2, eL_change, iL_change_0, iL_change_60, iL_change_74, iL_change_79, iL_change_107, iL_change_108, iL_change_109, iL_change_127, iL_change_128, iL_change_129, iL_change_152, iL_change_153, iL_change_154, iL_change_173, iL_change_174, iL_change_175, iL_change_202, iL_change_203, iL_change_204, iL_change_226, iL_change_227, iL_change_228, iL_change_248, iL_change_252, iL_change_263, iL_change_264, iL_change_265, iL_change_291, iL_change_292, iL_change_293, iL_change_323, iL_change_324, iL_change_325, iL_change_345, iL_change_346, iL_change_347, iL_change_378, iL_change_379, vL_change, wps, x_cnd, reduceIte, Nat.reduceAdd, Nat.reduceSub, Nat.reduceEqDiff, Nat.reduceLeDiff, Nat.lt_irrefl, Nat.reduceLT, Int.cast_ofNat_Int, wq_c0, wq_c1, true_and, and_true, and_self, true_implies, forall_const, ne_eq, Decidable.not_not, not_true_eq_false, not_false_eq_true, List.map_nil, List.map_cons, List.sum_nil, List.sum_cons, List.length_cons, List.length_nil, Nat.le_refl, Nat.zero_le, reduceCtorEq, true_or, or_true, false_or, or_false, false_and, and_false, false_implies, Nat.zero_add, Nat.add_zero, Int.reduceEq, Int.reduceNe, Int.reduceLT, Int.reduceLE, Int.reduceNeg, Int.reduceToNat, Nat.not_lt_zero, Int.reduceAdd, k1, ed2]
      try simp (disch := omega) only [w32_of]
      (repeat refine ⟨by omega, ?_⟩)
      refine cl_next C2.r41.1 C2.r41.2 (fun y3 v3 a3 b3 => ?_)
      have C3 := C2.y y3
      obtain ⟨d3, ed3, dd3, de3⟩ := remv (k := 4) a3 b3 (by decide)
      simp only [wq_g3, wq_gc, wq_g, wq_g1, wq_g2, eL_change, iL_change_0, iL_change_60, iL_change_74, iL_change_79, iL_change_107, iL_change_108, iL_change_109, iL_change_127, iL_change_128, iL_change_129, iL_change_152, iL_change_153, iL_change_154, iL_change_173, iL_change_174, iL_change_175, iL_change_202, iL_change_203, iL_change_204, iL_change_226, iL_change_227, iL_change_228, iL_change_248, iL_change_252, iL_change_263, iL_change_264, iL_change_265, iL_change_291, iL_change_292, iL_change_293, iL_change_323, iL_change_324, iL_change_325, iL_change_345, iL_change_346, iL_change_347, iL_change_378, iL_change_379, vL_change, wps, x_cnd, reduceIte, Nat.reduceAdd, Nat.reduceSub, Nat.reduceEqDiff, Nat.reduceLeDiff, Nat.lt_irrefl, Nat.reduceLT, Int.cast_ofNat_Int, wq_c0, wq_c1, true_and, and_true, and_self, true_implies, forall_const, ne_eq, Decidable.not_not, not_true_eq_false, not_false_eq_true, List.map_nil, List.map_cons, List.sum_nil, List.sum_cons, List.length_cons, List.length_nil, Nat.le_refl, Nat.zero_le, reduceCtorEq, true_or, or_true, false_or, or_false, false_and, and_false, false_implies, Nat.zero_add, Nat.add_zero, Int.reduceEq, Int.reduceNe, Int.reduceLT, Int.reduceLE, Int.reduceNeg, Int.reduceToNat, Nat.not_lt_zero, Int.reduceAdd, k1, ed3]
      try simp (disch := omega) only [w32_of]
      have R := d_ins (after := -1) (count := 1 + d2) (beats := 1 + d3) w G hI (Or.inl rfl) (by omega) (by omega)
      (repeat refine ⟨by omega, ?_⟩)
      refine cG_inserted C3 hnid (by unfold x_i32; omega) R.hex (fun M9 h9 C9 => ?_)
      rcases R with ⟨e9, r1, r2, r3⟩ | ⟨v9, r1, r2, K⟩
      · rw [r1]
        rw [r3] at C9
        simp only [wq_g3, wq_gc, wq_g, wq_g1, wq_g2, eL_change, iL_change_0, iL_change_60, iL_change_74, iL_change_79, iL_change_107, iL_change_108, iL_change_109, iL_change_127, iL_change_128, iL_change_129, iL_change_152, iL_change_153, iL_change_154, iL_change_173, iL_change_174, iL_change_175, iL_change_202, iL_change_203, iL_change_204, iL_change_226, iL_change_227, iL_change_228, iL_change_248, iL_change_252, iL_change_263, iL_change_264, iL_change_265, iL_change_291, iL_change_292, iL_change_293, iL_change_323, iL_change_324, iL_change_325, iL_change_345, iL_change_346, iL_change_347, iL_change_378, iL_change_379, vL_change, wps, x_cnd, reduceIte, Nat.reduceAdd, Nat.reduceSub, Nat.reduceEqDiff, Nat.reduceLeDiff, Nat.lt_irrefl, Nat.reduceLT, Int.cast_ofNat_Int, wq_c0, wq_c1, true_and, and_true, and_self, true_implies, forall_const, ne_eq, Decidable.not_not, not_true_eq_false, not_false_eq_true, List.map_nil, List.map_cons, List.sum_nil, List.sum_cons, List.length_cons, List.length_nil, Nat.le_refl, Nat.zero_le, reduceCtorEq, true_or, or_true, false_or, or_false, false_and, and_false, false_implies, Nat.zero_add, Nat.add_zero, Int.reduceEq, Int.reduceNe, Int.reduceLT, Int.reduceLE, Int.reduceNeg, Int.reduceToNat, Nat.not_lt_zero, Int.reduceAdd, an2]
        exact k M9 h9 A 0 C9 (Or.inl ⟨rfl, rfl⟩)
      · rw [r1]
        have g9 : ¬ (v9 = -2) := by omega
        simp only [wq_g3, wq_gc, wq_g, wq_g1, wq_g2, eL_change, iL_change_0, iL_change_60, iL_change_74, iL_change_79, iL_change_107, iL_change_108, iL_change_109, iL_change_127, iL_change_128, iL_change_129, iL_change_152, iL_change_153, iL_change_154, iL_change_173, iL_change_174, iL_change_175, iL_change_202, iL_change_203, iL_change_204, iL_change_226, iL_change_227, iL_change_228, iL_change_248, iL_change_252, iL_change_263, iL_change_264, iL_change_265, iL_change_291, iL_change_292, iL_change_293, iL_change_323, iL_change_324, iL_change_325, iL_change_345, iL_change_346, iL_change_347, iL_change_378, iL_change_379, vL_change, wps, x_cnd, reduceIte, Nat.reduceAdd, Nat.reduceSub, Nat.reduceEqDiff, Nat.reduceLeDiff, Nat.lt_irrefl, Nat.reduceLT, Int.cast_ofNat_Int, wq_c0, wq_c1, true_and, and_true, and_self, true_implies, forall_const, ne_eq, Decidable.not_not, not_true_eq_false, not_false_eq_true, List.map_nil, List.map_cons, List.sum_nil, List.sum_cons, List.length_cons, List.length_nil, Nat.le_refl, Nat.zero_le, reduceCtorEq, true_or, or_true, false_or, or_false, false_and, and_false, false_implies, Nat.zero_add, Nat.add_zero, Int.reduceEq, Int.reduceNe, Int.reduceLT, Int.reduceLE, Int.reduceNeg, Int.reduceToNat, Nat.not_lt_zero, Int.reduceAdd, an2, g9]
        exact k M9 h9 _ 1 C9 (Or.inr ⟨rfl, K⟩)
  · (repeat refine ⟨by omega, ?_⟩)
    refine cl_bar C0 hN0 (fun y1 p1 hp1 => ?_)
    have C1 := C0.y y1
    have pl1 : pl (aS A) (sI (aS A) p1) ≠ -1 := by rw [pl_at w hp1]; omega
    simp only [wq_g3, wq_gc, wq_g, wq_g1, wq_g2, eL_change, iL_change_0, iL_change_60, iL_change_74, iL_change_79, iL_change_107, iL_change_108, iL_change_109, iL_change_127, iL_change_128, iL_change_129, iL_change_152, iL_change_153, iL_change_154, iL_change_173, iL_change_174, iL_change_175, iL_change_202, iL_change_203, iL_change_204, iL_change_226, iL_change_227, iL_change_228, iL_change_248, iL_change_252, iL_change_263, iL_change_264, iL_change_265, iL_change_291, iL_change_292, iL_change_293, iL_change_323, iL_change_324, iL_change_325, iL_change_345, iL_change_346, iL_change_347, iL_change_378, iL_change_379, vL_change, wps, x_cnd, reduceIte, Nat.reduceAdd, Nat.reduceSub, Nat.reduceEqDiff, Nat.reduceLeDiff, Nat.lt_irrefl, Nat.reduceLT, Int.cast_ofNat_Int, wq_c0, wq_c1, true_and, and_true, and_self, true_implies, forall_const, ne_eq, Decidable.not_not, not_true_eq_false, not_false_eq_true, List.map_nil, List.map_cons, List.sum_nil, List.sum_cons, List.length_cons, List.length_nil, Nat.le_refl, Nat.zero_le, reduceCtorEq, true_or, or_true, false_or, or_false, false_and, and_false, false_implies, Nat.zero_add, Nat.add_zero, Int.reduceEq, Int.reduceNe, Int.reduceLT, Int.reduceLE, Int.reduceNeg, Int.reduceToNat, Nat.not_lt_zero, Int.reduceAdd, k1]
    have R := d_er w G pl1
    (repeat refine ⟨by omega, ?_⟩)
    refine cG_erased C1 R.hex (fun M9 h9 C9 => ?_)
    rcases R with ⟨e9, r1, r2, r3⟩ | ⟨v9, r1, r2, K⟩
    · rw [r1]
      rw [r3] at C9
      simp only [wq_g3, wq_gc, wq_g, wq_g1, wq_g2, eL_change, iL_change_0, iL_change_60, iL_change_74, iL_change_79, iL_change_107, iL_change_108, iL_change_109, iL_change_127, iL_change_128, iL_change_129, iL_change_152, iL_change_153, iL_change_154, iL_change_173, iL_change_174, iL_change_175, iL_change_202, iL_change_203, iL_change_204, iL_change_226, iL_change_227, iL_change_228, iL_change_248, iL_change_252, iL_change_263, iL_change_264, iL_change_265, iL_change_291, iL_change_292, iL_change_293, iL_change_323, iL_change_324, iL_change_325, iL_change_345, iL_change_346, iL_change_347, iL_change_378, iL_change_379, vL_change, wps, x_cnd, reduceIte, Nat.reduceAdd, Nat.reduceSub, Nat.reduceEqDiff, Nat.reduceLeDiff, Nat.lt_irrefl, Nat.reduceLT, Int.cast_ofNat_Int, wq_c0, wq_c1, true_and, and_true, and_self, true_implies, forall_const, ne_eq, Decidable.not_not, not_true_eq_false, not_false_eq_true, List.map_nil, List.map_cons, List.sum_nil, List.sum_cons, List.length_cons, List.length_nil, Nat.le_refl, Nat.zero_le, reduceCtorEq, true_or, or_true, false_or, or_false, false_and, and_false, false_implies, Nat.zero_add, Nat.add_zero, Int.reduceEq, Int.reduceNe, Int.reduceLT, Int.reduceLE, Int.reduceNeg, Int.reduceToNat, Nat.not_lt_zero, Int.reduceAdd, an2]
      exact k M9 h9 A 0 C9 (Or.inl ⟨rfl, rfl⟩)
    · rw [r1]
      have g9 : ¬ (v9 = -2) := by omega
      simp only [wq_g3, wq_gc, wq_g, wq_g1, wq_g2, eL_change, iL_change_0, iL_change_60, iL_change_74, iL_change_79, iL_change_107, iL_change_108, iL_change_109, iL_change_127, iL_change_128, iL_change_129, iL_change_152, iL_change_153, iL_change_154, iL_change_173, iL_change_174, iL_change_175, iL_change_202, iL_change_203, iL_change_204, iL_change_226, iL_change_227, iL_change_228, iL_change_248, iL_change_252, iL_change_263, iL_change_264, iL_change_265, iL_change_291, iL_change_292, iL_change_293, iL_change_323, iL_change_324, iL_change_325, iL_change_345, iL_change_346, iL_change_347, iL_change_378, iL_change_379, vL_change, wps, x_cnd, reduceIte, Nat.reduceAdd, Nat.reduceSub, Nat.reduceEqDiff, Nat.reduceLeDiff, Nat.lt_irrefl, Nat.reduceLT, Int.cast_ofNat_Int, wq_c0, wq_c1, true_and, and_true, and_self, true_implies, forall_const, ne_eq, Decidable.not_not, not_true_eq_false, not_false_eq_true, List.map_nil, List.map_cons, List.sum_nil, List.sum_cons, List.length_cons, List.length_nil, Nat.le_refl, Nat.zero_le, reduceCtorEq, true_or, or_true, false_or, or_false, false_and, and_false, false_implies, Nat.zero_add, Nat.add_zero, Int.reduceEq, Int.reduceNe, Int.reduceLT, Int.reduceLE, Int.reduceNeg, Int.reduceToNat, Nat.not_lt_zero, Int.reduceAdd, an2, g9]
      exact k M9 h9 _ 1 C9 (Or.inr ⟨rfl, K⟩)
  · (repeat refine ⟨by omega, ?_⟩)
    refine cl_bar C0 hN0 (fun y1 p1 hp1 => ?_)
    have C1 := C0.y y1
    have pl1 : pl (aS A) (sI (aS A) p1) ≠ -1 := by rw [pl_at w hp1]; omega
    simp only [wq_g3, wq_gc, wq_g, wq_g1, wq_g2, eL_change, iL_change_0, iL_change_60, iL_change_74, iL_change_79, iL_change_107, iL_change_108, iL_change_109, iL_change_127, iL_change_128, iL_change_129, iL_change_152, iL_change_153, iL_change_154, iL_change_173, iL_change_174, iL_change_175, iL_change_202, iL_change_203, iL_change_204, iL_change_226, iL_change_227, iL_change_228, iL_change_248, iL_change_252, iL_change_263, iL_change_264, iL_change_265, iL_change_291, iL_change_292, iL_change_293, iL_change_323, iL_change_324, iL_change_325, iL_change_345, iL_change_346, iL_change_347, iL_change_378, iL_change_379, vL_change, wps, x_cnd, reduceIte, Nat.reduceAdd, Nat.reduceSub, Nat.reduceEqDiff, Nat.reduceLeDiff, Nat.lt_irrefl, Nat.reduceLT, Int.cast_ofNat_Int, wq_c0, wq_c1, true_and, and_true, and_self, true_implies, forall_const, ne_eq, Decidable.not_not, not_true_eq_false, not_false_eq_true, List.map_nil, List.map_cons, List.sum_nil, List.sum_cons, List.length_cons, List.length_nil, Nat.le_refl, Nat.zero_le, reduceCtorEq, true_or, or_true, false_or, or_false, false_and, and_false, false_implies, Nat.zero_add, Nat.add_zero, Int.reduceEq, Int.reduceNe, Int.reduceLT, Int.reduceLE, Int.reduceNeg, Int.reduceToNat, Nat.not_lt_zero, Int.reduceAdd, k1]
    (repeat refine ⟨by omega, ?_⟩)
    refine cl_bar C1 hN0 (fun y2 p2 hp2 => ?_)
    have C2 := C1.y y2
    have pl2 : pl (aS A) (sI (aS A) p2) ≠ -1 := by rw [pl_at w hp2]; omega
    simp only [wq_g3, wq_gc, wq_g, wq_g1, wq_g2, eL_change, iL_change_0, iL_change_60, iL_change_74, iL_change_79, iL_change_107, iL_change_108, iL_change_109, iL_change_127, iL_change_128, iL_change_129, iL_change_152, iL_change_153, iL_change_154, iL_change_173, iL_change_174, iL_change_175, iL_change_202, iL_change_203, iL_change_204, iL_change_226, iL_change_227, iL_change_228, iL_change_248, iL_change_252, iL_change_263, iL_change_264, iL_change_265, iL_change_291, iL_change_292, iL_change_293, iL_change_323, iL_change_324, iL_change_325, iL_change_345, iL_change_346, iL_change_347, iL_change_378, iL_change_379, vL_change, wps, x_cnd, reduceIte, Nat.reduceAdd, Nat.reduceSub, Nat.reduceEqDiff, Nat.reduceLeDiff, Nat.lt_irrefl, Nat.reduceLT, Int.cast_ofNat_Int, wq_c0, wq_c1, true_and, and_true, and_self, true_implies, forall_const, ne_eq, Decidable.not_not, not_true_eq_false, not_false_eq_true, List.map_nil, List.map_cons, List.sum_nil, List.sum_cons, List.length_cons, List.length_nil, Nat.le_refl, Nat.zero_le, reduceCtorEq, true_or, or_true, false_or, or_false, false_and, and_false, false_implies, Nat.zero_add, Nat.add_zero, Int.reduceEq, Int.reduceNe, Int.reduceLT, Int.reduceLE, Int.reduceNeg, Int.reduceToNat, Nat.not_lt_zero, Int.reduceAdd, k1]
    have R := d_cut G pl1 pl2
    (repeat refine ⟨by omega, ?_⟩)
    refine cG_made C2 R.hex (fun M9 h9 C9 => ?_)
    rcases R with ⟨e9, r1, r2, r3⟩ | ⟨v9, r1, r2, K⟩
    · rw [r1]
      rw [r3] at C9
      simp only [wq_g3, wq_gc, wq_g, wq_g1, wq_g2, eL_change, iL_change_0, iL_change_60, iL_change_74, iL_change_79, iL_change_107, iL_change_108, iL_change_109, iL_change_127, iL_change_128, iL_change_129, iL_change_152, iL_change_153, iL_change_154, iL_change_173, iL_change_174, iL_change_175, iL_change_202, iL_change_203, iL_change_204, iL_change_226, iL_change_227, iL_change_228, iL_change_248, iL_change_252, iL_change_263, iL_change_264, iL_change_265, iL_change_291, iL_change_292, iL_change_293, iL_change_323, iL_change_324, iL_change_325, iL_change_345, iL_change_346, iL_change_347, iL_change_378, iL_change_379, vL_change, wps, x_cnd, reduceIte, Nat.reduceAdd, Nat.reduceSub, Nat.reduceEqDiff, Nat.reduceLeDiff, Nat.lt_irrefl, Nat.reduceLT, Int.cast_ofNat_Int, wq_c0, wq_c1, true_and, and_true, and_self, true_implies, forall_const, ne_eq, Decidable.not_not, not_true_eq_false, not_false_eq_true, List.map_nil, List.map_cons, List.sum_nil, List.sum_cons, List.length_cons, List.length_nil, Nat.le_refl, Nat.zero_le, reduceCtorEq, true_or, or_true, false_or, or_false, false_and, and_false, false_implies, Nat.zero_add, Nat.add_zero, Int.reduceEq, Int.reduceNe, Int.reduceLT, Int.reduceLE, Int.reduceNeg, Int.reduceToNat, Nat.not_lt_zero, Int.reduceAdd, an2]
      exact k M9 h9 A 0 C9 (Or.inl ⟨rfl, rfl⟩)
    · rw [r1]
      have g9 : ¬ (v9 = -2) := by omega
      simp only [wq_g3, wq_gc, wq_g, wq_g1, wq_g2, eL_change, iL_change_0, iL_change_60, iL_change_74, iL_change_79, iL_change_107, iL_change_108, iL_change_109, iL_change_127, iL_change_128, iL_change_129, iL_change_152, iL_change_153, iL_change_154, iL_change_173, iL_change_174, iL_change_175, iL_change_202, iL_change_203, iL_change_204, iL_change_226, iL_change_227, iL_change_228, iL_change_248, iL_change_252, iL_change_263, iL_change_264, iL_change_265, iL_change_291, iL_change_292, iL_change_293, iL_change_323, iL_change_324, iL_change_325, iL_change_345, iL_change_346, iL_change_347, iL_change_378, iL_change_379, vL_change, wps, x_cnd, reduceIte, Nat.reduceAdd, Nat.reduceSub, Nat.reduceEqDiff, Nat.reduceLeDiff, Nat.lt_irrefl, Nat.reduceLT, Int.cast_ofNat_Int, wq_c0, wq_c1, true_and, and_true, and_self, true_implies, forall_const, ne_eq, Decidable.not_not, not_true_eq_false, not_false_eq_true, List.map_nil, List.map_cons, List.sum_nil, List.sum_cons, List.length_cons, List.length_nil, Nat.le_refl, Nat.zero_le, reduceCtorEq, true_or, or_true, false_or, or_false, false_and, and_false, false_implies, Nat.zero_add, Nat.add_zero, Int.reduceEq, Int.reduceNe, Int.reduceLT, Int.reduceLE, Int.reduceNeg, Int.reduceToNat, Nat.not_lt_zero, Int.reduceAdd, an2, g9]
      exact k M9 h9 _ 1 C9 (Or.inr ⟨rfl, K⟩)
  · (repeat refine ⟨by omega, ?_⟩)
    refine cl_next C0.r41.1 C0.r41.2 (fun y1 v1 a1 b1 => ?_)
    have C1 := C0.y y1
    obtain ⟨d1, ed1, dd1, de1⟩ := remv (k := 4) a1 b1 (by decide)
    simp only [wq_g3, wq_gc, wq_g, wq_g1, wq_g2, eL_change, iL_change_0, iL_change_60, iL_change_74, iL_change_79, iL_change_107, iL_change_108, iL_change_109, iL_change_127, iL_change_128, iL_change_129, iL_change_152, iL_change_153, iL_change_154, iL_change_173, iL_change_174, iL_change_175, iL_change_202, iL_change_203, iL_change_204, iL_change_226, iL_change_227, iL_change_228, iL_change_248, iL_change_252, iL_change_263, iL_change_264, iL_change_265, iL_change_291, iL_change_292, iL_change_293, iL_change_323, iL_change_324, iL_change_325, iL_change_345, iL_change_346, iL_change_347, iL_change_378, iL_change_379, vL_change, wps, x_cnd, reduceIte, Nat.reduceAdd, Nat.reduceSub, Nat.reduceEqDiff, Nat.reduceLeDiff, Nat.lt_irrefl, Nat.reduceLT, Int.cast_ofNat_Int, wq_c0, wq_c1, true_and, and_true, and_self, true_implies, forall_const, ne_eq, Decidable.not_not, not_true_eq_false, not_false_eq_true, List.map_nil, List.map_cons, List.sum_nil, List.sum_cons, List.length_cons, List.length_nil, Nat.le_refl, Nat.zero_le, reduceCtorEq, true_or, or_true, false_or, or_false, false_and, and_false, false_implies, Nat.zero_add, Nat.add_zero, Int.reduceEq, Int.reduceNe, Int.reduceLT, Int.reduceLE, Int.reduceNeg, Int.reduceToNat, Nat.not_lt_zero, Int.reduceAdd, k1, ed1]
    try simp (disch := omega) only [w32_of]
    have R := d_open (c := d1) G
    (repeat refine ⟨by omega, ?_⟩)
    refine cG_opened C1 R.hex (fun M9 h9 C9 => ?_)
    rcases R with ⟨e9, r1, r2, r3⟩ | ⟨v9, r1, r2, K⟩
    · rw [r1]
      rw [r3] at C9
      simp only [wq_g3, wq_gc, wq_g, wq_g1, wq_g2, eL_change, iL_change_0, iL_change_60, iL_change_74, iL_change_79, iL_change_107, iL_change_108, iL_change_109, iL_change_127, iL_change_128, iL_change_129, iL_change_152, iL_change_153, iL_change_154, iL_change_173, iL_change_174, iL_change_175, iL_change_202, iL_change_203, iL_change_204, iL_change_226, iL_change_227, iL_change_228, iL_change_248, iL_change_252, iL_change_263, iL_change_264, iL_change_265, iL_change_291, iL_change_292, iL_change_293, iL_change_323, iL_change_324, iL_change_325, iL_change_345, iL_change_346, iL_change_347, iL_change_378, iL_change_379, vL_change, wps, x_cnd, reduceIte, Nat.reduceAdd, Nat.reduceSub, Nat.reduceEqDiff, Nat.reduceLeDiff, Nat.lt_irrefl, Nat.reduceLT, Int.cast_ofNat_Int, wq_c0, wq_c1, true_and, and_true, and_self, true_implies, forall_const, ne_eq, Decidable.not_not, not_true_eq_false, not_false_eq_true, List.map_nil, List.map_cons, List.sum_nil, List.sum_cons, List.length_cons, List.length_nil, Nat.le_refl, Nat.zero_le, reduceCtorEq, true_or, or_true, false_or, or_false, false_and, and_false, false_implies, Nat.zero_add, Nat.add_zero, Int.reduceEq, Int.reduceNe, Int.reduceLT, Int.reduceLE, Int.reduceNeg, Int.reduceToNat, Nat.not_lt_zero, Int.reduceAdd, an2]
      exact k M9 h9 A 0 C9 (Or.inl ⟨rfl, rfl⟩)
    · rw [r1]
      have g9 : ¬ (v9 = -2) := by omega
      simp only [wq_g3, wq_gc, wq_g, wq_g1, wq_g2, eL_change, iL_change_0, iL_change_60, iL_change_74, iL_change_79, iL_change_107, iL_change_108, iL_change_109, iL_change_127, iL_change_128, iL_change_129, iL_change_152, iL_change_153, iL_change_154, iL_change_173, iL_change_174, iL_change_175, iL_change_202, iL_change_203, iL_change_204, iL_change_226, iL_change_227, iL_change_228, iL_change_248, iL_change_252, iL_change_263, iL_change_264, iL_change_265, iL_change_291, iL_change_292, iL_change_293, iL_change_323, iL_change_324, iL_change_325, iL_change_345, iL_change_346, iL_change_347, iL_change_378, iL_change_379, vL_change, wps, x_cnd, reduceIte, Nat.reduceAdd, Nat.reduceSub, Nat.reduceEqDiff, Nat.reduceLeDiff, Nat.lt_irrefl, Nat.reduceLT, Int.cast_ofNat_Int, wq_c0, wq_c1, true_and, and_true, and_self, true_implies, forall_const, ne_eq, Decidable.not_not, not_true_eq_false, not_false_eq_true, List.map_nil, List.map_cons, List.sum_nil, List.sum_cons, List.length_cons, List.length_nil, Nat.le_refl, Nat.zero_le, reduceCtorEq, true_or, or_true, false_or, or_false, false_and, and_false, false_implies, Nat.zero_add, Nat.add_zero, Int.reduceEq, Int.reduceNe, Int.reduceLT, Int.reduceLE, Int.reduceNeg, Int.reduceToNat, Nat.not_lt_zero, Int.reduceAdd, an2, g9]
      exact k M9 h9 _ 1 C9 (Or.inr ⟨rfl, K⟩)
  · (repeat refine ⟨by omega, ?_⟩)
    refine cl_next C0.r41.1 C0.r41.2 (fun y1 v1 a1 b1 => ?_)
    have C1 := C0.y y1
    obtain ⟨d1, ed1, dd1, de1⟩ := remv (k := 40) a1 b1 (by decide)
    simp only [wq_g3, wq_gc, wq_g, wq_g1, wq_g2, eL_change, iL_change_0, iL_change_60, iL_change_74, iL_change_79, iL_change_107, iL_change_108, iL_change_109, iL_change_127, iL_change_128, iL_change_129, iL_change_152, iL_change_153, iL_change_154, iL_change_173, iL_change_174, iL_change_175, iL_change_202, iL_change_203, iL_change_204, iL_change_226, iL_change_227, iL_change_228, iL_change_248, iL_change_252, iL_change_263, iL_change_264, iL_change_265, iL_change_291, iL_change_292, iL_change_293, iL_change_323, iL_change_324, iL_change_325, iL_change_345, iL_change_346, iL_change_347, iL_change_378, iL_change_379, vL_change, wps, x_cnd, reduceIte, Nat.reduceAdd, Nat.reduceSub, Nat.reduceEqDiff, Nat.reduceLeDiff, Nat.lt_irrefl, Nat.reduceLT, Int.cast_ofNat_Int, wq_c0, wq_c1, true_and, and_true, and_self, true_implies, forall_const, ne_eq, Decidable.not_not, not_true_eq_false, not_false_eq_true, List.map_nil, List.map_cons, List.sum_nil, List.sum_cons, List.length_cons, List.length_nil, Nat.le_refl, Nat.zero_le, reduceCtorEq, true_or, or_true, false_or, or_false, false_and, and_false, false_implies, Nat.zero_add, Nat.add_zero, Int.reduceEq, Int.reduceNe, Int.reduceLT, Int.reduceLE, Int.reduceNeg, Int.reduceToNat, Nat.not_lt_zero, Int.reduceAdd, k1, ed1]
    try simp (disch := omega) only [w32_of]
    (repeat refine ⟨by omega, ?_⟩)
    refine cl_bar C1 hN0 (fun y2 p2 hp2 => ?_)
    have C2 := C1.y y2
    have pl2 : pl (aS A) (sI (aS A) p2) ≠ -1 := by rw [pl_at w hp2]; omega
    simp only [wq_g3, wq_gc, wq_g, wq_g1, wq_g2, eL_change, iL_change_0, iL_change_60, iL_change_74, iL_change_79, iL_change_107, iL_change_108, iL_change_109, iL_change_127, iL_change_128, iL_change_129, iL_change_152, iL_change_153, iL_change_154, iL_change_173, iL_change_174, iL_change_175, iL_change_202, iL_change_203, iL_change_204, iL_change_226, iL_change_227, iL_change_228, iL_change_248, iL_change_252, iL_change_263, iL_change_264, iL_change_265, iL_change_291, iL_change_292, iL_change_293, iL_change_323, iL_change_324, iL_change_325, iL_change_345, iL_change_346, iL_change_347, iL_change_378, iL_change_379, vL_change, wps, x_cnd, reduceIte, Nat.reduceAdd, Nat.reduceSub, Nat.reduceEqDiff, Nat.reduceLeDiff, Nat.lt_irrefl, Nat.reduceLT, Int.cast_ofNat_Int, wq_c0, wq_c1, true_and, and_true, and_self, true_implies, forall_const, ne_eq, Decidable.not_not, not_true_eq_false, not_false_eq_true, List.map_nil, List.map_cons, List.sum_nil, List.sum_cons, List.length_cons, List.length_nil, Nat.le_refl, Nat.zero_le, reduceCtorEq, true_or, or_true, false_or, or_false, false_and, and_false, false_implies, Nat.zero_add, Nat.add_zero, Int.reduceEq, Int.reduceNe, Int.reduceLT, Int.reduceLE, Int.reduceNeg, Int.reduceToNat, Nat.not_lt_zero, Int.reduceAdd, k1]
    have R := d_put (l := 1 + d1) w G pl2 (by omega)
    (repeat refine ⟨by omega, ?_⟩)
    refine cG_put C2 R.hex (fun M9 h9 C9 => ?_)
    rcases R with ⟨e9, r1, r2, r3⟩ | ⟨v9, r1, r2, K⟩
    · rw [r1]
      rw [r3] at C9
      simp only [wq_g3, wq_gc, wq_g, wq_g1, wq_g2, eL_change, iL_change_0, iL_change_60, iL_change_74, iL_change_79, iL_change_107, iL_change_108, iL_change_109, iL_change_127, iL_change_128, iL_change_129, iL_change_152, iL_change_153, iL_change_154, iL_change_173, iL_change_174, iL_change_175, iL_change_202, iL_change_203, iL_change_204, iL_change_226, iL_change_227, iL_change_228, iL_change_248, iL_change_252, iL_change_263, iL_change_264, iL_change_265, iL_change_291, iL_change_292, iL_change_293, iL_change_323, iL_change_324, iL_change_325, iL_change_345, iL_change_346, iL_change_347, iL_change_378, iL_change_379, vL_change, wps, x_cnd, reduceIte, Nat.reduceAdd, Nat.reduceSub, Nat.reduceEqDiff, Nat.reduceLeDiff, Nat.lt_irrefl, Nat.reduceLT, Int.cast_ofNat_Int, wq_c0, wq_c1, true_and, and_true, and_self, true_implies, forall_const, ne_eq, Decidable.not_not, not_true_eq_false, not_false_eq_true, List.map_nil, List.map_cons, List.sum_nil, List.sum_cons, List.length_cons, List.length_nil, Nat.le_refl, Nat.zero_le, reduceCtorEq, true_or, or_true, false_or, or_false, false_and, and_false, false_implies, Nat.zero_add, Nat.add_zero, Int.reduceEq, Int.reduceNe, Int.reduceLT, Int.reduceLE, Int.reduceNeg, Int.reduceToNat, Nat.not_lt_zero, Int.reduceAdd, an2]
      exact k M9 h9 A 0 C9 (Or.inl ⟨rfl, rfl⟩)
    · rw [r1]
      have g9 : ¬ (v9 = -2) := by omega
      simp only [wq_g3, wq_gc, wq_g, wq_g1, wq_g2, eL_change, iL_change_0, iL_change_60, iL_change_74, iL_change_79, iL_change_107, iL_change_108, iL_change_109, iL_change_127, iL_change_128, iL_change_129, iL_change_152, iL_change_153, iL_change_154, iL_change_173, iL_change_174, iL_change_175, iL_change_202, iL_change_203, iL_change_204, iL_change_226, iL_change_227, iL_change_228, iL_change_248, iL_change_252, iL_change_263, iL_change_264, iL_change_265, iL_change_291, iL_change_292, iL_change_293, iL_change_323, iL_change_324, iL_change_325, iL_change_345, iL_change_346, iL_change_347, iL_change_378, iL_change_379, vL_change, wps, x_cnd, reduceIte, Nat.reduceAdd, Nat.reduceSub, Nat.reduceEqDiff, Nat.reduceLeDiff, Nat.lt_irrefl, Nat.reduceLT, Int.cast_ofNat_Int, wq_c0, wq_c1, true_and, and_true, and_self, true_implies, forall_const, ne_eq, Decidable.not_not, not_true_eq_false, not_false_eq_true, List.map_nil, List.map_cons, List.sum_nil, List.sum_cons, List.length_cons, List.length_nil, Nat.le_refl, Nat.zero_le, reduceCtorEq, true_or, or_true, false_or, or_false, false_and, and_false, false_implies, Nat.zero_add, Nat.add_zero, Int.reduceEq, Int.reduceNe, Int.reduceLT, Int.reduceLE, Int.reduceNeg, Int.reduceToNat, Nat.not_lt_zero, Int.reduceAdd, an2, g9]
      exact k M9 h9 _ 1 C9 (Or.inr ⟨rfl, K⟩)
  · (repeat refine ⟨by omega, ?_⟩)
    refine cl_next C0.r41.1 C0.r41.2 (fun y1 v1 a1 b1 => ?_)
    have C1 := C0.y y1
    obtain ⟨d1, ed1, dd1, de1⟩ := remv (k := 9) a1 b1 (by decide)
    simp only [wq_g3, wq_gc, wq_g, wq_g1, wq_g2, eL_change, iL_change_0, iL_change_60, iL_change_74, iL_change_79, iL_change_107, iL_change_108, iL_change_109, iL_change_127, iL_change_128, iL_change_129, iL_change_152, iL_change_153, iL_change_154, iL_change_173, iL_change_174, iL_change_175, iL_change_202, iL_change_203, iL_change_204, iL_change_226, iL_change_227, iL_change_228, iL_change_248, iL_change_252, iL_change_263, iL_change_264, iL_change_265, iL_change_291, iL_change_292, iL_change_293, iL_change_323, iL_change_324, iL_change_325, iL_change_345, iL_change_346, iL_change_347, iL_change_378, iL_change_379, vL_change, wps, x_cnd, reduceIte, Nat.reduceAdd, Nat.reduceSub, Nat.reduceEqDiff, Nat.reduceLeDiff, Nat.lt_irrefl, Nat.reduceLT, Int.cast_ofNat_Int, wq_c0, wq_c1, true_and, and_true, and_self, true_implies, forall_const, ne_eq, Decidable.not_not, not_true_eq_false, not_false_eq_true, List.map_nil, List.map_cons, List.sum_nil, List.sum_cons, List.length_cons, List.length_nil, Nat.le_refl, Nat.zero_le, reduceCtorEq, true_or, or_true, false_or, or_false, false_and, and_false, false_implies, Nat.zero_add, Nat.add_zero, Int.reduceEq, Int.reduceNe, Int.reduceLT, Int.reduceLE, Int.reduceNeg, Int.reduceToNat, Nat.not_lt_zero, Int.reduceAdd, k1, ed1]
    try simp (disch := omega) only [w32_of]
    have R := d_rem (l := 1 + d1) G
    (repeat refine ⟨by omega, ?_⟩)
    refine cG_removed C1 R.hex (fun M9 h9 C9 => ?_)
    rcases R with ⟨e9, r1, r2, r3⟩ | ⟨v9, r1, r2, K⟩
    · rw [r1]
      rw [r3] at C9
      simp only [wq_g3, wq_gc, wq_g, wq_g1, wq_g2, eL_change, iL_change_0, iL_change_60, iL_change_74, iL_change_79, iL_change_107, iL_change_108, iL_change_109, iL_change_127, iL_change_128, iL_change_129, iL_change_152, iL_change_153, iL_change_154, iL_change_173, iL_change_174, iL_change_175, iL_change_202, iL_change_203, iL_change_204, iL_change_226, iL_change_227, iL_change_228, iL_change_248, iL_change_252, iL_change_263, iL_change_264, iL_change_265, iL_change_291, iL_change_292, iL_change_293, iL_change_323, iL_change_324, iL_change_325, iL_change_345, iL_change_346, iL_change_347, iL_change_378, iL_change_379, vL_change, wps, x_cnd, reduceIte, Nat.reduceAdd, Nat.reduceSub, Nat.reduceEqDiff, Nat.reduceLeDiff, Nat.lt_irrefl, Nat.reduceLT, Int.cast_ofNat_Int, wq_c0, wq_c1, true_and, and_true, and_self, true_implies, forall_const, ne_eq, Decidable.not_not, not_true_eq_false, not_false_eq_true, List.map_nil, List.map_cons, List.sum_nil, List.sum_cons, List.length_cons, List.length_nil, Nat.le_refl, Nat.zero_le, reduceCtorEq, true_or, or_true, false_or, or_false, false_and, and_false, false_implies, Nat.zero_add, Nat.add_zero, Int.reduceEq, Int.reduceNe, Int.reduceLT, Int.reduceLE, Int.reduceNeg, Int.reduceToNat, Nat.not_lt_zero, Int.reduceAdd, an2]
      exact k M9 h9 A 0 C9 (Or.inl ⟨rfl, rfl⟩)
    · rw [r1]
      have g9 : ¬ (v9 = -2) := by omega
      simp only [wq_g3, wq_gc, wq_g, wq_g1, wq_g2, eL_change, iL_change_0, iL_change_60, iL_change_74, iL_change_79, iL_change_107, iL_change_108, iL_change_109, iL_change_127, iL_change_128, iL_change_129, iL_change_152, iL_change_153, iL_change_154, iL_change_173, iL_change_174, iL_change_175, iL_change_202, iL_change_203, iL_change_204, iL_change_226, iL_change_227, iL_change_228, iL_change_248, iL_change_252, iL_change_263, iL_change_264, iL_change_265, iL_change_291, iL_change_292, iL_change_293, iL_change_323, iL_change_324, iL_change_325, iL_change_345, iL_change_346, iL_change_347, iL_change_378, iL_change_379, vL_change, wps, x_cnd, reduceIte, Nat.reduceAdd, Nat.reduceSub, Nat.reduceEqDiff, Nat.reduceLeDiff, Nat.lt_irrefl, Nat.reduceLT, Int.cast_ofNat_Int, wq_c0, wq_c1, true_and, and_true, and_self, true_implies, forall_const, ne_eq, Decidable.not_not, not_true_eq_false, not_false_eq_true, List.map_nil, List.map_cons, List.sum_nil, List.sum_cons, List.length_cons, List.length_nil, Nat.le_refl, Nat.zero_le, reduceCtorEq, true_or, or_true, false_or, or_false, false_and, and_false, false_implies, Nat.zero_add, Nat.add_zero, Int.reduceEq, Int.reduceNe, Int.reduceLT, Int.reduceLE, Int.reduceNeg, Int.reduceToNat, Nat.not_lt_zero, Int.reduceAdd, an2, g9]
      exact k M9 h9 _ 1 C9 (Or.inr ⟨rfl, K⟩)
  · (repeat refine ⟨by omega, ?_⟩)
    refine cl_next C0.r41.1 C0.r41.2 (fun y1 v1 a1 b1 => ?_)
    have C1 := C0.y y1
    obtain ⟨d1, ed1, dd1, de1⟩ := remv (k := 2) a1 b1 (by decide)
    simp only [wq_g3, wq_gc, wq_g, wq_g1, wq_g2, eL_change, iL_change_0, iL_change_60, iL_change_74, iL_change_79, iL_change_107, iL_change_108, iL_change_109, iL_change_127, iL_change_128, iL_change_129, iL_change_152, iL_change_153, iL_change_154, iL_change_173, iL_change_174, iL_change_175, iL_change_202, iL_change_203, iL_change_204, iL_change_226, iL_change_227, iL_change_228, iL_change_248, iL_change_252, iL_change_263, iL_change_264, iL_change_265, iL_change_291, iL_change_292, iL_change_293, iL_change_323, iL_change_324, iL_change_325, iL_change_345, iL_change_346, iL_change_347, iL_change_378, iL_change_379, vL_change, wps, x_cnd, reduceIte, Nat.reduceAdd, Nat.reduceSub, Nat.reduceEqDiff, Nat.reduceLeDiff, Nat.lt_irrefl, Nat.reduceLT, Int.cast_ofNat_Int, wq_c0, wq_c1, true_and, and_true, and_self, true_implies, forall_const, ne_eq, Decidable.not_not, not_true_eq_false, not_false_eq_true, List.map_nil, List.map_cons, List.sum_nil, List.sum_cons, List.length_cons, List.length_nil, Nat.le_refl, Nat.zero_le, reduceCtorEq, true_or, or_true, false_or, or_false, false_and, and_false, false_implies, Nat.zero_add, Nat.add_zero, Int.reduceEq, Int.reduceNe, Int.reduceLT, Int.reduceLE, Int.reduceNeg, Int.reduceToNat, Nat.not_lt_zero, Int.reduceAdd, k1, ed1]
    try simp (disch := omega) only [w32_of]
    refine ⟨fun c1 => ?_, fun c1 => ?_⟩
    · have R := d_num G
      (repeat refine ⟨by omega, ?_⟩)
      refine cP_renumber C1 (fun M9 h9 C9 _ => ?_)
      rcases R with ⟨e9, r1, r2, r3⟩ | ⟨v9, r1, r2, K⟩
      · cases r2
      · rw [r1]
        have g9 : ¬ (v9 < 0) := by omega
        simp only [wq_g3, wq_gc, wq_g, wq_g1, wq_g2, eL_change, iL_change_0, iL_change_60, iL_change_74, iL_change_79, iL_change_107, iL_change_108, iL_change_109, iL_change_127, iL_change_128, iL_change_129, iL_change_152, iL_change_153, iL_change_154, iL_change_173, iL_change_174, iL_change_175, iL_change_202, iL_change_203, iL_change_204, iL_change_226, iL_change_227, iL_change_228, iL_change_248, iL_change_252, iL_change_263, iL_change_264, iL_change_265, iL_change_291, iL_change_292, iL_change_293, iL_change_323, iL_change_324, iL_change_325, iL_change_345, iL_change_346, iL_change_347, iL_change_378, iL_change_379, vL_change, wps, x_cnd, reduceIte, Nat.reduceAdd, Nat.reduceSub, Nat.reduceEqDiff, Nat.reduceLeDiff, Nat.lt_irrefl, Nat.reduceLT, Int.cast_ofNat_Int, wq_c0, wq_c1, true_and, and_true, and_self, true_implies, forall_const, ne_eq, Decidable.not_not, not_true_eq_false, not_false_eq_true, List.map_nil, List.map_cons, List.sum_nil, List.sum_cons, List.length_cons, List.length_nil, Nat.le_refl, Nat.zero_le, reduceCtorEq, true_or, or_true, false_or, or_false, false_and, and_false, false_implies, Nat.zero_add, Nat.add_zero, Int.reduceEq, Int.reduceNe, Int.reduceLT, Int.reduceLE, Int.reduceNeg, Int.reduceToNat, Nat.not_lt_zero, Int.reduceAdd, xo, g9]
        exact k M9 h9 _ 1 C9 (Or.inr ⟨rfl, K⟩)
    · have R := d_let G
      (repeat refine ⟨by omega, ?_⟩)
      refine cP_reletter C1 (fun M9 h9 C9 _ => ?_)
      rcases R with ⟨e9, r1, r2, r3⟩ | ⟨v9, r1, r2, K⟩
      · cases r2
      · rw [r1]
        have g9 : ¬ (v9 < 0) := by omega
        simp only [wq_g3, wq_gc, wq_g, wq_g1, wq_g2, eL_change, iL_change_0, iL_change_60, iL_change_74, iL_change_79, iL_change_107, iL_change_108, iL_change_109, iL_change_127, iL_change_128, iL_change_129, iL_change_152, iL_change_153, iL_change_154, iL_change_173, iL_change_174, iL_change_175, iL_change_202, iL_change_203, iL_change_204, iL_change_226, iL_change_227, iL_change_228, iL_change_248, iL_change_252, iL_change_263, iL_change_264, iL_change_265, iL_change_291, iL_change_292, iL_change_293, iL_change_323, iL_change_324, iL_change_325, iL_change_345, iL_change_346, iL_change_347, iL_change_378, iL_change_379, vL_change, wps, x_cnd, reduceIte, Nat.reduceAdd, Nat.reduceSub, Nat.reduceEqDiff, Nat.reduceLeDiff, Nat.lt_irrefl, Nat.reduceLT, Int.cast_ofNat_Int, wq_c0, wq_c1, true_and, and_true, and_self, true_implies, forall_const, ne_eq, Decidable.not_not, not_true_eq_false, not_false_eq_true, List.map_nil, List.map_cons, List.sum_nil, List.sum_cons, List.length_cons, List.length_nil, Nat.le_refl, Nat.zero_le, reduceCtorEq, true_or, or_true, false_or, or_false, false_and, and_false, false_implies, Nat.zero_add, Nat.add_zero, Int.reduceEq, Int.reduceNe, Int.reduceLT, Int.reduceLE, Int.reduceNeg, Int.reduceToNat, Nat.not_lt_zero, Int.reduceAdd, xo, g9]
        exact k M9 h9 _ 1 C9 (Or.inr ⟨rfl, K⟩)
  · (repeat refine ⟨by omega, ?_⟩)
    refine cl_bar C0 hN0 (fun y1 p1 hp1 => ?_)
    have C1 := C0.y y1
    have pl1 : pl (aS A) (sI (aS A) p1) ≠ -1 := by rw [pl_at w hp1]; omega
    simp only [wq_g3, wq_gc, wq_g, wq_g1, wq_g2, eL_change, iL_change_0, iL_change_60, iL_change_74, iL_change_79, iL_change_107, iL_change_108, iL_change_109, iL_change_127, iL_change_128, iL_change_129, iL_change_152, iL_change_153, iL_change_154, iL_change_173, iL_change_174, iL_change_175, iL_change_202, iL_change_203, iL_change_204, iL_change_226, iL_change_227, iL_change_228, iL_change_248, iL_change_252, iL_change_263, iL_change_264, iL_change_265, iL_change_291, iL_change_292, iL_change_293, iL_change_323, iL_change_324, iL_change_325, iL_change_345, iL_change_346, iL_change_347, iL_change_378, iL_change_379, vL_change, wps, x_cnd, reduceIte, Nat.reduceAdd, Nat.reduceSub, Nat.reduceEqDiff, Nat.reduceLeDiff, Nat.lt_irrefl, Nat.reduceLT, Int.cast_ofNat_Int, wq_c0, wq_c1, true_and, and_true, and_self, true_implies, forall_const, ne_eq, Decidable.not_not, not_true_eq_false, not_false_eq_true, List.map_nil, List.map_cons, List.sum_nil, List.sum_cons, List.length_cons, List.length_nil, Nat.le_refl, Nat.zero_le, reduceCtorEq, true_or, or_true, false_or, or_false, false_and, and_false, false_implies, Nat.zero_add, Nat.add_zero, Int.reduceEq, Int.reduceNe, Int.reduceLT, Int.reduceLE, Int.reduceNeg, Int.reduceToNat, Nat.not_lt_zero, Int.reduceAdd, k1]
    (repeat refine ⟨by omega, ?_⟩)
    refine cl_next C1.r41.1 C1.r41.2 (fun y2 v2 a2 b2 => ?_)
    have C2 := C1.y y2
    obtain ⟨d2, ed2, dd2, de2⟩ := remv (k := 4) a2 b2 (by decide)
    simp only [wq_g3, wq_gc, wq_g, wq_g1, wq_g2, eL_change, iL_change_0, iL_change_60, iL_change_74, iL_change_79, iL_change_107, iL_change_108, iL_change_109, iL_change_127, iL_change_128, iL_change_129, iL_change_152, iL_change_153, iL_change_154, iL_change_173, iL_change_174, iL_change_175, iL_change_202, iL_change_203, iL_change_204, iL_change_226, iL_change_227, iL_change_228, iL_change_248, iL_change_252, iL_change_263, iL_change_264, iL_change_265, iL_change_291, iL_change_292, iL_change_293, iL_change_323, iL_change_324, iL_change_325, iL_change_345, iL_change_346, iL_change_347, iL_change_378, iL_change_379, vL_change, wps, x_cnd, reduceIte, Nat.reduceAdd, Nat.reduceSub, Nat.reduceEqDiff, Nat.reduceLeDiff, Nat.lt_irrefl, Nat.reduceLT, Int.cast_ofNat_Int, wq_c0, wq_c1, true_and, and_true, and_self, true_implies, forall_const, ne_eq, Decidable.not_not, not_true_eq_false, not_false_eq_true, List.map_nil, List.map_cons, List.sum_nil, List.sum_cons, List.length_cons, List.length_nil, Nat.le_refl, Nat.zero_le, reduceCtorEq, true_or, or_true, false_or, or_false, false_and, and_false, false_implies, Nat.zero_add, Nat.add_zero, Int.reduceEq, Int.reduceNe, Int.reduceLT, Int.reduceLE, Int.reduceNeg, Int.reduceToNat, Nat.not_lt_zero, Int.reduceAdd, k1, ed2]
    try simp (disch := omega) only [w32_of]
    have R := d_set2 (v := 1 + d2) w G hp1 (by omega)
    (repeat refine ⟨by omega, ?_⟩)
    refine cP_setBar C2 (fun M9 h9 C9 _ => ?_)
    rcases R with ⟨e9, r1, r2, r3⟩ | ⟨v9, r1, r2, K⟩
    · cases r2
    · rw [r1]
      have g9 : ¬ (v9 < 1) := by omega
      simp only [wq_g3, wq_gc, wq_g, wq_g1, wq_g2, eL_change, iL_change_0, iL_change_60, iL_change_74, iL_change_79, iL_change_107, iL_change_108, iL_change_109, iL_change_127, iL_change_128, iL_change_129, iL_change_152, iL_change_153, iL_change_154, iL_change_173, iL_change_174, iL_change_175, iL_change_202, iL_change_203, iL_change_204, iL_change_226, iL_change_227, iL_change_228, iL_change_248, iL_change_252, iL_change_263, iL_change_264, iL_change_265, iL_change_291, iL_change_292, iL_change_293, iL_change_323, iL_change_324, iL_change_325, iL_change_345, iL_change_346, iL_change_347, iL_change_378, iL_change_379, vL_change, wps, x_cnd, reduceIte, Nat.reduceAdd, Nat.reduceSub, Nat.reduceEqDiff, Nat.reduceLeDiff, Nat.lt_irrefl, Nat.reduceLT, Int.cast_ofNat_Int, wq_c0, wq_c1, true_and, and_true, and_self, true_implies, forall_const, ne_eq, Decidable.not_not, not_true_eq_false, not_false_eq_true, List.map_nil, List.map_cons, List.sum_nil, List.sum_cons, List.length_cons, List.length_nil, Nat.le_refl, Nat.zero_le, reduceCtorEq, true_or, or_true, false_or, or_false, false_and, and_false, false_implies, Nat.zero_add, Nat.add_zero, Int.reduceEq, Int.reduceNe, Int.reduceLT, Int.reduceLE, Int.reduceNeg, Int.reduceToNat, Nat.not_lt_zero, Int.reduceAdd, xo, g9]
      exact k M9 h9 _ 1 C9 (Or.inr ⟨rfl, K⟩)
  · (repeat refine ⟨by omega, ?_⟩)
    refine cl_bar C0 hN0 (fun y1 p1 hp1 => ?_)
    have C1 := C0.y y1
    have pl1 : pl (aS A) (sI (aS A) p1) ≠ -1 := by rw [pl_at w hp1]; omega
    simp only [wq_g3, wq_gc, wq_g, wq_g1, wq_g2, eL_change, iL_change_0, iL_change_60, iL_change_74, iL_change_79, iL_change_107, iL_change_108, iL_change_109, iL_change_127, iL_change_128, iL_change_129, iL_change_152, iL_change_153, iL_change_154, iL_change_173, iL_change_174, iL_change_175, iL_change_202, iL_change_203, iL_change_204, iL_change_226, iL_change_227, iL_change_228, iL_change_248, iL_change_252, iL_change_263, iL_change_264, iL_change_265, iL_change_291, iL_change_292, iL_change_293, iL_change_323, iL_change_324, iL_change_325, iL_change_345, iL_change_346, iL_change_347, iL_change_378, iL_change_379, vL_change, wps, x_cnd, reduceIte, Nat.reduceAdd, Nat.reduceSub, Nat.reduceEqDiff, Nat.reduceLeDiff, Nat.lt_irrefl, Nat.reduceLT, Int.cast_ofNat_Int, wq_c0, wq_c1, true_and, and_true, and_self, true_implies, forall_const, ne_eq, Decidable.not_not, not_true_eq_false, not_false_eq_true, List.map_nil, List.map_cons, List.sum_nil, List.sum_cons, List.length_cons, List.length_nil, Nat.le_refl, Nat.zero_le, reduceCtorEq, true_or, or_true, false_or, or_false, false_and, and_false, false_implies, Nat.zero_add, Nat.add_zero, Int.reduceEq, Int.reduceNe, Int.reduceLT, Int.reduceLE, Int.reduceNeg, Int.reduceToNat, Nat.not_lt_zero, Int.reduceAdd, k1]
    (repeat refine ⟨by omega, ?_⟩)
    refine cl_next C1.r41.1 C1.r41.2 (fun y2 v2 a2 b2 => ?_)
    have C2 := C1.y y2
    obtain ⟨d2, ed2, dd2, de2⟩ := remv (k := 2) a2 b2 (by decide)
    simp only [wq_g3, wq_gc, wq_g, wq_g1, wq_g2, eL_change, iL_change_0, iL_change_60, iL_change_74, iL_change_79, iL_change_107, iL_change_108, iL_change_109, iL_change_127, iL_change_128, iL_change_129, iL_change_152, iL_change_153, iL_change_154, iL_change_173, iL_change_174, iL_change_175, iL_change_202, iL_change_203, iL_change_204, iL_change_226, iL_change_227, iL_change_228, iL_change_248, iL_change_252, iL_change_263, iL_change_264, iL_change_265, iL_change_291, iL_change_292, iL_change_293, iL_change_323, iL_change_324, iL_change_325, iL_change_345, iL_change_346, iL_change_347, iL_change_378, iL_change_379, vL_change, wps, x_cnd, reduceIte, Nat.reduceAdd, Nat.reduceSub, Nat.reduceEqDiff, Nat.reduceLeDiff, Nat.lt_irrefl, Nat.reduceLT, Int.cast_ofNat_Int, wq_c0, wq_c1, true_and, and_true, and_self, true_implies, forall_const, ne_eq, Decidable.not_not, not_true_eq_false, not_false_eq_true, List.map_nil, List.map_cons, List.sum_nil, List.sum_cons, List.length_cons, List.length_nil, Nat.le_refl, Nat.zero_le, reduceCtorEq, true_or, or_true, false_or, or_false, false_and, and_false, false_implies, Nat.zero_add, Nat.add_zero, Int.reduceEq, Int.reduceNe, Int.reduceLT, Int.reduceLE, Int.reduceNeg, Int.reduceToNat, Nat.not_lt_zero, Int.reduceAdd, k1, ed2]
    try simp (disch := omega) only [w32_of]
    (repeat refine ⟨by omega, ?_⟩)
    refine cl_next C2.r41.1 C2.r41.2 (fun y3 v3 a3 b3 => ?_)
    have C3 := C2.y y3
    obtain ⟨d3, ed3, dd3, de3⟩ := remv (k := 2) a3 b3 (by decide)
    simp only [wq_g3, wq_gc, wq_g, wq_g1, wq_g2, eL_change, iL_change_0, iL_change_60, iL_change_74, iL_change_79, iL_change_107, iL_change_108, iL_change_109, iL_change_127, iL_change_128, iL_change_129, iL_change_152, iL_change_153, iL_change_154, iL_change_173, iL_change_174, iL_change_175, iL_change_202, iL_change_203, iL_change_204, iL_change_226, iL_change_227, iL_change_228, iL_change_248, iL_change_252, iL_change_263, iL_change_264, iL_change_265, iL_change_291, iL_change_292, iL_change_293, iL_change_323, iL_change_324, iL_change_325, iL_change_345, iL_change_346, iL_change_347, iL_change_378, iL_change_379, vL_change, wps, x_cnd, reduceIte, Nat.reduceAdd, Nat.reduceSub, Nat.reduceEqDiff, Nat.reduceLeDiff, Nat.lt_irrefl, Nat.reduceLT, Int.cast_ofNat_Int, wq_c0, wq_c1, true_and, and_true, and_self, true_implies, forall_const, ne_eq, Decidable.not_not, not_true_eq_false, not_false_eq_true, List.map_nil, List.map_cons, List.sum_nil, List.sum_cons, List.length_cons, List.length_nil, Nat.le_refl, Nat.zero_le, reduceCtorEq, true_or, or_true, false_or, or_false, false_and, and_false, false_implies, Nat.zero_add, Nat.add_zero, Int.reduceEq, Int.reduceNe, Int.reduceLT, Int.reduceLE, Int.reduceNeg, Int.reduceToNat, Nat.not_lt_zero, Int.reduceAdd, k1, ed3]
    try simp (disch := omega) only [w32_of]
    have R := d_set4 (u := 4 + d2) (v := d3) w G hp1 (by omega) (by omega)
    (repeat refine ⟨by omega, ?_⟩)
    refine cP_setBar C3 (fun M9 h9 C9 _ => ?_)
    rcases R with ⟨e9, r1, r2, r3⟩ | ⟨v9, r1, r2, K⟩
    · cases r2
    · rw [r1]
      have g9 : ¬ (v9 < 0) := by omega
      simp only [wq_g3, wq_gc, wq_g, wq_g1, wq_g2, eL_change, iL_change_0, iL_change_60, iL_change_74, iL_change_79, iL_change_107, iL_change_108, iL_change_109, iL_change_127, iL_change_128, iL_change_129, iL_change_152, iL_change_153, iL_change_154, iL_change_173, iL_change_174, iL_change_175, iL_change_202, iL_change_203, iL_change_204, iL_change_226, iL_change_227, iL_change_228, iL_change_248, iL_change_252, iL_change_263, iL_change_264, iL_change_265, iL_change_291, iL_change_292, iL_change_293, iL_change_323, iL_change_324, iL_change_325, iL_change_345, iL_change_346, iL_change_347, iL_change_378, iL_change_379, vL_change, wps, x_cnd, reduceIte, Nat.reduceAdd, Nat.reduceSub, Nat.reduceEqDiff, Nat.reduceLeDiff, Nat.lt_irrefl, Nat.reduceLT, Int.cast_ofNat_Int, wq_c0, wq_c1, true_and, and_true, and_self, true_implies, forall_const, ne_eq, Decidable.not_not, not_true_eq_false, not_false_eq_true, List.map_nil, List.map_cons, List.sum_nil, List.sum_cons, List.length_cons, List.length_nil, Nat.le_refl, Nat.zero_le, reduceCtorEq, true_or, or_true, false_or, or_false, false_and, and_false, false_implies, Nat.zero_add, Nat.add_zero, Int.reduceEq, Int.reduceNe, Int.reduceLT, Int.reduceLE, Int.reduceNeg, Int.reduceToNat, Nat.not_lt_zero, Int.reduceAdd, xo, g9]
      exact k M9 h9 _ 1 C9 (Or.inr ⟨rfl, K⟩)
  · (repeat refine ⟨by omega, ?_⟩)
    refine cl_next C0.r41.1 C0.r41.2 (fun y1 v1 a1 b1 => ?_)
    have C1 := C0.y y1
    obtain ⟨d1, ed1, dd1, de1⟩ := remv (k := 3) a1 b1 (by decide)
    simp only [wq_g3, wq_gc, wq_g, wq_g1, wq_g2, eL_change, iL_change_0, iL_change_60, iL_change_74, iL_change_79, iL_change_107, iL_change_108, iL_change_109, iL_change_127, iL_change_128, iL_change_129, iL_change_152, iL_change_153, iL_change_154, iL_change_173, iL_change_174, iL_change_175, iL_change_202, iL_change_203, iL_change_204, iL_change_226, iL_change_227, iL_change_228, iL_change_248, iL_change_252, iL_change_263, iL_change_264, iL_change_265, iL_change_291, iL_change_292, iL_change_293, iL_change_323, iL_change_324, iL_change_325, iL_change_345, iL_change_346, iL_change_347, iL_change_378, iL_change_379, vL_change, wps, x_cnd, reduceIte, Nat.reduceAdd, Nat.reduceSub, Nat.reduceEqDiff, Nat.reduceLeDiff, Nat.lt_irrefl, Nat.reduceLT, Int.cast_ofNat_Int, wq_c0, wq_c1, true_and, and_true, and_self, true_implies, forall_const, ne_eq, Decidable.not_not, not_true_eq_false, not_false_eq_true, List.map_nil, List.map_cons, List.sum_nil, List.sum_cons, List.length_cons, List.length_nil, Nat.le_refl, Nat.zero_le, reduceCtorEq, true_or, or_true, false_or, or_false, false_and, and_false, false_implies, Nat.zero_add, Nat.add_zero, Int.reduceEq, Int.reduceNe, Int.reduceLT, Int.reduceLE, Int.reduceNeg, Int.reduceToNat, Nat.not_lt_zero, Int.reduceAdd, k1]
    (repeat refine ⟨by omega, ?_⟩)
    refine cP_parts C1 ?_
    rw [hP3]
    simp only [wq_g3, wq_gc, wq_g, wq_g1, wq_g2, eL_change, iL_change_0, iL_change_60, iL_change_74, iL_change_79, iL_change_107, iL_change_108, iL_change_109, iL_change_127, iL_change_128, iL_change_129, iL_change_152, iL_change_153, iL_change_154, iL_change_173, iL_change_174, iL_change_175, iL_change_202, iL_change_203, iL_change_204, iL_change_226, iL_change_227, iL_change_228, iL_change_248, iL_change_252, iL_change_263, iL_change_264, iL_change_265, iL_change_291, iL_change_292, iL_change_293, iL_change_323, iL_change_324, iL_change_325, iL_change_345, iL_change_346, iL_change_347, iL_change_378, iL_change_379, vL_change, wps, x_cnd, reduceIte, Nat.reduceAdd, Nat.reduceSub, Nat.reduceEqDiff, Nat.reduceLeDiff, Nat.lt_irrefl, Nat.reduceLT, Int.cast_ofNat_Int, wq_c0, wq_c1, true_and, and_true, and_self, true_implies, forall_const, ne_eq, Decidable.not_not, not_true_eq_false, not_false_eq_true, List.map_nil, List.map_cons, List.sum_nil, List.sum_cons, List.length_cons, List.length_nil, Nat.le_refl, Nat.zero_le, reduceCtorEq, true_or, or_true, false_or, or_false, false_and, and_false, false_implies, Nat.zero_add, Nat.add_zero, Int.reduceEq, Int.reduceNe, Int.reduceLT, Int.reduceLE, Int.reduceNeg, Int.reduceToNat, Nat.not_lt_zero, Int.reduceAdd, k1, ed1]
    have R := d_print (part := d1) G (by omega)
    (repeat refine ⟨by omega, ?_⟩)
    refine cP_print C1 (fun M9 h9 C9 _ => ?_)
    rcases R with ⟨e9, r1, r2, r3⟩ | ⟨v9, r1, r2, K⟩
    · cases r2
    · rw [r1]
      have g9 : ¬ (v9 < 0) := by omega
      simp only [wq_g3, wq_gc, wq_g, wq_g1, wq_g2, eL_change, iL_change_0, iL_change_60, iL_change_74, iL_change_79, iL_change_107, iL_change_108, iL_change_109, iL_change_127, iL_change_128, iL_change_129, iL_change_152, iL_change_153, iL_change_154, iL_change_173, iL_change_174, iL_change_175, iL_change_202, iL_change_203, iL_change_204, iL_change_226, iL_change_227, iL_change_228, iL_change_248, iL_change_252, iL_change_263, iL_change_264, iL_change_265, iL_change_291, iL_change_292, iL_change_293, iL_change_323, iL_change_324, iL_change_325, iL_change_345, iL_change_346, iL_change_347, iL_change_378, iL_change_379, vL_change, wps, x_cnd, reduceIte, Nat.reduceAdd, Nat.reduceSub, Nat.reduceEqDiff, Nat.reduceLeDiff, Nat.lt_irrefl, Nat.reduceLT, Int.cast_ofNat_Int, wq_c0, wq_c1, true_and, and_true, and_self, true_implies, forall_const, ne_eq, Decidable.not_not, not_true_eq_false, not_false_eq_true, List.map_nil, List.map_cons, List.sum_nil, List.sum_cons, List.length_cons, List.length_nil, Nat.le_refl, Nat.zero_le, reduceCtorEq, true_or, or_true, false_or, or_false, false_and, and_false, false_implies, Nat.zero_add, Nat.add_zero, Int.reduceEq, Int.reduceNe, Int.reduceLT, Int.reduceLE, Int.reduceNeg, Int.reduceToNat, Nat.not_lt_zero, Int.reduceAdd, xo, g9]
      exact k M9 h9 _ 1 C9 (Or.inr ⟨rfl, K⟩)
  · (repeat refine ⟨by omega, ?_⟩)
    refine cl_next C0.r41.1 C0.r41.2 (fun y1 v1 a1 b1 => ?_)
    have C1 := C0.y y1
    obtain ⟨d1, ed1, dd1, de1⟩ := remv (k := 3) a1 b1 (by decide)
    simp only [wq_g3, wq_gc, wq_g, wq_g1, wq_g2, eL_change, iL_change_0, iL_change_60, iL_change_74, iL_change_79, iL_change_107, iL_change_108, iL_change_109, iL_change_127, iL_change_128, iL_change_129, iL_change_152, iL_change_153, iL_change_154, iL_change_173, iL_change_174, iL_change_175, iL_change_202, iL_change_203, iL_change_204, iL_change_226, iL_change_227, iL_change_228, iL_change_248, iL_change_252, iL_change_263, iL_change_264, iL_change_265, iL_change_291, iL_change_292, iL_change_293, iL_change_323, iL_change_324, iL_change_325, iL_change_345, iL_change_346, iL_change_347, iL_change_378, iL_change_379, vL_change, wps, x_cnd, reduceIte, Nat.reduceAdd, Nat.reduceSub, Nat.reduceEqDiff, Nat.reduceLeDiff, Nat.lt_irrefl, Nat.reduceLT, Int.cast_ofNat_Int, wq_c0, wq_c1, true_and, and_true, and_self, true_implies, forall_const, ne_eq, Decidable.not_not, not_true_eq_false, not_false_eq_true, List.map_nil, List.map_cons, List.sum_nil, List.sum_cons, List.length_cons, List.length_nil, Nat.le_refl, Nat.zero_le, reduceCtorEq, true_or, or_true, false_or, or_false, false_and, and_false, false_implies, Nat.zero_add, Nat.add_zero, Int.reduceEq, Int.reduceNe, Int.reduceLT, Int.reduceLE, Int.reduceNeg, Int.reduceToNat, Nat.not_lt_zero, Int.reduceAdd, k1]
    (repeat refine ⟨by omega, ?_⟩)
    refine cP_parts C1 ?_
    rw [hP3]
    simp only [wq_g3, wq_gc, wq_g, wq_g1, wq_g2, eL_change, iL_change_0, iL_change_60, iL_change_74, iL_change_79, iL_change_107, iL_change_108, iL_change_109, iL_change_127, iL_change_128, iL_change_129, iL_change_152, iL_change_153, iL_change_154, iL_change_173, iL_change_174, iL_change_175, iL_change_202, iL_change_203, iL_change_204, iL_change_226, iL_change_227, iL_change_228, iL_change_248, iL_change_252, iL_change_263, iL_change_264, iL_change_265, iL_change_291, iL_change_292, iL_change_293, iL_change_323, iL_change_324, iL_change_325, iL_change_345, iL_change_346, iL_change_347, iL_change_378, iL_change_379, vL_change, wps, x_cnd, reduceIte, Nat.reduceAdd, Nat.reduceSub, Nat.reduceEqDiff, Nat.reduceLeDiff, Nat.lt_irrefl, Nat.reduceLT, Int.cast_ofNat_Int, wq_c0, wq_c1, true_and, and_true, and_self, true_implies, forall_const, ne_eq, Decidable.not_not, not_true_eq_false, not_false_eq_true, List.map_nil, List.map_cons, List.sum_nil, List.sum_cons, List.length_cons, List.length_nil, Nat.le_refl, Nat.zero_le, reduceCtorEq, true_or, or_true, false_or, or_false, false_and, and_false, false_implies, Nat.zero_add, Nat.add_zero, Int.reduceEq, Int.reduceNe, Int.reduceLT, Int.reduceLE, Int.reduceNeg, Int.reduceToNat, Nat.not_lt_zero, Int.reduceAdd, k1, ed1]
    (repeat refine ⟨by omega, ?_⟩)
    refine cl_bar C1 hN0 (fun y2 p2 hp2 => ?_)
    have C2 := C1.y y2
    have pl2 : pl (aS A) (sI (aS A) p2) ≠ -1 := by rw [pl_at w hp2]; omega
    simp only [wq_g3, wq_gc, wq_g, wq_g1, wq_g2, eL_change, iL_change_0, iL_change_60, iL_change_74, iL_change_79, iL_change_107, iL_change_108, iL_change_109, iL_change_127, iL_change_128, iL_change_129, iL_change_152, iL_change_153, iL_change_154, iL_change_173, iL_change_174, iL_change_175, iL_change_202, iL_change_203, iL_change_204, iL_change_226, iL_change_227, iL_change_228, iL_change_248, iL_change_252, iL_change_263, iL_change_264, iL_change_265, iL_change_291, iL_change_292, iL_change_293, iL_change_323, iL_change_324, iL_change_325, iL_change_345, iL_change_346, iL_change_347, iL_change_378, iL_change_379, vL_change, wps, x_cnd, reduceIte, Nat.reduceAdd, Nat.reduceSub, Nat.reduceEqDiff, Nat.reduceLeDiff, Nat.lt_irrefl, Nat.reduceLT, Int.cast_ofNat_Int, wq_c0, wq_c1, true_and, and_true, and_self, true_implies, forall_const, ne_eq, Decidable.not_not, not_true_eq_false, not_false_eq_true, List.map_nil, List.map_cons, List.sum_nil, List.sum_cons, List.length_cons, List.length_nil, Nat.le_refl, Nat.zero_le, reduceCtorEq, true_or, or_true, false_or, or_false, false_and, and_false, false_implies, Nat.zero_add, Nat.add_zero, Int.reduceEq, Int.reduceNe, Int.reduceLT, Int.reduceLE, Int.reduceNeg, Int.reduceToNat, Nat.not_lt_zero, Int.reduceAdd, k1]
    (repeat refine ⟨by omega, ?_⟩)
    refine cl_next C2.r41.1 C2.r41.2 (fun y3 v3 a3 b3 => ?_)
    have C3 := C2.y y3
    obtain ⟨d3, ed3, dd3, de3⟩ := remv (k := 3) a3 b3 (by decide)
    simp only [wq_g3, wq_gc, wq_g, wq_g1, wq_g2, eL_change, iL_change_0, iL_change_60, iL_change_74, iL_change_79, iL_change_107, iL_change_108, iL_change_109, iL_change_127, iL_change_128, iL_change_129, iL_change_152, iL_change_153, iL_change_154, iL_change_173, iL_change_174, iL_change_175, iL_change_202, iL_change_203, iL_change_204, iL_change_226, iL_change_227, iL_change_228, iL_change_248, iL_change_252, iL_change_263, iL_change_264, iL_change_265, iL_change_291, iL_change_292, iL_change_293, iL_change_323, iL_change_324, iL_change_325, iL_change_345, iL_change_346, iL_change_347, iL_change_378, iL_change_379, vL_change, wps, x_cnd, reduceIte, Nat.reduceAdd, Nat.reduceSub, Nat.reduceEqDiff, Nat.reduceLeDiff, Nat.lt_irrefl, Nat.reduceLT, Int.cast_ofNat_Int, wq_c0, wq_c1, true_and, and_true, and_self, true_implies, forall_const, ne_eq, Decidable.not_not, not_true_eq_false, not_false_eq_true, List.map_nil, List.map_cons, List.sum_nil, List.sum_cons, List.length_cons, List.length_nil, Nat.le_refl, Nat.zero_le, reduceCtorEq, true_or, or_true, false_or, or_false, false_and, and_false, false_implies, Nat.zero_add, Nat.add_zero, Int.reduceEq, Int.reduceNe, Int.reduceLT, Int.reduceLE, Int.reduceNeg, Int.reduceToNat, Nat.not_lt_zero, Int.reduceAdd, k1, ed3]
    try simp (disch := omega) only [w32_of]
    have R := d_con (part := d1) (v := d3) w G (by omega) hp2 (by omega)
    (repeat refine ⟨by omega, ?_⟩)
    refine cP_setContent C3 (fun M9 h9 C9 _ => ?_)
    rcases R with ⟨e9, r1, r2, r3⟩ | ⟨v9, r1, r2, K⟩
    · cases r2
    · rw [r1]
      have g9 : ¬ (v9 < 0) := by omega
      simp only [wq_g3, wq_gc, wq_g, wq_g1, wq_g2, eL_change, iL_change_0, iL_change_60, iL_change_74, iL_change_79, iL_change_107, iL_change_108, iL_change_109, iL_change_127, iL_change_128, iL_change_129, iL_change_152, iL_change_153, iL_change_154, iL_change_173, iL_change_174, iL_change_175, iL_change_202, iL_change_203, iL_change_204, iL_change_226, iL_change_227, iL_change_228, iL_change_248, iL_change_252, iL_change_263, iL_change_264, iL_change_265, iL_change_291, iL_change_292, iL_change_293, iL_change_323, iL_change_324, iL_change_325, iL_change_345, iL_change_346, iL_change_347, iL_change_378, iL_change_379, vL_change, wps, x_cnd, reduceIte, Nat.reduceAdd, Nat.reduceSub, Nat.reduceEqDiff, Nat.reduceLeDiff, Nat.lt_irrefl, Nat.reduceLT, Int.cast_ofNat_Int, wq_c0, wq_c1, true_and, and_true, and_self, true_implies, forall_const, ne_eq, Decidable.not_not, not_true_eq_false, not_false_eq_true, List.map_nil, List.map_cons, List.sum_nil, List.sum_cons, List.length_cons, List.length_nil, Nat.le_refl, Nat.zero_le, reduceCtorEq, true_or, or_true, false_or, or_false, false_and, and_false, false_implies, Nat.zero_add, Nat.add_zero, Int.reduceEq, Int.reduceNe, Int.reduceLT, Int.reduceLE, Int.reduceNeg, Int.reduceToNat, Nat.not_lt_zero, Int.reduceAdd, xo, g9]
      exact k M9 h9 _ 1 C9 (Or.inr ⟨rfl, K⟩)
end LAW9
