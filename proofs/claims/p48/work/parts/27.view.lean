/-! the methods of View that lay its rows -/
/-- places 0 .. n-1 of row a hold f -/
def x_map (M : xM) (a : Nat) (n : Int) (f : Nat → Int) : xM := fun b j => if b = a ∧ 0 ≤ j ∧ j < n then f j.toNat else M b j
theorem map_ne {M : xM} {a b : Nat} {n j : Int} {f : Nat → Int} (h : b ≠ a) : x_map M a n f b j = M b j := if_neg (fun q => h q.1)
theorem map_at {M : xM} {a : Nat} {n : Int} {p : Nat} {f : Nat → Int} (h : (p : Int) < n) : x_map M a n f a p = f p := by
  unfold x_map
  rw [if_pos ⟨rfl, by omega, h⟩]
  rfl
theorem map_out {M : xM} {a b : Nat} {n j : Int} {f : Nat → Int} (h : j < 0 ∨ n ≤ j) : x_map M a n f b j = M b j := if_neg (fun q => by omega)
theorem map_0 {M : xM} {a : Nat} {f : Nat → Int} : x_map M a 0 f = M := by
  funext b j
  exact map_out (by omega)
theorem map_s {M : xM} {a : Nat} {k : Nat} {f : Nat → Int} {v : Int} (h : v = f k) : x_w (x_map M a k f) a k v = x_map M a ((k : Int) + 1) f := by
  funext b j
  unfold x_w x_map
  by_cases hc : b = a ∧ j = k
  · rw [if_pos hc, if_pos (by omega), hc.2, h]
    rfl
  · rw [if_neg hc]
    by_cases hd : b = a ∧ 0 ≤ j ∧ j < k
    · rw [if_pos hd, if_pos (by omega)]
    · rw [if_neg hd, if_neg (by omega)]
theorem map_w {M : xM} {a b : Nat} {n i v : Int} {f : Nat → Int} (h : a ≠ b) : x_w (x_map M b n f) a i v = x_map (x_w M a i v) b n f := by
  funext c j
  unfold x_w x_map
  dsimp only
  by_cases hc : c = a ∧ j = i
  · rw [if_pos hc, if_neg (by omega), if_pos hc]
  · rw [if_neg hc, if_neg hc]
theorem w_w {M : xM} {a b : Nat} {i j v u : Int} (h : a ≠ b) : x_w (x_w M b j u) a i v = x_w (x_w M a i v) b j u := by
  funext c l
  unfold x_w
  by_cases hc : c = a ∧ l = i
  · rw [if_pos hc, if_neg (by omega), if_pos hc]
  · rw [if_neg hc]
    by_cases hd : c = b ∧ l = j
    · rw [if_pos hd, if_pos hd]
    · rw [if_neg hd, if_neg hd, if_neg hc]
theorem w_same {M : xM} {a : Nat} {i v u : Int} : x_w (x_w M a i u) a i v = x_w M a i v := by
  funext c l
  unfold x_w
  by_cases hc : c = a ∧ l = i
  · rw [if_pos hc, if_pos hc]
  · rw [if_neg hc, if_neg hc, if_neg hc]
theorem map_congr {M : xM} {a : Nat} {n : Int} {f g : Nat → Int} (h : ∀ p : Nat, (p : Int) < n → f p = g p) : x_map M a n f = x_map M a n g := by
  funext b j
  unfold x_map
  by_cases hc : b = a ∧ 0 ≤ j ∧ j < n
  · rw [if_pos hc, if_pos hc, h _ (by omega)]
  · rw [if_neg hc, if_neg hc]
theorem map_fl {M : xM} {a : Nat} {n v : Int} : x_fl M a v n = x_map M a n (fun _ => v) := by
  funext b j
  unfold x_fl x_map
  rfl
theorem map_up {M : xM} {a : Nat} {n : Int} {p : Nat} {f : Nat → Int} {v : Int} (h : (p : Int) < n) : x_w (x_map M a n f) a p v = x_map M a n (fun q => if q = p then v else f q) := by
  funext b j
  unfold x_w x_map
  dsimp only
  by_cases hc : b = a ∧ j = p
  · rw [if_pos hc, if_pos (by omega), if_pos (by omega)]
  · rw [if_neg hc]
    by_cases hd : b = a ∧ 0 ≤ j ∧ j < n
    · rw [if_pos hd, if_pos hd, if_neg (by omega)]
    · rw [if_neg hd, if_neg hd]
theorem repN.frame {f : Int → Int} {M M' : xM} {h : xH} {r : Nat} (R : repN f M h r) (e : ∀ a j, 42 ≤ a → M' a j = M a j) : repN f M' h r := by
  have e0 : ∀ i, M' (r + i) = M (r + i) := fun i => by
    funext j
    exact e _ _ (by have := R.1.2.1; omega)
  have e1 : M' r = M r := e0 0
  unfold repN ntf ntc at *
  rw [e1, e0, e0, e0, e0, e0]
  exact R
theorem repC.frame {S : xSr} {M M' : xM} {h : xH} {b : Nat} (R : repC S M h b) (e : ∀ a j, (b ≤ a ∧ a ≤ b + 9) ∨ 42 ≤ a → M' a j = M a j) : repC S M' h b := by
  have e0 : ∀ i, i ≤ 9 → M' (b + i) = M (b + i) := fun i hi => by
    funext j
    exact e _ _ (by omega)
  have e1 : M' b = M b := e0 0 (by omega)
  obtain ⟨a1, a2, a3, a4, a5, a6⟩ := R
  refine ⟨a1, by rw [e1]; exact a2, fun p hp => ?_, fun l h1 h2 => ?_, fun c hc => ?_, fun part hp => ?_⟩
  · rw [e0 1 (by omega), e0 2 (by omega), e0 3 (by omega), e0 4 (by omega), e0 5 (by omega), e0 6 (by omega)]
    exact a3 p hp
  · rw [e0 7 (by omega)]
    exact a4 l h1 h2
  · rw [e0 8 (by omega), e0 9 (by omega)]
    exact a5 c hc
  · rcases a6 part hp with q | ⟨q1, q2⟩
    · exact Or.inl q
    · exact Or.inr ⟨q1, q2.frame (fun a j ha => e a j (Or.inr ha))⟩
section VM
variable {M : xM} {h : xH} {Φ : xO → xM → xH → Prop} {S : xSr} {nid : Int}
set_option maxHeartbeats 1000000
theorem cV_findLabels (F : Fx h) (R : repC S M h 17) (w : wfS S nid) (k : Φ (.inl none) (x_map M 30 (sN S) (lab S)) h) : x_Cal zV_findLabels [xA 16] M h Φ := by
  have hN := w.N
  refine x_metI kV_findLabels (Nat.le_of_ble_eq_true rfl) (fun t m ls st M' h' c n => t = 6 ∧ st = [] ∧ h' = h ∧ c = 0 ∧ n = 0 ∧ ls 0 = some (xA 16) ∧ ∃ p : Nat, p ≤ sN S ∧ ls 1 = some (xI (cn (isI (sX S)) p)) ∧ ls 2 = some (xI (sfx (sX S) p)) ∧ ls 3 = some (xI p) ∧ m = sN S - p ∧ M' = x_map M 30 p (lab S)) 20 ?_ ?_
  · simp only [wq_g3, wq_gc, wq_g, wq_g1, wq_g2, eV_findLabels, iV_findLabels_0, iV_findLabels_6, iV_findLabels_37, iV_findLabels_40, iV_findLabels_59, vV_findLabels, wps, x_cnd, reduceIte, Nat.reduceAdd, Nat.reduceSub, Nat.reduceEqDiff, Nat.reduceLeDiff, Nat.lt_irrefl, Nat.reduceLT, Int.cast_ofNat_Int, wq_c0, wq_c1, true_and, and_true, and_self, true_implies, forall_const, ne_eq, Decidable.not_not, not_true_eq_false, not_false_eq_true, List.map_nil, List.map_cons, List.sum_nil, List.sum_cons, List.length_cons, List.length_nil, Nat.le_refl, Nat.zero_le, reduceCtorEq, true_or, or_true, false_or, or_false, false_and, and_false, false_implies, Nat.zero_add, Nat.add_zero]
    exact ⟨_, 0, by omega, rfl, rfl, rfl, rfl, map_0.symm⟩
  · rintro t m ls st M' h' c n ⟨rfl, rfl, rfl, rfl, rfl, l0, p, q1, l1, l2, l3, q2, rfl⟩
    have e0 : x_map M 30 p (lab S) 17 0 = sN S := (map_ne (by decide)).trans R.n
    have e1 := sfx_rng (sX S) p
    have e2 := cn_rng (P := isI (sX S)) (n := p)
    simp only [wq_g3, wq_gc, wq_g, wq_g1, wq_g2, eV_findLabels, iV_findLabels_0, iV_findLabels_6, iV_findLabels_37, iV_findLabels_40, iV_findLabels_59, vV_findLabels, wps, x_cnd, reduceIte, Nat.reduceAdd, Nat.reduceSub, Nat.reduceEqDiff, Nat.reduceLeDiff, Nat.lt_irrefl, Nat.reduceLT, Int.cast_ofNat_Int, wq_c0, wq_c1, true_and, and_true, and_self, true_implies, forall_const, ne_eq, Decidable.not_not, not_true_eq_false, not_false_eq_true, List.map_nil, List.map_cons, List.sum_nil, List.sum_cons, List.length_cons, List.length_nil, Nat.le_refl, Nat.zero_le, reduceCtorEq, true_or, or_true, false_or, or_false, false_and, and_false, false_implies, Nat.zero_add, Nat.add_zero, l0, l1, l2, l3, fxs F, e0]
    refine ⟨fun c0 => ?_, fun c0 => ⟨by omega, ?_⟩⟩
    · rw [show (p : Int) = sN S by omega]
      exact k
    · have e3 : x_map M 30 p (lab S) 20 p = sX S p := (map_ne (by decide)).trans (R.x (by omega))
      rw [e3]
      refine ⟨fun c1 => ?_, fun c1 => ?_⟩
      · have f1 : sfx (sX S) (p + 1) = sfx (sX S) p + 1 := by rw [sfx_s, if_neg c1]
        have f2 : cn (isI (sX S)) (p + 1) = cn (isI (sX S)) p := cn_s0 (by simp [isI, c1])
        simp (disch := omega) only [w32_of]
        refine ⟨by omega, sN S - (p + 1), by omega, p + 1, by omega, by rw [f2], by rw [f1], rfl, rfl, ?_⟩
        exact map_s (by unfold lab; rw [f1, f2])
      · have f1 : sfx (sX S) (p + 1) = 0 := by rw [sfx_s, if_pos c1]
        have f2 : cn (isI (sX S)) (p + 1) = cn (isI (sX S)) p + 1 := cn_s1 (by simp [isI, c1])
        simp (disch := omega) only [w32_of]
        refine ⟨by omega, sN S - (p + 1), by omega, p + 1, by omega, by rw [f2], by rw [f1], rfl, rfl, ?_⟩
        exact map_s (by unfold lab; rw [f1, f2])
theorem cvk_s (S : xSr) (p : Int) (q : Nat) : cvk S p (q + 1) = cvk S p q + if (hasC S q && (decide (pl S (sF S q) ≤ p) && decide (p ≤ pl S (sL S q)))) = true then 1 else 0 := rfl
theorem cvk_rng (S : xSr) (p : Int) (q : Nat) : 0 ≤ cvk S p q ∧ cvk S p q ≤ q := cn_rng
theorem cV_countCovers (F : Fx h) (R : repC S M h 17) (w : wfS S nid) (k : Φ (.inl none) (x_map M 31 150 (fun p => cov S p)) h) : x_Cal zV_countCovers [xA 16] M h Φ := by
  have hN := w.N
  refine x_metI kV_countCovers (Nat.le_of_ble_eq_true rfl) (fun t m ls st M' h' c n => st = [] ∧ h' = h ∧ c = 0 ∧ n = 0 ∧ ls 0 = some (xA 16) ∧ ∃ q : Nat, ls 1 = some (xI q) ∧ q ≤ 10 ∧ ((t = 10 ∧ m = (10 - q) * 1000 ∧ M' = x_map M 31 150 (fun p => cvk S p q)) ∨ (t = 64 ∧ q < 10 ∧ ∃ f l r : Nat, f ≤ l ∧ l < sN S ∧ hasC S q = true ∧ pl S (sF S q) = f ∧ pl S (sL S q) = l ∧ ls 3 = some (xI l) ∧ ls 4 = some (xI r) ∧ f ≤ r ∧ r ≤ l + 1 ∧ m = (10 - q) * 1000 - 1 - r ∧ M' = x_map M 31 150 (fun p => cvk S p q + b01 (f ≤ p ∧ p < r))))) 20 ?_ ?_
  · simp only [wq_g3, wq_gc, wq_g, wq_g1, wq_g2, eV_countCovers, iV_countCovers_0, iV_countCovers_10, iV_countCovers_64, iV_countCovers_92, iV_countCovers_98, vV_countCovers, wps, x_cnd, reduceIte, Nat.reduceAdd, Nat.reduceSub, Nat.reduceEqDiff, Nat.reduceLeDiff, Nat.lt_irrefl, Nat.reduceLT, Int.cast_ofNat_Int, wq_c0, wq_c1, true_and, and_true, and_self, true_implies, forall_const, ne_eq, Decidable.not_not, not_true_eq_false, not_false_eq_true, List.map_nil, List.map_cons, List.sum_nil, List.sum_cons, List.length_cons, List.length_nil, Nat.le_refl, Nat.zero_le, reduceCtorEq, true_or, or_true, false_or, or_false, false_and, and_false, false_implies, Nat.zero_add, Nat.add_zero, fxs F]
    refine cA_fill (L := 150) (by simp only [fxs F]) (by simp only [fxs F]) (by omega) ?_
    simp only [wq_g3, wq_gc, wq_g, wq_g1, wq_g2, eV_countCovers, iV_countCovers_0, iV_countCovers_10, iV_countCovers_64, iV_countCovers_92, iV_countCovers_98, vV_countCovers, wps, x_cnd, reduceIte, Nat.reduceAdd, Nat.reduceSub, Nat.reduceEqDiff, Nat.reduceLeDiff, Nat.lt_irrefl, Nat.reduceLT, Int.cast_ofNat_Int, wq_c0, wq_c1, true_and, and_true, and_self, true_implies, forall_const, ne_eq, Decidable.not_not, not_true_eq_false, not_false_eq_true, List.map_nil, List.map_cons, List.sum_nil, List.sum_cons, List.length_cons, List.length_nil, Nat.le_refl, Nat.zero_le, reduceCtorEq, true_or, or_true, false_or, or_false, false_and, and_false, false_implies, Nat.zero_add, Nat.add_zero, fxs F]
    exact ⟨_, 0, rfl, by omega, rfl, map_fl⟩
  · rintro t m ls st M' h' c n ⟨rfl, rfl, rfl, rfl, l0, q, l1, q1, ⟨rfl, q2, rfl⟩ | ⟨rfl, q2, f, l, r, r1, r2, r3, r4, r5, l3, l4, r6, r7, r8, rfl⟩⟩
    · have R1 : repC S (x_map M 31 150 (fun p => cvk S p q)) h' 17 := R.frame (fun a j ha => map_ne (by omega))
      have e8 := fun h : q < 10 => R1.cf h
      have e9 := fun h : q < 10 => R1.cl h
      simp only [wq_g3, wq_gc, wq_g, wq_g1, wq_g2, eV_countCovers, iV_countCovers_0, iV_countCovers_10, iV_countCovers_64, iV_countCovers_92, iV_countCovers_98, vV_countCovers, wps, x_cnd, reduceIte, Nat.reduceAdd, Nat.reduceSub, Nat.reduceEqDiff, Nat.reduceLeDiff, Nat.lt_irrefl, Nat.reduceLT, Int.cast_ofNat_Int, wq_c0, wq_c1, true_and, and_true, and_self, true_implies, forall_const, ne_eq, Decidable.not_not, not_true_eq_false, not_false_eq_true, List.map_nil, List.map_cons, List.sum_nil, List.sum_cons, List.length_cons, List.length_nil, Nat.le_refl, Nat.zero_le, reduceCtorEq, true_or, or_true, false_or, or_false, false_and, and_false, false_implies, Nat.zero_add, Nat.add_zero, l0, l1, fxs F]
      refine ⟨fun c0 => ?_, fun c0 => cS_hasCut F.s17 ?_⟩
      · rw [show q = 10 by omega]
        exact k
      have hq : q < 10 := by omega
      rw [show (17 : Nat) + 8 = 25 from rfl] at e8 ⊢
      rw [show (17 : Nat) + 9 = 26 from rfl] at e9
      simp only [wq_g3, wq_gc, wq_g, wq_g1, wq_g2, eV_countCovers, iV_countCovers_0, iV_countCovers_10, iV_countCovers_64, iV_countCovers_92, iV_countCovers_98, vV_countCovers, wps, x_cnd, reduceIte, Nat.reduceAdd, Nat.reduceSub, Nat.reduceEqDiff, Nat.reduceLeDiff, Nat.lt_irrefl, Nat.reduceLT, Int.cast_ofNat_Int, wq_c0, wq_c1, true_and, and_true, and_self, true_implies, forall_const, ne_eq, Decidable.not_not, not_true_eq_false, not_false_eq_true, List.map_nil, List.map_cons, List.sum_nil, List.sum_cons, List.length_cons, List.length_nil, Nat.le_refl, Nat.zero_le, reduceCtorEq, true_or, or_true, false_or, or_false, false_and, and_false, false_implies, Nat.zero_add, Nat.add_zero, l0, l1, fxs F, e8 hq, e9 hq, b01_0]
      refine ⟨fun c1 => ?_, fun c1 => ⟨by omega, ?_⟩⟩
      · simp (disch := omega) only [w32_of]
        refine ⟨(10 - (q + 1)) * 1000, by omega, q + 1, rfl, by omega, rfl, ?_⟩
        apply map_congr
        intro p hp
        have hc : hasC S q = false := by
          unfold hasC
          have : sF S q = -1 := by omega
          simp [this]
        rw [cvk_s, if_neg (by rw [hc]; simp)]
        omega
      · have hc : sF S q ≠ -1 := by omega
        obtain ⟨f, l, r1, r2, r3, r4⟩ := w.cutp hq hc
        refine cS_placeOf F.s17 R1.n (by omega) ?_
        rw [R1.fi]
        simp only [wq_g3, wq_gc, wq_g, wq_g1, wq_g2, eV_countCovers, iV_countCovers_0, iV_countCovers_10, iV_countCovers_64, iV_countCovers_92, iV_countCovers_98, vV_countCovers, wps, x_cnd, reduceIte, Nat.reduceAdd, Nat.reduceSub, Nat.reduceEqDiff, Nat.reduceLeDiff, Nat.lt_irrefl, Nat.reduceLT, Int.cast_ofNat_Int, wq_c0, wq_c1, true_and, and_true, and_self, true_implies, forall_const, ne_eq, Decidable.not_not, not_true_eq_false, not_false_eq_true, List.map_nil, List.map_cons, List.sum_nil, List.sum_cons, List.length_cons, List.length_nil, Nat.le_refl, Nat.zero_le, reduceCtorEq, true_or, or_true, false_or, or_false, false_and, and_false, false_implies, Nat.zero_add, Nat.add_zero, l0, l1, fxs F, e8 hq, e9 hq, r3]
        refine ⟨by omega, cS_placeOf F.s17 R1.n (by omega) ?_⟩
        rw [R1.fi]
        simp only [wq_g3, wq_gc, wq_g, wq_g1, wq_g2, eV_countCovers, iV_countCovers_0, iV_countCovers_10, iV_countCovers_64, iV_countCovers_92, iV_countCovers_98, vV_countCovers, wps, x_cnd, reduceIte, Nat.reduceAdd, Nat.reduceSub, Nat.reduceEqDiff, Nat.reduceLeDiff, Nat.lt_irrefl, Nat.reduceLT, Int.cast_ofNat_Int, wq_c0, wq_c1, true_and, and_true, and_self, true_implies, forall_const, ne_eq, Decidable.not_not, not_true_eq_false, not_false_eq_true, List.map_nil, List.map_cons, List.sum_nil, List.sum_cons, List.length_cons, List.length_nil, Nat.le_refl, Nat.zero_le, reduceCtorEq, true_or, or_true, false_or, or_false, false_and, and_false, false_implies, Nat.zero_add, Nat.add_zero, l0, l1, fxs F, e8 hq, e9 hq, r4]
        refine ⟨(10 - q) * 1000 - 1 - f, by omega, q, rfl, by omega, hq, f, l, f, r1, r2, ?_, r3, r4, rfl, rfl, by omega, by omega, rfl, ?_⟩
        · unfold hasC
          simp [hc]
        · apply map_congr
          intro p hp
          rw [b01_f (p := f ≤ p ∧ p < f) (by omega)]
          omega
    · have e0 : r ≤ l → x_map M 31 150 (fun p => cvk S p q + b01 (f ≤ p ∧ p < r)) 31 r = cvk S r q := fun _ => by
        rw [map_at (by omega), b01_f (p := f ≤ r ∧ r < r) (by omega)]
        omega
      have e1 := cvk_rng S r q
      simp only [wq_g3, wq_gc, wq_g, wq_g1, wq_g2, eV_countCovers, iV_countCovers_0, iV_countCovers_10, iV_countCovers_64, iV_countCovers_92, iV_countCovers_98, vV_countCovers, wps, x_cnd, reduceIte, Nat.reduceAdd, Nat.reduceSub, Nat.reduceEqDiff, Nat.reduceLeDiff, Nat.lt_irrefl, Nat.reduceLT, Int.cast_ofNat_Int, wq_c0, wq_c1, true_and, and_true, and_self, true_implies, forall_const, ne_eq, Decidable.not_not, not_true_eq_false, not_false_eq_true, List.map_nil, List.map_cons, List.sum_nil, List.sum_cons, List.length_cons, List.length_nil, Nat.le_refl, Nat.zero_le, reduceCtorEq, true_or, or_true, false_or, or_false, false_and, and_false, false_implies, Nat.zero_add, Nat.add_zero, l0, l1, l3, l4, fxs F]
      refine ⟨fun c0 => by omega, fun c0 => ⟨fun c1 => ?_, fun c1 => ⟨by omega, ?_⟩⟩⟩
      · simp (disch := omega) only [w32_of]
        refine ⟨(10 - (q + 1)) * 1000, by omega, q + 1, rfl, by omega, rfl, ?_⟩
        apply map_congr
        intro p hp
        rw [cvk_s, r3, r4, r5]
        by_cases hp2 : f ≤ p ∧ p < r
        · rw [b01_t hp2, if_pos (by simp; omega)]
        · rw [b01_f hp2, if_neg (by simp; omega)]
      · rw [e0 (by omega)]
        simp (disch := omega) only [w32_of]
        refine ⟨by omega, (10 - q) * 1000 - 1 - (r + 1), by omega, q, rfl, by omega, q2, f, l, r + 1, r1, r2, r3, r4, r5, rfl, rfl, by omega, by omega, rfl, ?_⟩
        rw [map_up (by omega)]
        apply map_congr
        intro p hp
        by_cases hp3 : p = r
        · subst hp3
          rw [if_pos rfl, b01_t (by omega)]
        · rw [if_neg hp3]
          exact congrArg (cvk S p q + ·) (b01_c (by omega))
theorem cV_listPlayed (F : Fx h) (R : repC S M h 17) (w : wfS S nid) (hc : ∀ p : Nat, p < sN S → M 31 p = cov S p) (k : Φ (.inl none) (x_w (x_map (x_map M 29 (sN S) (fun p => pb S p)) 28 (pN S) (fun j => pp S j)) 16 1 (pN S)) h) : x_Cal zV_listPlayed [xA 16] M h Φ := by
  have hN := w.N
  refine x_metI kV_listPlayed (Nat.le_of_ble_eq_true rfl) (fun t m ls st M' h' c n => t = 7 ∧ st = [] ∧ h' = h ∧ c = 0 ∧ n = 0 ∧ ls 0 = some (xA 16) ∧ ∃ p : Nat, p ≤ sN S ∧ ls 1 = some (xI p) ∧ m = sN S - p ∧ M' = x_w (x_map (x_map M 29 p (fun p => pb S p)) 28 (pb S p) (fun j => pp S j)) 16 1 (pb S p)) 20 ?_ ?_
  · simp only [wq_g3, wq_gc, wq_g, wq_g1, wq_g2, eV_listPlayed, iV_listPlayed_0, iV_listPlayed_7, iV_listPlayed_57, iV_listPlayed_63, vV_listPlayed, wps, x_cnd, reduceIte, Nat.reduceAdd, Nat.reduceSub, Nat.reduceEqDiff, Nat.reduceLeDiff, Nat.lt_irrefl, Nat.reduceLT, Int.cast_ofNat_Int, wq_c0, wq_c1, true_and, and_true, and_self, true_implies, forall_const, ne_eq, Decidable.not_not, not_true_eq_false, not_false_eq_true, List.map_nil, List.map_cons, List.sum_nil, List.sum_cons, List.length_cons, List.length_nil, Nat.le_refl, Nat.zero_le, reduceCtorEq, true_or, or_true, false_or, or_false, false_and, and_false, false_implies, Nat.zero_add, Nat.add_zero, fxs F]
    refine ⟨_, 0, by omega, rfl, rfl, ?_⟩
    rw [show pb S 0 = 0 from rfl, show ((0 : Nat) : Int) = 0 from rfl, map_0, map_0]
  · rintro t m ls st M' h' c n ⟨rfl, rfl, rfl, rfl, rfl, l0, p, q1, l1, q2, rfl⟩
    have e0 : x_w (x_map (x_map M 29 p (fun p => pb S p)) 28 (pb S p) (fun j => pp S j)) 16 1 (pb S p) 17 0 = sN S := by
      rw [w_ne (by decide), map_ne (by decide), map_ne (by decide)]
      exact R.n
    have hb := pb_rng (S := S) (p := p)
    simp only [wq_g3, wq_gc, wq_g, wq_g1, wq_g2, eV_listPlayed, iV_listPlayed_0, iV_listPlayed_7, iV_listPlayed_57, iV_listPlayed_63, vV_listPlayed, wps, x_cnd, reduceIte, Nat.reduceAdd, Nat.reduceSub, Nat.reduceEqDiff, Nat.reduceLeDiff, Nat.lt_irrefl, Nat.reduceLT, Int.cast_ofNat_Int, wq_c0, wq_c1, true_and, and_true, and_self, true_implies, forall_const, ne_eq, Decidable.not_not, not_true_eq_false, not_false_eq_true, List.map_nil, List.map_cons, List.sum_nil, List.sum_cons, List.length_cons, List.length_nil, Nat.le_refl, Nat.zero_le, reduceCtorEq, true_or, or_true, false_or, or_false, false_and, and_false, false_implies, Nat.zero_add, Nat.add_zero, l0, l1, fxs F, e0, w_eq]
    refine ⟨fun c0 => ?_, fun c0 => ⟨by omega, by omega, ?_⟩⟩
    · have e : p = sN S := by omega
      rw [e]
      exact k
    · have f1 : x_w (x_w (x_map (x_map M 29 p (fun p => pb S p)) 28 (pb S p) (fun j => pp S j)) 16 1 (pb S p)) 29 p (pb S p) = x_w (x_map (x_map M 29 ((p : Int) + 1) (fun p => pb S p)) 28 (pb S p) (fun j => pp S j)) 16 1 (pb S p) := by
        rw [w_w (by decide), map_w (by decide), map_s rfl]
      have f2 : x_w (x_map (x_map M 29 ((p : Int) + 1) (fun p => pb S p)) 28 (pb S p) (fun j => pp S j)) 16 1 (pb S p) 31 p = cov S p := by
        rw [w_ne (by decide), map_ne (by decide), map_ne (by decide)]
        exact hc p (by omega)
      rw [f1, f2]
      simp only [wq_g3, wq_gc, wq_g, wq_g1, wq_g2, eV_listPlayed, iV_listPlayed_0, iV_listPlayed_7, iV_listPlayed_57, iV_listPlayed_63, vV_listPlayed, wps, x_cnd, reduceIte, Nat.reduceAdd, Nat.reduceSub, Nat.reduceEqDiff, Nat.reduceLeDiff, Nat.lt_irrefl, Nat.reduceLT, Int.cast_ofNat_Int, wq_c0, wq_c1, true_and, and_true, and_self, true_implies, forall_const, ne_eq, Decidable.not_not, not_true_eq_false, not_false_eq_true, List.map_nil, List.map_cons, List.sum_nil, List.sum_cons, List.length_cons, List.length_nil, Nat.le_refl, Nat.zero_le, reduceCtorEq, true_or, or_true, false_or, or_false, false_and, and_false, false_implies, Nat.zero_add, Nat.add_zero, l0, l1, fxs F, e0, w_eq]
      refine ⟨fun c1 => ?_, fun c1 => ⟨by omega, ?_⟩⟩
      · have g1 : pb S (p + 1) = pb S p := cn_s0 (by simp [isP, c1])
        simp (disch := omega) only [w32_of]
        refine ⟨sN S - (p + 1), by omega, p + 1, by omega, rfl, rfl, ?_⟩
        rw [g1]
        rfl
      · have g0 : isP S p = true := isP_iff.mpr c1
        have g1 : pb S (p + 1) = pb S p + 1 := cn_s1 g0
        obtain ⟨b, hbe⟩ : ∃ b : Nat, pb S p = b := ⟨(pb S p).toNat, by omega⟩
        rw [w_ne (a := 28) (b := 16) (by decide), w_eq]
        simp (disch := omega) only [w32_of]
        refine ⟨sN S - (p + 1), by omega, p + 1, by omega, rfl, rfl, ?_⟩
        have e9 : (p : Int) = pp S b := by rw [← hbe, pp_at (by omega) g0]
        rw [g1, w_w (by decide), w_same, hbe, w_w (a := 28) (b := 16) (by decide), map_s (f := fun j => pp S j) e9]
        rfl
theorem sitk_0 (S : xSr) (p : Int) : sitk S p 0 = 0 := rfl
theorem cV_seatMarks (F : Fx h) (R : repC S M h 17) (w : wfS S nid) (k : Φ (.inl none) (x_map M 32 150 (fun p => sit S p)) h) : x_Cal zV_seatMarks [xA 16] M h Φ := by
  have hN := w.N
  refine x_metI kV_seatMarks (Nat.le_of_ble_eq_true rfl) (fun t m ls st M' h' c n => t = 10 ∧ st = [] ∧ h' = h ∧ c = 0 ∧ n = 0 ∧ ls 0 = some (xA 16) ∧ ∃ l : Nat, l ≤ 40 ∧ ls 1 = some (xI ((l : Int) + 1)) ∧ m = 40 - l ∧ M' = x_map M 32 150 (fun p => sitk S p l)) 20 ?_ ?_
  · simp only [wq_g3, wq_gc, wq_g, wq_g1, wq_g2, eV_seatMarks, iV_seatMarks_0, iV_seatMarks_10, iV_seatMarks_56, iV_seatMarks_62, vV_seatMarks, wps, x_cnd, reduceIte, Nat.reduceAdd, Nat.reduceSub, Nat.reduceEqDiff, Nat.reduceLeDiff, Nat.lt_irrefl, Nat.reduceLT, Int.cast_ofNat_Int, wq_c0, wq_c1, true_and, and_true, and_self, true_implies, forall_const, ne_eq, Decidable.not_not, not_true_eq_false, not_false_eq_true, List.map_nil, List.map_cons, List.sum_nil, List.sum_cons, List.length_cons, List.length_nil, Nat.le_refl, Nat.zero_le, reduceCtorEq, true_or, or_true, false_or, or_false, false_and, and_false, false_implies, Nat.zero_add, Nat.add_zero, fxs F]
    refine cA_fill (L := 150) (by simp only [fxs F]) (by simp only [fxs F]) (by omega) ?_
    simp only [wq_g3, wq_gc, wq_g, wq_g1, wq_g2, eV_seatMarks, iV_seatMarks_0, iV_seatMarks_10, iV_seatMarks_56, iV_seatMarks_62, vV_seatMarks, wps, x_cnd, reduceIte, Nat.reduceAdd, Nat.reduceSub, Nat.reduceEqDiff, Nat.reduceLeDiff, Nat.lt_irrefl, Nat.reduceLT, Int.cast_ofNat_Int, wq_c0, wq_c1, true_and, and_true, and_self, true_implies, forall_const, ne_eq, Decidable.not_not, not_true_eq_false, not_false_eq_true, List.map_nil, List.map_cons, List.sum_nil, List.sum_cons, List.length_cons, List.length_nil, Nat.le_refl, Nat.zero_le, reduceCtorEq, true_or, or_true, false_or, or_false, false_and, and_false, false_implies, Nat.zero_add, Nat.add_zero, fxs F]
    exact ⟨_, 0, by omega, rfl, rfl, map_fl⟩
  · rintro t m ls st M' h' c n ⟨rfl, rfl, rfl, rfl, rfl, l0, l, q1, l1, q2, rfl⟩
    have R1 : repC S (x_map M 32 150 (fun p => sitk S p l)) h' 17 := R.frame (fun a j ha => map_ne (by omega))
    simp only [wq_g3, wq_gc, wq_g, wq_g1, wq_g2, eV_seatMarks, iV_seatMarks_0, iV_seatMarks_10, iV_seatMarks_56, iV_seatMarks_62, vV_seatMarks, wps, x_cnd, reduceIte, Nat.reduceAdd, Nat.reduceSub, Nat.reduceEqDiff, Nat.reduceLeDiff, Nat.lt_irrefl, Nat.reduceLT, Int.cast_ofNat_Int, wq_c0, wq_c1, true_and, and_true, and_self, true_implies, forall_const, ne_eq, Decidable.not_not, not_true_eq_false, not_false_eq_true, List.map_nil, List.map_cons, List.sum_nil, List.sum_cons, List.length_cons, List.length_nil, Nat.le_refl, Nat.zero_le, reduceCtorEq, true_or, or_true, false_or, or_false, false_and, and_false, false_implies, Nat.zero_add, Nat.add_zero, l0, l1, fxs F]
    refine ⟨fun c0 => ?_, fun c0 => cS_hasMark F.s17 ?_⟩
    · rw [show l = 40 by omega]
      exact k
    have hl : l + 1 ≤ 40 := by omega
    have em : x_map M 32 150 (fun p => sitk S p l) 24 ((l : Int) + 1) = sM S (l + 1 : Nat) := R1.mk (l := l + 1) (by omega) hl
    rw [show (17 : Nat) + 7 = 24 from rfl]
    simp only [wq_g3, wq_gc, wq_g, wq_g1, wq_g2, eV_seatMarks, iV_seatMarks_0, iV_seatMarks_10, iV_seatMarks_56, iV_seatMarks_62, vV_seatMarks, wps, x_cnd, reduceIte, Nat.reduceAdd, Nat.reduceSub, Nat.reduceEqDiff, Nat.reduceLeDiff, Nat.lt_irrefl, Nat.reduceLT, Int.cast_ofNat_Int, wq_c0, wq_c1, true_and, and_true, and_self, true_implies, forall_const, ne_eq, Decidable.not_not, not_true_eq_false, not_false_eq_true, List.map_nil, List.map_cons, List.sum_nil, List.sum_cons, List.length_cons, List.length_nil, Nat.le_refl, Nat.zero_le, reduceCtorEq, true_or, or_true, false_or, or_false, false_and, and_false, false_implies, Nat.zero_add, Nat.add_zero, l0, l1, fxs F, em, b01_0]
    refine ⟨fun c1 => ?_, fun c1 => ⟨by omega, cS_placeOf F.s17 R1.n (by omega) ?_⟩⟩
    · simp (disch := omega) only [w32_of]
      refine ⟨40 - (l + 1), by omega, l + 1, by omega, rfl, rfl, ?_⟩
      apply map_congr
      intro p hp
      rw [sitk_s, if_neg (by omega)]
    rw [R1.fi]
    simp only [wq_g3, wq_gc, wq_g, wq_g1, wq_g2, eV_seatMarks, iV_seatMarks_0, iV_seatMarks_10, iV_seatMarks_56, iV_seatMarks_62, vV_seatMarks, wps, x_cnd, reduceIte, Nat.reduceAdd, Nat.reduceSub, Nat.reduceEqDiff, Nat.reduceLeDiff, Nat.lt_irrefl, Nat.reduceLT, Int.cast_ofNat_Int, wq_c0, wq_c1, true_and, and_true, and_self, true_implies, forall_const, ne_eq, Decidable.not_not, not_true_eq_false, not_false_eq_true, List.map_nil, List.map_cons, List.sum_nil, List.sum_cons, List.length_cons, List.length_nil, Nat.le_refl, Nat.zero_le, reduceCtorEq, true_or, or_true, false_or, or_false, false_and, and_false, false_implies, Nat.zero_add, Nat.add_zero, l0, l1, fxs F, em]
    have hm : sM S (l + 1 : Nat) ≠ -1 := by omega
    obtain ⟨q, r1, r2, r3⟩ := w.mkp (l := l + 1) (by omega) hl hm
    rw [r3]
    refine ⟨fun c2 => by omega, fun c2 => ⟨by omega, ?_⟩⟩
    simp (disch := omega) only [w32_of]
    refine ⟨40 - (l + 1), by omega, l + 1, by omega, rfl, rfl, ?_⟩
    rw [map_up (by omega)]
    apply map_congr
    intro p hp
    rw [sitk_s, r3]
    by_cases hpq : p = q
    · rw [if_pos hpq, if_pos (by omega)]
      rfl
    · rw [if_neg hpq, if_neg (by omega)]
theorem ltk_0 (S : xSr) (p : Int) : ltk S p 0 = 0 := rfl
theorem cV_firstPlayedFrom (F : Fx h) {p N : Nat} {pi pn v : Int} (h1 : M 29 p = pi) (h2 : M 16 1 = pn) (hp : p < 150) (h0 : 0 ≤ pi ∧ pn ≤ 150) (h3 : pi < pn → M 28 pi = v) (h4 : ¬ pi < pn → v = -1) (k : Φ (.inl (some (xI v))) M h) : x_Cal zV_firstPlayedFrom [xA 16, xI p] M h Φ := by
  refine x_met0 kV_firstPlayedFrom (Nat.le_of_ble_eq_true rfl) ?_
  simp only [wq_g3, wq_gc, wq_g, wq_g1, wq_g2, eV_firstPlayedFrom, iV_firstPlayedFrom_0, iV_firstPlayedFrom_24, iV_firstPlayedFrom_25, vV_firstPlayedFrom, wps, x_cnd, reduceIte, Nat.reduceAdd, Nat.reduceSub, Nat.reduceEqDiff, Nat.reduceLeDiff, Nat.lt_irrefl, Nat.reduceLT, Int.cast_ofNat_Int, wq_c0, wq_c1, true_and, and_true, and_self, true_implies, forall_const, ne_eq, Decidable.not_not, not_true_eq_false, not_false_eq_true, List.map_nil, List.map_cons, List.sum_nil, List.sum_cons, List.length_cons, List.length_nil, Nat.le_refl, Nat.zero_le, reduceCtorEq, true_or, or_true, false_or, or_false, false_and, and_false, false_implies, Nat.zero_add, Nat.add_zero, fxs F, h1, h2]
  refine ⟨by omega, fun c0 => ?_, fun c0 => ⟨by omega, ?_⟩⟩
  · rw [h4 (by omega)] at k
    exact k
  · rw [h3 (by omega)]
    exact k
/-- what the rows hold after listPlayed -/
def VP (S : xSr) (M : xM) : Prop := M 16 1 = pN S ∧ (∀ p : Nat, p < sN S → M 29 p = pb S p) ∧ ∀ k : Nat, (k : Int) < pN S → M 28 k = pp S k
theorem cV_firstPlayed (F : Fx h) (w : wfS S nid) (V : VP S M) {p : Nat} (hp : p < sN S) (k : Φ (.inl (some (xI (sh S p)))) M h) : x_Cal zV_firstPlayedFrom [xA 16, xI p] M h Φ := by
  have hN := w.N
  have h1 := pb_rng (S := S) (p := p)
  have h2 := pN_rng (S := S)
  obtain ⟨b, hb⟩ : ∃ b : Nat, pb S p = b := ⟨(pb S p).toNat, by omega⟩
  refine cV_firstPlayedFrom F (N := 0) (V.2.1 p hp) V.1 (by omega) (by omega) (fun hlt => ?_) (fun hlt => ?_) k
  · rw [hb, V.2.2 b (by omega)]
    unfold sh
    rw [if_pos hlt, hb]
  · unfold sh
    rw [if_neg hlt]
theorem VP.frame {M' : xM} (V : VP S M) (e : ∀ a j, (a = 16 ∧ j = 1) ∨ a = 28 ∨ a = 29 → M' a j = M a j) : VP S M' :=
  ⟨(e _ _ (by omega)).trans V.1, fun p hp => (e _ _ (by omega)).trans (V.2.1 p hp), fun k hk => (e _ _ (by omega)).trans (V.2.2 k hk)⟩
theorem cV_showLetters (F : Fx h) (R : repC S M h 17) (w : wfS S nid) (V : VP S M) (hs : ∀ p : Nat, p < sN S → M 32 p = sit S p) (k : Φ (.inl none) (x_map M 33 150 (fun p => lt S p)) h) : x_Cal zV_showLetters [xA 16] M h Φ := by
  have hN := w.N
  refine x_metI kV_showLetters (Nat.le_of_ble_eq_true rfl) (fun t m ls st M' h' c n => t = 10 ∧ st = [] ∧ h' = h ∧ c = 0 ∧ n = 0 ∧ ls 0 = some (xA 16) ∧ ∃ q : Nat, q ≤ sN S ∧ ls 1 = some (xI q) ∧ m = sN S - q ∧ M' = x_map M 33 150 (fun p => ltk S p q)) 20 ?_ ?_
  · simp only [wq_g3, wq_gc, wq_g, wq_g1, wq_g2, eV_showLetters, iV_showLetters_0, iV_showLetters_10, iV_showLetters_53, iV_showLetters_59, vV_showLetters, wps, x_cnd, reduceIte, Nat.reduceAdd, Nat.reduceSub, Nat.reduceEqDiff, Nat.reduceLeDiff, Nat.lt_irrefl, Nat.reduceLT, Int.cast_ofNat_Int, wq_c0, wq_c1, true_and, and_true, and_self, true_implies, forall_const, ne_eq, Decidable.not_not, not_true_eq_false, not_false_eq_true, List.map_nil, List.map_cons, List.sum_nil, List.sum_cons, List.length_cons, List.length_nil, Nat.le_refl, Nat.zero_le, reduceCtorEq, true_or, or_true, false_or, or_false, false_and, and_false, false_implies, Nat.zero_add, Nat.add_zero, fxs F]
    refine cA_fill (L := 150) (by simp only [fxs F]) (by simp only [fxs F]) (by omega) ?_
    simp only [wq_g3, wq_gc, wq_g, wq_g1, wq_g2, eV_showLetters, iV_showLetters_0, iV_showLetters_10, iV_showLetters_53, iV_showLetters_59, vV_showLetters, wps, x_cnd, reduceIte, Nat.reduceAdd, Nat.reduceSub, Nat.reduceEqDiff, Nat.reduceLeDiff, Nat.lt_irrefl, Nat.reduceLT, Int.cast_ofNat_Int, wq_c0, wq_c1, true_and, and_true, and_self, true_implies, forall_const, ne_eq, Decidable.not_not, not_true_eq_false, not_false_eq_true, List.map_nil, List.map_cons, List.sum_nil, List.sum_cons, List.length_cons, List.length_nil, Nat.le_refl, Nat.zero_le, reduceCtorEq, true_or, or_true, false_or, or_false, false_and, and_false, false_implies, Nat.zero_add, Nat.add_zero, fxs F]
    exact ⟨_, 0, by omega, rfl, rfl, map_fl⟩
  · rintro t m ls st M' h' c n ⟨rfl, rfl, rfl, rfl, rfl, l0, q, q1, l1, q2, rfl⟩
    have R1 : repC S (x_map M 33 150 (fun p => ltk S p q)) h' 17 := R.frame (fun a j ha => map_ne (by omega))
    have V1 : VP S (x_map M 33 150 (fun p => ltk S p q)) := V.frame (fun a j ha => map_ne (by omega))
    have e0 := R1.n
    simp only [wq_g3, wq_gc, wq_g, wq_g1, wq_g2, eV_showLetters, iV_showLetters_0, iV_showLetters_10, iV_showLetters_53, iV_showLetters_59, vV_showLetters, wps, x_cnd, reduceIte, Nat.reduceAdd, Nat.reduceSub, Nat.reduceEqDiff, Nat.reduceLeDiff, Nat.lt_irrefl, Nat.reduceLT, Int.cast_ofNat_Int, wq_c0, wq_c1, true_and, and_true, and_self, true_implies, forall_const, ne_eq, Decidable.not_not, not_true_eq_false, not_false_eq_true, List.map_nil, List.map_cons, List.sum_nil, List.sum_cons, List.length_cons, List.length_nil, Nat.le_refl, Nat.zero_le, reduceCtorEq, true_or, or_true, false_or, or_false, false_and, and_false, false_implies, Nat.zero_add, Nat.add_zero, l0, l1, fxs F, e0]
    refine ⟨fun c0 => ?_, fun c0 => cV_firstPlayed F w V1 (by omega) ?_⟩
    · rw [show q = sN S by omega] 
      exact k
    have e1 : x_map M 33 150 (fun p => ltk S p q) 32 q = sit S q := (map_ne (by decide)).trans (hs q (by omega))
    have hr := sh_rng (S := S) (p := q)
    simp only [wq_g3, wq_gc, wq_g, wq_g1, wq_g2, eV_showLetters, iV_showLetters_0, iV_showLetters_10, iV_showLetters_53, iV_showLetters_59, vV_showLetters, wps, x_cnd, reduceIte, Nat.reduceAdd, Nat.reduceSub, Nat.reduceEqDiff, Nat.reduceLeDiff, Nat.lt_irrefl, Nat.reduceLT, Int.cast_ofNat_Int, wq_c0, wq_c1, true_and, and_true, and_self, true_implies, forall_const, ne_eq, Decidable.not_not, not_true_eq_false, not_false_eq_true, List.map_nil, List.map_cons, List.sum_nil, List.sum_cons, List.length_cons, List.length_nil, Nat.le_refl, Nat.zero_le, reduceCtorEq, true_or, or_true, false_or, or_false, false_and, and_false, false_implies, Nat.zero_add, Nat.add_zero, l0, l1, fxs F, e0, e1]
    refine ⟨by omega, fun c1 => ?_, fun c1 => ⟨fun c2 => ?_, fun c2 => ⟨by omega, by omega, ?_⟩⟩⟩
    · simp (disch := omega) only [w32_of]
      refine ⟨sN S - (q + 1), by omega, q + 1, by omega, rfl, rfl, ?_⟩
      apply map_congr
      intro p hp
      rw [ltk_s, if_neg (by omega)]
    · simp (disch := omega) only [w32_of]
      refine ⟨sN S - (q + 1), by omega, q + 1, by omega, rfl, rfl, ?_⟩
      apply map_congr
      intro p hp
      rw [ltk_s, if_neg (by omega)]
    · obtain ⟨s, hs2⟩ : ∃ s : Nat, sh S q = s := ⟨(sh S q).toNat, by omega⟩
      simp (disch := omega) only [w32_of]
      refine ⟨sN S - (q + 1), by omega, q + 1, by omega, rfl, rfl, ?_⟩
      rw [hs2, map_up (by omega)]
      apply map_congr
      intro p hp
      rw [ltk_s, hs2]
      by_cases hps : p = s
      · rw [if_pos hps, if_pos (by omega)]
      · rw [if_neg hps, if_neg (by omega)]
theorem cV_reasonBetween (F : Fx h) (R : repC S M h 17) (w : wfS S nid) (hl : ∀ p : Nat, p < sN S → M 33 p = lt S p) {a b : Nat} (ha : a < sN S) (hb : b < sN S) (k : Φ (.inl (some (xI (rsb S a b)))) M h) : x_Cal zV_reasonBetween [xA 16, xI a, xI b] M h Φ := by
  have hN := w.N
  have e1 := hl b hb
  have e2 : M 19 a = sB S a := R.bt ha
  have e3 : M 19 b = sB S b := R.bt hb
  have e4 : M 21 b = sT S b := R.t hb
  have e5 : M 22 a = sD S a := R.d ha
  refine x_met0 kV_reasonBetween (Nat.le_of_ble_eq_true rfl) ?_
  simp only [wq_g3, wq_gc, wq_g, wq_g1, wq_g2, eV_reasonBetween, iV_reasonBetween_0, iV_reasonBetween_11, iV_reasonBetween_34, iV_reasonBetween_48, iV_reasonBetween_62, iV_reasonBetween_73, iV_reasonBetween_74, vV_reasonBetween, wps, x_cnd, reduceIte, Nat.reduceAdd, Nat.reduceSub, Nat.reduceEqDiff, Nat.reduceLeDiff, Nat.lt_irrefl, Nat.reduceLT, Int.cast_ofNat_Int, wq_c0, wq_c1, true_and, and_true, and_self, true_implies, forall_const, ne_eq, Decidable.not_not, not_true_eq_false, not_false_eq_true, List.map_nil, List.map_cons, List.sum_nil, List.sum_cons, List.length_cons, List.length_nil, Nat.le_refl, Nat.zero_le, reduceCtorEq, true_or, or_true, false_or, or_false, false_and, and_false, false_implies, Nat.zero_add, Nat.add_zero, fxs F, e1, e2, e3, e4, e5]
  simp (disch := omega) only [w32_of]
  unfold rsb at k
  (repeat' (first | apply And.intro | intro _)) <;> first | omega | exact kr k (by (repeat' split) <;> omega)
def rsk (S : xSr) (i : Nat) (p : Nat) : Int := if p < sN S ∧ isP S p = true ∧ pb S p < i then rsn S (pb S p) else 0
theorem cV_findReasons (F : Fx h) (R : repC S M h 17) (w : wfS S nid) (V : VP S M) (hl : ∀ p : Nat, p < sN S → M 33 p = lt S p) (k : Φ (.inl none) (x_map M 34 150 (rsk S (pN S).toNat)) h) : x_Cal zV_findReasons [xA 16] M h Φ := by
  have hN := w.N
  have hpn := pN_rng (S := S)
  refine x_metI kV_findReasons (Nat.le_of_ble_eq_true rfl) (fun t m ls st M' h' c n => t = 10 ∧ st = [] ∧ h' = h ∧ c = 0 ∧ n = 0 ∧ ls 0 = some (xA 16) ∧ ∃ i : Nat, 1 ≤ i ∧ ((i : Int) ≤ pN S ∨ i = 1) ∧ ls 1 = some (xI i) ∧ m = 200 - i ∧ M' = x_map M 34 150 (rsk S i)) 20 ?_ ?_
  · simp only [wq_g3, wq_gc, wq_g, wq_g1, wq_g2, eV_findReasons, iV_findReasons_0, iV_findReasons_10, iV_findReasons_50, vV_findReasons, wps, x_cnd, reduceIte, Nat.reduceAdd, Nat.reduceSub, Nat.reduceEqDiff, Nat.reduceLeDiff, Nat.lt_irrefl, Nat.reduceLT, Int.cast_ofNat_Int, wq_c0, wq_c1, true_and, and_true, and_self, true_implies, forall_const, ne_eq, Decidable.not_not, not_true_eq_false, not_false_eq_true, List.map_nil, List.map_cons, List.sum_nil, List.sum_cons, List.length_cons, List.length_nil, Nat.le_refl, Nat.zero_le, reduceCtorEq, true_or, or_true, false_or, or_false, false_and, and_false, false_implies, Nat.zero_add, Nat.add_zero, fxs F]
    refine cA_fill (L := 150) (by simp only [fxs F]) (by simp only [fxs F]) (by omega) ?_
    simp only [wq_g3, wq_gc, wq_g, wq_g1, wq_g2, eV_findReasons, iV_findReasons_0, iV_findReasons_10, iV_findReasons_50, vV_findReasons, wps, x_cnd, reduceIte, Nat.reduceAdd, Nat.reduceSub, Nat.reduceEqDiff, Nat.reduceLeDiff, Nat.lt_irrefl, Nat.reduceLT, Int.cast_ofNat_Int, wq_c0, wq_c1, true_and, and_true, and_self, true_implies, forall_const, ne_eq, Decidable.not_not, not_true_eq_false, not_false_eq_true, List.map_nil, List.map_cons, List.sum_nil, List.sum_cons, List.length_cons, List.length_nil, Nat.le_refl, Nat.zero_le, reduceCtorEq, true_or, or_true, false_or, or_false, false_and, and_false, false_implies, Nat.zero_add, Nat.add_zero, fxs F]
    refine ⟨_, 1, by omega, by omega, rfl, rfl, map_fl.trans (map_congr fun p hp => ?_)⟩
    unfold rsk
    split
    · rename_i hc
      have := pb_rng (S := S) (p := p)
      rw [show pb S p = 0 by omega]
      rfl
    · rfl
  · rintro t m ls st M' h' c n ⟨rfl, rfl, rfl, rfl, rfl, l0, i, q0, q1, l1, q2, rfl⟩
    have R1 : repC S (x_map M 34 150 (rsk S i)) h' 17 := R.frame (fun a j ha => map_ne (by omega))
    have V1 : VP S (x_map M 34 150 (rsk S i)) := V.frame (fun a j ha => map_ne (by omega))
    have e0 := V1.1
    simp only [wq_g3, wq_gc, wq_g, wq_g1, wq_g2, eV_findReasons, iV_findReasons_0, iV_findReasons_10, iV_findReasons_50, vV_findReasons, wps, x_cnd, reduceIte, Nat.reduceAdd, Nat.reduceSub, Nat.reduceEqDiff, Nat.reduceLeDiff, Nat.lt_irrefl, Nat.reduceLT, Int.cast_ofNat_Int, wq_c0, wq_c1, true_and, and_true, and_self, true_implies, forall_const, ne_eq, Decidable.not_not, not_true_eq_false, not_false_eq_true, List.map_nil, List.map_cons, List.sum_nil, List.sum_cons, List.length_cons, List.length_nil, Nat.le_refl, Nat.zero_le, reduceCtorEq, true_or, or_true, false_or, or_false, false_and, and_false, false_implies, Nat.zero_add, Nat.add_zero, l0, l1, fxs F, e0]
    refine ⟨fun c0 => ?_, fun c0 => ?_⟩
    · have e : x_map M 34 150 (rsk S i) = x_map M 34 150 (rsk S (pN S).toNat) := map_congr fun p hp => by
        unfold rsk
        by_cases h1 : p < sN S ∧ isP S p = true
        · have h2 := pb_lt h1.1 h1.2
          rw [if_pos ⟨h1.1, h1.2, by omega⟩, if_pos ⟨h1.1, h1.2, by omega⟩]
        · rw [if_neg (fun q => h1 ⟨q.1, q.2.1⟩), if_neg (fun q => h1 ⟨q.1, q.2.1⟩)]
      rw [e]
      exact k
    · obtain ⟨a, a1, a2, a3, a4⟩ := pp_some (S := S) (k := ((i - 1 : Nat) : Int)) (by omega) (by omega)
      obtain ⟨b, b1, b2, b3, b4⟩ := pp_some (S := S) (k := (i : Int)) (by omega) (by omega)
      have f1 : x_map M 34 150 (rsk S i) 28 i = b := (V1.2.2 i (by omega)).trans b4
      have f2 : x_map M 34 150 (rsk S i) 28 ((i : Int) - 1) = a := by
        rw [show (i : Int) - 1 = ((i - 1 : Nat) : Int) by omega]
        exact (V1.2.2 (i - 1) (by omega)).trans a4
      simp (disch := omega) only [w32_of]
      rw [f1, f2]
      refine ⟨by omega, by omega, ?_⟩
      refine cV_reasonBetween F R1 w (fun p hp => (map_ne (by decide)).trans (hl p hp)) a1 b1 ?_
      simp only [wq_g3, wq_gc, wq_g, wq_g1, wq_g2, eV_findReasons, iV_findReasons_0, iV_findReasons_10, iV_findReasons_50, vV_findReasons, wps, x_cnd, reduceIte, Nat.reduceAdd, Nat.reduceSub, Nat.reduceEqDiff, Nat.reduceLeDiff, Nat.lt_irrefl, Nat.reduceLT, Int.cast_ofNat_Int, wq_c0, wq_c1, true_and, and_true, and_self, true_implies, forall_const, ne_eq, Decidable.not_not, not_true_eq_false, not_false_eq_true, List.map_nil, List.map_cons, List.sum_nil, List.sum_cons, List.length_cons, List.length_nil, Nat.le_refl, Nat.zero_le, reduceCtorEq, true_or, or_true, false_or, or_false, false_and, and_false, false_implies, Nat.zero_add, Nat.add_zero, l0, l1, fxs F, e0]
      simp (disch := omega) only [w32_of]
      refine ⟨by omega, 200 - (i + 1), by omega, i + 1, by omega, by omega, rfl, rfl, ?_⟩
      rw [map_up (by omega)]
      apply map_congr
      intro p hp
      unfold rsk
      by_cases hpb : p = b
      · subst hpb
        rw [if_pos rfl, if_pos ⟨b1, b2, by omega⟩, b3]
        unfold rsn
        rw [if_neg (by omega), b4, show (i : Int) - 1 = ((i - 1 : Nat) : Int) by omega, a4]
      · rw [if_neg hpb]
        by_cases h1 : p < sN S ∧ isP S p = true
        · have h2 : pb S p ≠ i := fun he => hpb (cn_inj h1.2 b2 (he.trans b3.symm))
          by_cases h3 : pb S p < i
          · rw [if_pos ⟨h1.1, h1.2, h3⟩, if_pos ⟨h1.1, h1.2, by omega⟩]
          · rw [if_neg (fun q => h3 q.2.2), if_neg (fun q => by have := q.2.2; omega)]
        · rw [if_neg (fun q => h1 ⟨q.1, q.2.1⟩), if_neg (fun q => h1 ⟨q.1, q.2.1⟩)]
end VM
