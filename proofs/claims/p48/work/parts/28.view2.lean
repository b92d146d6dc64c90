/-! View: the order by ids, refresh -/
theorem cn_sub {P Q : Int → Bool} : ∀ {n : Nat}, (∀ q : Nat, q < n → P q = true → Q q = true) → cn P n ≤ cn Q n
  | 0, _ => Int.le_refl _
  | n + 1, h => by
    have h1 := cn_sub (n := n) (P := P) (Q := Q) (fun q hq => h q (by omega))
    rw [cn_s, cn_s]
    by_cases hp : P n = true
    · rw [if_pos hp, if_pos (h n (by omega) hp)]; omega
    · rw [if_neg hp]
      split <;> omega
theorem cn_subl {P Q : Int → Bool} {r : Nat} : ∀ {n : Nat}, (∀ q : Nat, q < n → P q = true → Q q = true) → r < n → P r = false → Q r = true → cn P n < cn Q n
  | 0, _, h, _, _ => by omega
  | n + 1, h, hr, h1, h2 => by
    rw [cn_s, cn_s]
    by_cases hrn : r = n
    · subst hrn
      have h3 := cn_sub (n := r) (P := P) (Q := Q) (fun q hq => h q (by omega))
      rw [if_neg (by rw [h1]; decide), if_pos h2]; omega
    · have h3 := cn_subl (n := n) (fun q hq => h q (by omega)) (by omega) h1 h2
      by_cases hp : P n = true
      · rw [if_pos hp, if_pos (h n (by omega) hp)]; omega
      · rw [if_neg hp]
        split <;> omega
theorem cn_one {P Q : Int → Bool} {r : Nat} : ∀ {n : Nat}, (∀ q : Nat, q < n → q ≠ r → P q = Q q) → r < n → P r = true → Q r = false → cn P n = cn Q n + 1
  | 0, _, h, _, _ => by omega
  | n + 1, h, hr, h1, h2 => by
    rw [cn_s, cn_s]
    by_cases hrn : r = n
    · subst hrn
      rw [cn_congr (n := r) (P := P) (Q := Q) (fun q hq => h q (by omega) (by omega)), if_pos h1, if_neg (by rw [h2]; decide)]
      omega
    · rw [cn_one (n := n) (fun q hq => h q (by omega)) (by omega) h1 h2, h n (by omega) (fun e => hrn e.symm)]
      omega
section RK
variable {S : xSr} {nid : Int}
theorem rk_rng {k : Nat} {p : Int} : 0 ≤ rk S k p ∧ rk S k p ≤ k := cn_rng
theorem rk_s {k : Nat} {p : Int} : rk S (k + 1) p = rk S k p + if sI S k < sI S p then 1 else 0 := by
  unfold rk
  rw [cn_s]
  simp
theorem rk_lt {k p q : Nat} (hp : p < k) (h : sI S p < sI S q) : rk S k p < rk S k q :=
  cn_subl (r := p) (fun r hr h2 => by simp at h2 ⊢; omega) hp (by simp) (by simp [h])
theorem rk_le {k p q : Nat} (hq : q < k) (h : rk S k p ≤ rk S k q) : sI S p ≤ sI S q := by
  by_cases hc : sI S p ≤ sI S q
  · exact hc
  · have := rk_lt (S := S) hq (show sI S q < sI S p by omega)
    omega
theorem rk_ltk {k p : Nat} (hp : p < k) : rk S k p < k := by
  have := cn_subl (P := fun r => decide (sI S r < sI S p)) (Q := fun _ => true) (r := p) (n := k) (fun _ _ _ => rfl) hp (by simp) rfl
  have h2 := cn_rng (P := fun _ => true) (n := k)
  unfold rk
  omega
theorem rk_inj (w : wfS S nid) {k p q : Nat} (hk : k ≤ sN S) (hp : p < k) (hq : q < k) (h : rk S k p = rk S k q) : p = q :=
  w.inj (by omega) (by omega) (by have := rk_le (S := S) (p := p) hq (by omega); have := rk_le (S := S) (p := q) hp (by omega); omega)
end RK
section VM2
variable {M : xM} {h : xH} {Φ : xO → xM → xH → Prop} {S : xSr} {nid : Int}
set_option maxHeartbeats 1000000
def srJ (S : xSr) (k s : Nat) (M : xM) : Prop := (∀ j : Nat, j < s → ∃ p : Nat, p < k ∧ M 35 j = p ∧ rk S k p = j) ∧ ∀ j : Nat, s < j → j ≤ k → ∃ p : Nat, p < k ∧ M 35 j = p ∧ rk S k p = (j : Int) - 1 ∧ sI S k < sI S p
theorem sr_end (w : wfS S nid) {k s : Nat} {M : xM} (hk : k < sN S) (hs : s ≤ k) (J : srJ S k s M) (hx : s = 0 ∨ ∃ p : Nat, p < k ∧ M 35 ((s : Int) - 1) = p ∧ sI S p ≤ sI S k) : srI S (k + 1) (x_w M 35 s k) := by
  have hbig : ∀ q : Nat, q < k → (s : Int) ≤ rk S k q → sI S k < sI S q := fun q hq hr => by
    have := rk_rng (S := S) (k := k) (p := q)
    have hlt : rk S k q < k := by
      have := cn_subl (P := fun r => decide (sI S r < sI S q)) (Q := fun _ => true) (r := q) (n := k) (fun _ _ _ => rfl) hq (by simp) rfl
      have h2 := cn_rng (P := fun _ => true) (n := k)
      unfold rk
      omega
    obtain ⟨p, p1, p2, p3, p4⟩ := J.2 ((rk S k q).toNat + 1) (by omega) (by omega)
    have : p = q := rk_inj w (by omega) p1 hq (by omega)
    rw [← this]
    exact p4
  have hsm : ∀ q : Nat, q < k → rk S k q < s → sI S q < sI S k := fun q hq hr => by
    have hr0 := rk_rng (S := S) (k := k) (p := q)
    rcases hx with hx | ⟨p, p1, p2, p3⟩
    · omega
    · obtain ⟨p', q1, q2, q3⟩ := J.1 (s - 1) (by omega)
      have e : p' = p := by
        rw [show (s : Int) - 1 = ((s - 1 : Nat) : Int) by omega] at p2
        omega
      subst e
      have h1 := rk_le (S := S) (p := q) p1 (by omega)
      have h2 : sI S q ≠ sI S k := fun e => by have := w.inj (by omega) hk e; omega
      omega
  have hcount : rk S k k = s := by
    rcases hx with hx | ⟨p, p1, p2, p3⟩
    · subst hx
      unfold rk
      rw [cn_congr (Q := fun _ => false) (fun q hq => by
        have := hbig q hq (by have := rk_rng (S := S) (k := k) (p := q); omega)
        simp; omega)]
      have : ∀ n : Nat, cn (fun _ => false) n = 0 := fun n => by
        induction n with
        | zero => rfl
        | succ n ih => rw [cn_s0 rfl]; exact ih
      exact this k
    · obtain ⟨p', q1, q2, q3⟩ := J.1 (s - 1) (by
        by_cases h0 : s = 0
        · subst h0
          exfalso
          have := hbig p p1 (by have := rk_rng (S := S) (k := k) (p := p); omega)
          omega
        · omega)
      have hs0 : s ≠ 0 := fun h0 => by
        subst h0
        have := hbig p p1 (by have := rk_rng (S := S) (k := k) (p := p); omega)
        omega
      have e : p' = p := by
        rw [show (s : Int) - 1 = ((s - 1 : Nat) : Int) by omega] at p2
        omega
      subst e
      have h3 : rk S k k = rk S k p' + 1 := by
        unfold rk
        refine cn_one (r := p') (fun q hq hne => ?_) p1 ?_ ?_
        · by_cases hc : rk S k q < s
          · have h1 := hsm q hq hc
            have h2 := rk_le (S := S) (p := q) p1 (by omega)
            have h4 : sI S q ≠ sI S p' := fun e => hne (w.inj (by omega) (by omega) e)
            simp; omega
          · have h1 := hbig q hq (by omega)
            have h2 := hsm p' p1 (by omega)
            simp; omega
        · have := hsm p' p1 (by omega)
          simp [this]
        · simp
      omega
  intro j hj
  by_cases h1 : j < s
  · obtain ⟨p, p1, p2, p3⟩ := J.1 j h1
    have h2 := hsm p p1 (by omega)
    exact ⟨p, by omega, by rw [w_nj (by omega)]; exact p2, by rw [rk_s, if_neg (by omega)]; omega⟩
  · by_cases h2 : j = s
    · subst h2
      exact ⟨k, by omega, w_eq, by rw [rk_s, if_neg (by omega)]; omega⟩
    · obtain ⟨p, p1, p2, p3, p4⟩ := J.2 j (by omega) (by omega)
      exact ⟨p, by omega, by rw [w_nj (by omega)]; exact p2, by rw [rk_s, if_pos p4]; omega⟩
theorem cV_sortById (F : Fx h) (R : repC S M h 17) (w : wfS S nid) (k : ∀ M', (∀ a j, a ≠ 35 → M' a j = M a j) → srI S (sN S) M' → Φ (.inl none) M' h) : x_Cal zV_sortById [xA 16] M h Φ := by
  have hN := w.N
  refine x_metI kV_sortById (Nat.le_of_ble_eq_true rfl) (fun t m ls st M' h' c n => st = [] ∧ h' = h ∧ c = 0 ∧ n = 0 ∧ ls 0 = some (xA 16) ∧ (∀ a j, a ≠ 35 → M' a j = M a j) ∧ ∃ q : Nat, ls 1 = some (xI q) ∧ ((t = 2 ∧ q ≤ sN S ∧ m = (sN S - q) * 1000 ∧ srI S q M') ∨ (t = 15 ∧ q < sN S ∧ ∃ s : Nat, ls 2 = some (xI s) ∧ s ≤ q ∧ m = (sN S - q) * 1000 - 500 + s ∧ srJ S q s M'))) 20 ?_ ?_
  · simp only [wq_g3, wq_gc, wq_g, wq_g1, wq_g2, eV_sortById, iV_sortById_0, iV_sortById_2, iV_sortById_15, iV_sortById_67, iV_sortById_80, vV_sortById, wps, x_cnd, reduceIte, Nat.reduceAdd, Nat.reduceSub, Nat.reduceEqDiff, Nat.reduceLeDiff, Nat.lt_irrefl, Nat.reduceLT, Int.cast_ofNat_Int, wq_c0, wq_c1, true_and, and_true, and_self, true_implies, forall_const, ne_eq, Decidable.not_not, not_true_eq_false, not_false_eq_true, List.map_nil, List.map_cons, List.sum_nil, List.sum_cons, List.length_cons, List.length_nil, Nat.le_refl, Nat.zero_le, reduceCtorEq, true_or, or_true, false_or, or_false, false_and, and_false, false_implies, Nat.zero_add, Nat.add_zero, fxs F]
    exact ⟨_, fun a _ => trivial, 0, rfl, by omega, rfl, fun j hj => by omega⟩
  · rintro t m ls st M' h' c n ⟨rfl, rfl, rfl, rfl, l0, hfr, q, l1, ⟨rfl, q1, q2, q3⟩ | ⟨rfl, q1, s, l2, s1, s2, J⟩⟩
    · have e0 : M' 17 0 = sN S := (hfr _ _ (by decide)).trans R.n
      simp only [wq_g3, wq_gc, wq_g, wq_g1, wq_g2, eV_sortById, iV_sortById_0, iV_sortById_2, iV_sortById_15, iV_sortById_67, iV_sortById_80, vV_sortById, wps, x_cnd, reduceIte, Nat.reduceAdd, Nat.reduceSub, Nat.reduceEqDiff, Nat.reduceLeDiff, Nat.lt_irrefl, Nat.reduceLT, Int.cast_ofNat_Int, wq_c0, wq_c1, true_and, and_true, and_self, true_implies, forall_const, ne_eq, Decidable.not_not, not_true_eq_false, not_false_eq_true, List.map_nil, List.map_cons, List.sum_nil, List.sum_cons, List.length_cons, List.length_nil, Nat.le_refl, Nat.zero_le, reduceCtorEq, true_or, or_true, false_or, or_false, false_and, and_false, false_implies, Nat.zero_add, Nat.add_zero, l0, l1, fxs F, e0]
      refine ⟨fun c0 => ?_, fun c0 => ⟨(sN S - q) * 1000 - 500 + q, by omega, hfr, q, rfl, by omega, q, rfl, by omega, rfl, ⟨q3, fun j h1 h2 => by omega⟩⟩⟩
      have e : q = sN S := by omega
      subst e
      exact k M' hfr q3
    · have e0 : ∀ p : Nat, p < sN S → M' 18 p = sI S p := fun p hp => (hfr _ _ (by decide)).trans (R.id hp)
      have hfr2 : ∀ (i v : Int) (a : Nat) (j : Int), a ≠ 35 → x_w M' 35 i v a j = M a j := fun i v a j ha => (w_ne ha).trans (hfr a j ha)
      simp only [wq_g3, wq_gc, wq_g, wq_g1, wq_g2, eV_sortById, iV_sortById_0, iV_sortById_2, iV_sortById_15, iV_sortById_67, iV_sortById_80, vV_sortById, wps, x_cnd, reduceIte, Nat.reduceAdd, Nat.reduceSub, Nat.reduceEqDiff, Nat.reduceLeDiff, Nat.lt_irrefl, Nat.reduceLT, Int.cast_ofNat_Int, wq_c0, wq_c1, true_and, and_true, and_self, true_implies, forall_const, ne_eq, Decidable.not_not, not_true_eq_false, not_false_eq_true, List.map_nil, List.map_cons, List.sum_nil, List.sum_cons, List.length_cons, List.length_nil, Nat.le_refl, Nat.zero_le, reduceCtorEq, true_or, or_true, false_or, or_false, false_and, and_false, false_implies, Nat.zero_add, Nat.add_zero, l0, l1, l2, fxs F, e0 q q1]
      have hend : (s = 0 ∨ ∃ p : Nat, p < q ∧ M' 35 ((s : Int) - 1) = p ∧ sI S p ≤ sI S q) → (0 ≤ (s : Int) ∧ (s : Int) < 150) ∧ ∃ m2, m2 < m ∧ (∀ (a : Nat) (j : Int), ¬a = 35 → x_w M' 35 s q a j = M a j) ∧ ∃ q_1 : Nat, some (xI ((q : Int) + 1)) = some (xI q_1) ∧ q_1 ≤ sN S ∧ m2 = (sN S - q_1) * 1000 ∧ srI S q_1 (x_w M' 35 s q) := fun hx =>
        ⟨by omega, (sN S - (q + 1)) * 1000, by omega, hfr2 _ _, q + 1, rfl, by omega, rfl, sr_end w q1 s1 J hx⟩
      simp (disch := omega) only [w32_of]
      refine ⟨fun c0 => hend (Or.inl (by omega)), fun c0 => ?_⟩
      obtain ⟨p, p1, p2, p3⟩ := J.1 (s - 1) (by omega)
      rw [show ((s - 1 : Nat) : Int) = (s : Int) - 1 by omega] at p2
      rw [p2, e0 p (by omega)]
      refine ⟨by omega, by omega, by omega, fun c1 => hend (Or.inr ⟨p, p1, p2, by omega⟩), fun c1 => ?_⟩
      refine ⟨by omega, by omega, (sN S - q) * 1000 - 500 + (s - 1), by omega, hfr2 _ _, q, rfl, q1, s - 1, by rw [show ((s - 1 : Nat) : Int) = (s : Int) + -1 by omega], by omega, rfl, fun j hj => ?_, fun j h1 h2 => ?_⟩
      · rw [w_nj (by omega)]
        exact J.1 j (by omega)
      · by_cases hjs : j = s
        · subst hjs
          exact ⟨p, p1, w_eq, by omega, by omega⟩
        · rw [w_nj (by omega)]
          exact J.2 j (by omega) h2
theorem cV_refresh (F : Fx h) (R : repC S M h 17) (w : wfS S nid) (k : ∀ M', (∀ a j, ¬ ((28 ≤ a ∧ a ≤ 35) ∨ (a = 16 ∧ j = 1)) → M' a j = M a j) → VR S M' → Φ (.inl none) M' h) : x_Cal zV_refresh [xA 16] M h Φ := by
  have hN := w.N
  have hpn := pN_rng (S := S)
  refine x_met0 kV_refresh (Nat.le_of_ble_eq_true rfl) ?_
  simp only [wq_g3, wq_gc, wq_g, wq_g1, wq_g2, eV_refresh, iV_refresh_0, vV_refresh, wps, x_cnd, reduceIte, Nat.reduceAdd, Nat.reduceSub, Nat.reduceEqDiff, Nat.reduceLeDiff, Nat.lt_irrefl, Nat.reduceLT, Int.cast_ofNat_Int, wq_c0, wq_c1, true_and, and_true, and_self, true_implies, forall_const, ne_eq, Decidable.not_not, not_true_eq_false, not_false_eq_true, List.map_nil, List.map_cons, List.sum_nil, List.sum_cons, List.length_cons, List.length_nil, Nat.le_refl, Nat.zero_le, reduceCtorEq, true_or, or_true, false_or, or_false, false_and, and_false, false_implies, Nat.zero_add, Nat.add_zero, fxs F]
  refine cV_findLabels F R w ?_
  simp only [wq_g3, wq_gc, wq_g, wq_g1, wq_g2, eV_refresh, iV_refresh_0, vV_refresh, wps, x_cnd, reduceIte, Nat.reduceAdd, Nat.reduceSub, Nat.reduceEqDiff, Nat.reduceLeDiff, Nat.lt_irrefl, Nat.reduceLT, Int.cast_ofNat_Int, wq_c0, wq_c1, true_and, and_true, and_self, true_implies, forall_const, ne_eq, Decidable.not_not, not_true_eq_false, not_false_eq_true, List.map_nil, List.map_cons, List.sum_nil, List.sum_cons, List.length_cons, List.length_nil, Nat.le_refl, Nat.zero_le, reduceCtorEq, true_or, or_true, false_or, or_false, false_and, and_false, false_implies, Nat.zero_add, Nat.add_zero, fxs F]
  refine cV_countCovers F (R.frame (fun a j ha => map_ne (by omega))) w ?_
  simp only [wq_g3, wq_gc, wq_g, wq_g1, wq_g2, eV_refresh, iV_refresh_0, vV_refresh, wps, x_cnd, reduceIte, Nat.reduceAdd, Nat.reduceSub, Nat.reduceEqDiff, Nat.reduceLeDiff, Nat.lt_irrefl, Nat.reduceLT, Int.cast_ofNat_Int, wq_c0, wq_c1, true_and, and_true, and_self, true_implies, forall_const, ne_eq, Decidable.not_not, not_true_eq_false, not_false_eq_true, List.map_nil, List.map_cons, List.sum_nil, List.sum_cons, List.length_cons, List.length_nil, Nat.le_refl, Nat.zero_le, reduceCtorEq, true_or, or_true, false_or, or_false, false_and, and_false, false_implies, Nat.zero_add, Nat.add_zero, fxs F]
  refine cV_listPlayed F ((R.frame (fun a j ha => map_ne (by omega))).frame (fun a j ha => map_ne (by omega))) w (fun p hp => map_at (f := fun p => cov S p) (by omega)) ?_
  simp only [wq_g3, wq_gc, wq_g, wq_g1, wq_g2, eV_refresh, iV_refresh_0, vV_refresh, wps, x_cnd, reduceIte, Nat.reduceAdd, Nat.reduceSub, Nat.reduceEqDiff, Nat.reduceLeDiff, Nat.lt_irrefl, Nat.reduceLT, Int.cast_ofNat_Int, wq_c0, wq_c1, true_and, and_true, and_self, true_implies, forall_const, ne_eq, Decidable.not_not, not_true_eq_false, not_false_eq_true, List.map_nil, List.map_cons, List.sum_nil, List.sum_cons, List.length_cons, List.length_nil, Nat.le_refl, Nat.zero_le, reduceCtorEq, true_or, or_true, false_or, or_false, false_and, and_false, false_implies, Nat.zero_add, Nat.add_zero, fxs F]
  refine cV_seatMarks F (R.frame (fun a j ha => by rw [w_ne (by omega), map_ne (by omega), map_ne (by omega), map_ne (by omega), map_ne (by omega)])) w ?_
  simp only [wq_g3, wq_gc, wq_g, wq_g1, wq_g2, eV_refresh, iV_refresh_0, vV_refresh, wps, x_cnd, reduceIte, Nat.reduceAdd, Nat.reduceSub, Nat.reduceEqDiff, Nat.reduceLeDiff, Nat.lt_irrefl, Nat.reduceLT, Int.cast_ofNat_Int, wq_c0, wq_c1, true_and, and_true, and_self, true_implies, forall_const, ne_eq, Decidable.not_not, not_true_eq_false, not_false_eq_true, List.map_nil, List.map_cons, List.sum_nil, List.sum_cons, List.length_cons, List.length_nil, Nat.le_refl, Nat.zero_le, reduceCtorEq, true_or, or_true, false_or, or_false, false_and, and_false, false_implies, Nat.zero_add, Nat.add_zero, fxs F]
  have P3 : VP S (x_w (x_map (x_map (x_map (x_map M 30 (sN S) (lab S)) 31 150 fun p => cov S p) 29 (sN S) fun p => pb S p) 28 (pN S) fun j => pp S j) 16 1 (pN S)) :=
    ⟨w_eq, fun p hp => by rw [w_ne (by decide), map_ne (by decide), map_at (f := fun p => pb S p) (by omega)], fun j hj => by rw [w_ne (by decide), map_at (f := fun j => pp S j) hj]⟩
  have P4 := P3.frame (M' := x_map (x_w (x_map (x_map (x_map (x_map M 30 (sN S) (lab S)) 31 150 fun p => cov S p) 29 (sN S) fun p => pb S p) 28 (pN S) fun j => pp S j) 16 1 (pN S)) 32 150 fun p => sit S p) (fun a j ha => map_ne (by omega))
  refine cV_showLetters F (R.frame (fun a j ha => by rw [map_ne (by omega), w_ne (by omega), map_ne (by omega), map_ne (by omega), map_ne (by omega), map_ne (by omega)])) w P4 (fun p hp => map_at (f := fun p => sit S p) (by omega)) ?_
  simp only [wq_g3, wq_gc, wq_g, wq_g1, wq_g2, eV_refresh, iV_refresh_0, vV_refresh, wps, x_cnd, reduceIte, Nat.reduceAdd, Nat.reduceSub, Nat.reduceEqDiff, Nat.reduceLeDiff, Nat.lt_irrefl, Nat.reduceLT, Int.cast_ofNat_Int, wq_c0, wq_c1, true_and, and_true, and_self, true_implies, forall_const, ne_eq, Decidable.not_not, not_true_eq_false, not_false_eq_true, List.map_nil, List.map_cons, List.sum_nil, List.sum_cons, List.length_cons, List.length_nil, Nat.le_refl, Nat.zero_le, reduceCtorEq, true_or, or_true, false_or, or_false, false_and, and_false, false_implies, Nat.zero_add, Nat.add_zero, fxs F]
  refine cV_findReasons F (R.frame (fun a j ha => by rw [map_ne (by omega), map_ne (by omega), w_ne (by omega), map_ne (by omega), map_ne (by omega), map_ne (by omega), map_ne (by omega)])) w (P4.frame (fun a j ha => map_ne (by omega))) (fun p hp => map_at (f := fun p => lt S p) (by omega)) ?_
  simp only [wq_g3, wq_gc, wq_g, wq_g1, wq_g2, eV_refresh, iV_refresh_0, vV_refresh, wps, x_cnd, reduceIte, Nat.reduceAdd, Nat.reduceSub, Nat.reduceEqDiff, Nat.reduceLeDiff, Nat.lt_irrefl, Nat.reduceLT, Int.cast_ofNat_Int, wq_c0, wq_c1, true_and, and_true, and_self, true_implies, forall_const, ne_eq, Decidable.not_not, not_true_eq_false, not_false_eq_true, List.map_nil, List.map_cons, List.sum_nil, List.sum_cons, List.length_cons, List.length_nil, Nat.le_refl, Nat.zero_le, reduceCtorEq, true_or, or_true, false_or, or_false, false_and, and_false, false_implies, Nat.zero_add, Nat.add_zero, fxs F]
  refine cV_sortById F (R.frame (fun a j ha => by rw [map_ne (by omega), map_ne (by omega), map_ne (by omega), w_ne (by omega), map_ne (by omega), map_ne (by omega), map_ne (by omega), map_ne (by omega)])) w ?_
  intro M' hfr hs
  simp only [wq_g3, wq_gc, wq_g, wq_g1, wq_g2, eV_refresh, iV_refresh_0, vV_refresh, wps, x_cnd, reduceIte, Nat.reduceAdd, Nat.reduceSub, Nat.reduceEqDiff, Nat.reduceLeDiff, Nat.lt_irrefl, Nat.reduceLT, Int.cast_ofNat_Int, wq_c0, wq_c1, true_and, and_true, and_self, true_implies, forall_const, ne_eq, Decidable.not_not, not_true_eq_false, not_false_eq_true, List.map_nil, List.map_cons, List.sum_nil, List.sum_cons, List.length_cons, List.length_nil, Nat.le_refl, Nat.zero_le, reduceCtorEq, true_or, or_true, false_or, or_false, false_and, and_false, false_implies, Nat.zero_add, Nat.add_zero, fxs F]
  refine k M' (fun a j ha => ?_) ⟨?_, fun p hp => ⟨?_, ?_, ?_, ?_, ?_⟩, fun j hj => ⟨?_, ?_⟩, hs⟩
  · rw [hfr _ _ (by omega), map_ne (by omega), map_ne (by omega), map_ne (by omega)]
    by_cases h16 : a = 16
    · rw [h16, w_nj (by omega), map_ne (by omega), map_ne (by omega), map_ne (by omega), map_ne (by omega)]
    · rw [w_ne (by omega), map_ne (by omega), map_ne (by omega), map_ne (by omega), map_ne (by omega)]
  · rw [hfr _ _ (by decide), map_ne (by decide), map_ne (by decide), map_ne (by decide), w_eq]
  · rw [hfr _ _ (by decide), map_ne (by decide), map_ne (by decide), map_ne (by decide), w_ne (by decide), map_ne (by decide), map_at (f := fun p => pb S p) (by omega)]
  · rw [hfr _ _ (by decide), map_ne (by decide), map_ne (by decide), map_ne (by decide), w_ne (by decide), map_ne (by decide), map_ne (by decide), map_ne (by decide), map_at (by omega)]
  · rw [hfr _ _ (by decide), map_ne (by decide), map_ne (by decide), map_ne (by decide), w_ne (by decide), map_ne (by decide), map_ne (by decide), map_at (f := fun p => cov S p) (by omega)]
  · rw [hfr _ _ (by decide), map_ne (by decide), map_ne (by decide), map_at (f := fun p => sit S p) (by omega)]
  · rw [hfr _ _ (by decide), map_ne (by decide), map_at (f := fun p => lt S p) (by omega)]
  · rw [hfr _ _ (by decide), map_ne (by decide), map_ne (by decide), map_ne (by decide), w_ne (by decide), map_at (f := fun j => pp S j) hj]
  · obtain ⟨p, p1, p2, p3, p4⟩ := pp_some (S := S) (k := (j : Int)) (by omega) hj
    rw [hfr _ _ (by decide), p4, map_at (by omega)]
    unfold rsk
    rw [if_pos ⟨p1, p2, by omega⟩, p3]
end VM2
