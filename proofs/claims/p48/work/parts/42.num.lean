/-! renumber and reletter -/
def numS (S : xSr) : xSr := (sN S, sP S, sI S, sB S, (fun _ => 0), sT S, sD S, sC S, sM S, sF S, sL S, sQ S, sR S)
def otN (S : xSr) : Int → Bool := fun p => lab S p.toNat != 1000 * (p + 1)
def dNum (A : xAb) : xAn × xAb := (.inl (cn (otN (aS A)) (sN (aS A))), aKeep A (numS (aS A)) (aI A))
def rl (S : xSr) : Nat → Int
  | 0 => 0
  | p + 1 => if sit S p ≠ 0 ∧ rl S p < 40 then rl S p + 1 else rl S p
def reM (S : xSr) : Nat → Int → Int
  | 0 => fun _ => -1
  | p + 1 => if sit S p ≠ 0 ∧ rl S p < 40 then up (rl S p + 1) (sI S p) (reM S p) else reM S p
def ro (S : xSr) : Nat → Int
  | 0 => 0
  | p + 1 => if sit S p ≠ 0 ∧ rl S p < 40 then ro S p + (if sit S p = rl S p + 1 then 0 else 1) else ro S p
def letS (S : xSr) : xSr := (sN S, sP S, sI S, sB S, sX S, sT S, sD S, sC S, reM S (sN S), sF S, sL S, sQ S, sR S)
def dLet (A : xAb) : xAn × xAb := (.inl (ro (aS A) (sN (aS A))), aKeep A (letS (aS A)) (aI A))
section NUM
variable {A : xAb} {M : xM} {h : xH} {Φ : xO → xM → xH → Prop} {S : xSr} {nid : Int}
set_option maxHeartbeats 1000000
theorem repC.numS (R : repC S M h 17) : repC (numS S) (x_fl M 20 0 (sN S)) h 17 := by
  obtain ⟨a1, b1, c1, d1, e1, f1⟩ := R
  refine ⟨a1, ⟨?_, ?_, ?_⟩, fun q hq => ?_, fun l h1 h2 => ?_, fun k h1 => ?_, fun part h6 => ?_⟩
  · rw [fl_ne (by omega)]
    exact b1.1
  · rw [fl_ne (by omega)]
    exact b1.2.1
  · rw [fl_ne (by omega)]
    exact b1.2.2
  · obtain ⟨g1, g2, g3, g4, g5, g6⟩ := c1 q hq
    replace hq : q < sN S := hq
    exact ⟨by rw [fl_ne (by omega)]; exact g1, by rw [fl_ne (by omega)]; exact g2, if_pos ⟨rfl, by omega, by omega⟩, by rw [fl_ne (by omega)]; exact g4, by rw [fl_ne (by omega)]; exact g5, fun k h6 => by rw [fl_ne (by omega)]; exact g6 k h6⟩
  · rw [fl_ne (by omega)]
    exact d1 l h1 h2
  · rw [fl_ne (by omega), fl_ne (by omega)]
    exact e1 k h1
  · rcases f1 part h6 with z | ⟨z1, z2⟩
    · exact Or.inl z
    · exact Or.inr ⟨z1, z2.frame (fun a j ha => by rw [fl_ne (by omega)])⟩
theorem wfS.numS (W : wfS S nid) : wfS (numS S) nid := by
  refine ⟨W.1, fun q hq => ?_, W.2.2.1, W.2.2.2.1, W.2.2.2.2.1, W.m20, W.2.2.2.2.2.2.1, W.2.2.2.2.2.2.2.1, W.2.2.2.2.2.2.2.2.1, W.2.2.2.2.2.2.2.2.2⟩
  obtain ⟨g1, g2, g3, g4⟩ := W.2.1 q hq
  exact ⟨g1, g2, Or.inl rfl, g4⟩
theorem fl_step {a p : Nat} {v : Int} : x_w (x_fl M a v p) a p v = x_fl M a v (p + 1 : Nat) := by
  funext b j
  unfold x_w x_fl
  split
  · rename_i hc
    rw [if_pos (by omega)]
  · by_cases hz : b = a ∧ 0 ≤ j ∧ j < p
    · rw [if_pos hz, if_pos (by omega)]
    · rw [if_neg hz, if_neg (by omega)]
theorem fl_z {a : Nat} {v : Int} : x_fl M a v 0 = M := by
  funext b j
  unfold x_fl
  rw [if_neg (by omega)]
theorem cP_renumber (C : CW A M h) (k : ∀ M' h', CW (dNum A).2 M' h' → Fr M h M' h' → Φ (xo (dNum A).1) M' h') : x_Cal zP_renumber [xA 1] M h Φ := by
  have hN := C.w.N
  refine x_metI kP_renumber (Nat.le_of_ble_eq_true rfl) (fun t m ls st M' h' c n => t = 15 ∧ st = [] ∧ c ≤ 11 ∧ n ≤ 1730 ∧ ls 0 = some (xA 1) ∧ ∃ p : Nat, p ≤ sN (aS A) ∧ m = sN (aS A) - p ∧ ls 2 = some (xI p) ∧ ls 1 = some (xI (cn (otN (aS A)) p)) ∧ ∃ M1, PW (aKeep A (aS A) (aI A)) M1 h' ∧ repC (aS A) M1 h' 17 ∧ (∀ a j, a < 42 → a ≠ 37 → M1 a j = M a j) ∧ hn h ≤ hn h' ∧ M' = x_fl M1 20 0 p) 20 ?_ ?_
  · simp only [wq_g3, wq_gc, wq_g, wq_g1, wq_g2, eP_renumber, iP_renumber_0, iP_renumber_15, iP_renumber_60, iP_renumber_61, iP_renumber_69, vP_renumber, wps, x_cnd, reduceIte, Nat.reduceAdd, Nat.reduceSub, Nat.reduceEqDiff, Nat.reduceLeDiff, Nat.lt_irrefl, Nat.reduceLT, Int.cast_ofNat_Int, wq_c0, wq_c1, true_and, and_true, and_self, true_implies, forall_const, ne_eq, Decidable.not_not, not_true_eq_false, not_false_eq_true, List.map_nil, List.map_cons, List.sum_nil, List.sum_cons, List.length_cons, List.length_nil, Nat.le_refl, Nat.zero_le, reduceCtorEq, true_or, or_true, false_or, or_false, false_and, and_false, false_implies, Nat.zero_add, Nat.add_zero, Int.reduceEq, Int.reduceNe, Int.reduceLT, Int.reduceLE, Int.reduceNeg, Int.reduceToNat, Nat.not_lt_zero, Int.reduceAdd, fxs C.F]
    refine chg_keep C (fun M1 h1 P1 R1 f1 f2 => ?_)
    simp only [wq_g3, wq_gc, wq_g, wq_g1, wq_g2, eP_renumber, iP_renumber_0, iP_renumber_15, iP_renumber_60, iP_renumber_61, iP_renumber_69, vP_renumber, wps, x_cnd, reduceIte, Nat.reduceAdd, Nat.reduceSub, Nat.reduceEqDiff, Nat.reduceLeDiff, Nat.lt_irrefl, Nat.reduceLT, Int.cast_ofNat_Int, wq_c0, wq_c1, true_and, and_true, and_self, true_implies, forall_const, ne_eq, Decidable.not_not, not_true_eq_false, not_false_eq_true, List.map_nil, List.map_cons, List.sum_nil, List.sum_cons, List.length_cons, List.length_nil, Nat.le_refl, Nat.zero_le, reduceCtorEq, true_or, or_true, false_or, or_false, false_and, and_false, false_implies, Nat.zero_add, Nat.add_zero, Int.reduceEq, Int.reduceNe, Int.reduceLT, Int.reduceLE, Int.reduceNeg, Int.reduceToNat, Nat.not_lt_zero, Int.reduceAdd]
    exact ⟨_, 0, by omega, rfl, rfl, rfl, M1, P1, R1, f1, f2, fl_z.symm⟩
  · rintro t m ls st M' h' c n ⟨rfl, rfl, hc, hn0, l0, p, q1, q2, l2, l1, M1, P1, R1, f1, f2, rfl⟩
    have e0 : x_fl M1 20 0 p 17 0 = sN (aS A) := (fl_ne (by omega)).trans R1.n
    simp only [wq_g3, wq_gc, wq_g, wq_g1, wq_g2, eP_renumber, iP_renumber_0, iP_renumber_15, iP_renumber_60, iP_renumber_61, iP_renumber_69, vP_renumber, wps, x_cnd, reduceIte, Nat.reduceAdd, Nat.reduceSub, Nat.reduceEqDiff, Nat.reduceLeDiff, Nat.lt_irrefl, Nat.reduceLT, Int.cast_ofNat_Int, wq_c0, wq_c1, true_and, and_true, and_self, true_implies, forall_const, ne_eq, Decidable.not_not, not_true_eq_false, not_false_eq_true, List.map_nil, List.map_cons, List.sum_nil, List.sum_cons, List.length_cons, List.length_nil, Nat.le_refl, Nat.zero_le, reduceCtorEq, true_or, or_true, false_or, or_false, false_and, and_false, false_implies, Nat.zero_add, Nat.add_zero, Int.reduceEq, Int.reduceNe, Int.reduceLT, Int.reduceLE, Int.reduceNeg, Int.reduceToNat, Nat.not_lt_zero, Int.reduceAdd, fxs P1.F, e0, l0, l1, l2, hc, hn0]
    refine ⟨fun c0 => ?_, fun c0 => ⟨by omega, by omega, ?_⟩⟩
    · have hp : p = sN (aS A) := by omega
      subst hp
      refine chg_ref (A := aKeep A (numS (aS A)) (aI A)) (P1.frame (fun a j ha => ?_)) R1.numS C.w.numS (fun M3 C3 f3 => ?_)
      · rw [fl_ne (by omega)]
      · simp only [wq_g3, wq_gc, wq_g, wq_g1, wq_g2, eP_renumber, iP_renumber_0, iP_renumber_15, iP_renumber_60, iP_renumber_61, iP_renumber_69, vP_renumber, wps, x_cnd, reduceIte, Nat.reduceAdd, Nat.reduceSub, Nat.reduceEqDiff, Nat.reduceLeDiff, Nat.lt_irrefl, Nat.reduceLT, Int.cast_ofNat_Int, wq_c0, wq_c1, true_and, and_true, and_self, true_implies, forall_const, ne_eq, Decidable.not_not, not_true_eq_false, not_false_eq_true, List.map_nil, List.map_cons, List.sum_nil, List.sum_cons, List.length_cons, List.length_nil, Nat.le_refl, Nat.zero_le, reduceCtorEq, true_or, or_true, false_or, or_false, false_and, and_false, false_implies, Nat.zero_add, Nat.add_zero, Int.reduceEq, Int.reduceNe, Int.reduceLT, Int.reduceLE, Int.reduceNeg, Int.reduceToNat, Nat.not_lt_zero, Int.reduceAdd, l0, l1, l2]
        refine k M3 h' C3 ⟨fun a j z1 z2 => ?_, f2⟩
        rw [f3 a j (by omega), fl_ne (by omega), f1 a j z2 (by omega)]
    · have e1 : x_w (x_fl M1 20 0 p) 20 p 0 30 p = lab (aS A) p := by
        rw [w_ne (by omega), fl_ne (by omega), f1 _ _ (by omega) (by omega)]
        exact C.V.lab (by omega)
      have hcn := cn_rng (P := otN (aS A)) (n := p)
      rw [e1]
      simp (disch := omega) only [w32_of]
      refine ⟨fun c1 => ?_, fun c1 => ?_⟩
      · have hP : otN (aS A) p = true := by
          show (lab (aS A) p != 1000 * ((p : Int) + 1)) = true
          simp
          exact c1
        exact ⟨sN (aS A) - (p + 1), by omega, p + 1, by omega, rfl, rfl, by rw [cn_s1 hP], M1, P1, R1, f1, f2, fl_step⟩
      · have hP : otN (aS A) p = false := by
          show (lab (aS A) p != 1000 * ((p : Int) + 1)) = false
          simp
          exact c1
        exact ⟨sN (aS A) - (p + 1), by omega, p + 1, by omega, rfl, rfl, by rw [cn_s0 hP, Int.add_zero], M1, P1, R1, f1, f2, fl_step⟩
-- the letters
theorem rl_s1 {p : Nat} (h : sit S p ≠ 0 ∧ rl S p < 40) : rl S (p + 1) = rl S p + 1 ∧ reM S (p + 1) = up (rl S p + 1) (sI S p) (reM S p) ∧ ro S (p + 1) = ro S p + (if sit S p = rl S p + 1 then 0 else 1) := ⟨if_pos h, if_pos h, if_pos h⟩
theorem rl_s0 {p : Nat} (h : ¬ (sit S p ≠ 0 ∧ rl S p < 40)) : rl S (p + 1) = rl S p ∧ reM S (p + 1) = reM S p ∧ ro S (p + 1) = ro S p := ⟨if_neg h, if_neg h, if_neg h⟩
theorem rl_rng : ∀ {p : Nat}, 0 ≤ rl S p ∧ rl S p ≤ 40 ∧ rl S p ≤ p
  | 0 => ⟨Int.le_refl _, by show (0 : Int) ≤ 40; omega, Int.le_refl _⟩
  | p + 1 => by
    have := rl_rng (p := p)
    by_cases h : sit S p ≠ 0 ∧ rl S p < 40
    · rw [(rl_s1 h).1]
      omega
    · rw [(rl_s0 h).1]
      omega
theorem ro_rng : ∀ {p : Nat}, 0 ≤ ro S p ∧ ro S p ≤ p
  | 0 => ⟨Int.le_refl _, Int.le_refl _⟩
  | p + 1 => by
    have := ro_rng (p := p)
    by_cases h : sit S p ≠ 0 ∧ rl S p < 40
    · rw [(rl_s1 h).2.2]
      split <;> omega
    · rw [(rl_s0 h).2.2]
      omega
theorem reM_at (w : wfS S nid) : ∀ {p : Nat}, p ≤ sN S → ∀ l : Int, (l ≤ 0 ∨ rl S p < l → reM S p l = -1) ∧ (1 ≤ l → l ≤ rl S p → ∃ q : Nat, q < p ∧ sI S q = reM S p l) ∧ ∀ k : Int, 1 ≤ k → k ≤ rl S p → 1 ≤ l → l ≤ rl S p → reM S p l = reM S p k → l = k
  | 0, _, l => ⟨fun _ => rfl, fun h1 h2 => by replace h2 : l ≤ 0 := h2; omega, fun k h1 h2 => by replace h2 : k ≤ 0 := h2; omega⟩
  | p + 1, hp, l => by
    obtain ⟨i1, i2, i3⟩ := reM_at w (p := p) (by omega) l
    by_cases h : sit S p ≠ 0 ∧ rl S p < 40
    · have hr := rl_rng (S := S) (p := p)
      obtain ⟨e1, e2, -⟩ := rl_s1 h
      rw [e1, e2]
      refine ⟨fun h1 => ?_, fun h1 h2 => ?_, fun k h1 h2 h3 h4 he => ?_⟩
      · rw [up_2 (by omega)]
        exact i1 (by omega)
      · by_cases hl : l = rl S p + 1
        · subst hl
          exact ⟨p, by omega, up_1.symm⟩
        · obtain ⟨q, q1, q2⟩ := i2 h1 (by omega)
          exact ⟨q, by omega, by rw [up_2 hl]; exact q2⟩
      · by_cases hl : l = rl S p + 1
        · by_cases hk : k = rl S p + 1
          · omega
          · obtain ⟨-, j2, -⟩ := reM_at w (p := p) (by omega) k
            obtain ⟨q, q1, q2⟩ := j2 h1 (by omega)
            rw [hl, up_1, up_2 hk, ← q2] at he
            have := w.inj (by omega) (by omega) he
            omega
        · obtain ⟨q, q1, q2⟩ := i2 h3 (by omega)
          by_cases hk : k = rl S p + 1
          · rw [hk, up_1, up_2 hl, ← q2] at he
            have := w.inj (by omega) (by omega) he
            omega
          · rw [up_2 hl, up_2 hk] at he
            exact i3 k h1 (by omega) h3 (by omega) he
    · obtain ⟨e1, e2, -⟩ := rl_s0 h
      rw [e1, e2]
      exact ⟨i1, fun h1 h2 => (i2 h1 h2).imp (fun q hq => ⟨by omega, hq.2⟩), i3⟩
theorem mk_re (w : wfS S nid) : ∀ {p : Nat}, p ≤ sN S → cn (fun l => reM S p (l + 1) != -1) 40 = rl S p
  | 0, _ => by
    show cn (fun l => (fun _ : Int => (-1 : Int)) (l + 1) != -1) 40 = 0
    rfl
  | p + 1, hp => by
    have ih := mk_re w (p := p) (by omega)
    by_cases h : sit S p ≠ 0 ∧ rl S p < 40
    · have hr := rl_rng (S := S) (p := p)
      obtain ⟨e1, e2, -⟩ := rl_s1 h
      obtain ⟨r, hr2⟩ : ∃ r : Nat, rl S p = r := ⟨(rl S p).toNat, by omega⟩
      have hid := w.id (p := p) (by omega)
      have e3 : reM S p ((r : Int) + 1) = -1 := (reM_at w (p := p) (by omega) ((r : Int) + 1)).1 (by omega)
      rw [e1, e2, hr2, cn_up (P := fun l => reM S p (l + 1) != -1) (r := r) (by omega) (fun q _ hq => by
        show (up ((r : Int) + 1) (sI S p) (reM S p) ((q : Int) + 1) != -1) = _
        rw [up_2 (by omega)]), ih, hr2, up_1, e3]
      have e4 : (sI S p != -1) = true := by simp; omega
      rw [e4]
      simp
    · obtain ⟨e1, e2, -⟩ := rl_s0 h
      rw [e1, e2]
      exact ih
theorem mk_sit (w : wfS S nid) : ∀ {p : Nat}, p ≤ sN S → cn (fun q => sit S q != 0) p = cn (fun l => sM S (l + 1) != -1 && decide (pl S (sM S (l + 1)) < p)) 40
  | 0, _ => by
    rw [cn_z]
    refine Eq.trans (b := cn (fun _ => false) 40) rfl (cn_congr (fun q hq => ?_)).symm
    by_cases h : sM S ((q : Int) + 1) = -1
    · simp [h]
    · obtain ⟨p, p1, p2, p3⟩ := w.mkp (l := q + 1) (by omega) (by omega) h
      have p4 : pl S (sM S ((q : Int) + 1)) = p := p3
      simp [p4]
  | p + 1, hp => by
    have ih := mk_sit w (p := p) (by omega)
    have hrg := sit_rng (S := S) (p := (p : Int))
    by_cases h : sit S p = 0
    · rw [cn_s0 (by simp [h]), ih]
      refine cn_congr (fun q hq => ?_)
      by_cases hz : sM S ((q : Int) + 1) = -1
      · simp [hz]
      · obtain ⟨r, p1, p2, p3⟩ := w.mkp (l := q + 1) (by omega) (by omega) hz
        have p4 : pl S (sM S ((q : Int) + 1)) = r := p3
        have hne : r ≠ p := by
          rintro rfl
          exact (sit_0 w p1).mp h (q + 1) (by omega) (by omega) p2.symm
        rw [p4]
        congr 1
        simp
        omega
    · obtain ⟨l, hl⟩ : ∃ l : Nat, sit S p = ((l + 1 : Nat) : Int) := ⟨(sit S p - 1).toNat, by omega⟩
      have hm := (sit_iff w (p := p) (l := l + 1) (by omega) (by omega) (by omega)).mp hl
      have hm' : sM S ((l : Int) + 1) = sI S p := hm
      have hid := w.id (p := p) (by omega)
      have e9 := fun hx => cn_up (P := fun l => sM S (l + 1) != -1 && decide (pl S (sM S (l + 1)) < p)) (Q := fun l => sM S (l + 1) != -1 && decide (pl S (sM S (l + 1)) < ((p + 1 : Nat) : Int))) (r := l) (n := 40) (by omega) hx
      rw [cn_s1 (by simp; exact h), ih, e9 (fun q hq hne => ?_)]
      · skip
        have e2 : pl S (sI S p) = p := pl_at w (by omega)
        have e4 : (sI S p != -1) = true := by simp; omega
        simp only [hm', e2, e4]
        simp
        omega
      · skip
        by_cases hz : sM S ((q : Int) + 1) = -1
        · simp [hz]
        · obtain ⟨r, p1, p2, p3⟩ := w.mkp (l := q + 1) (by omega) (by omega) hz
          have p4 : pl S (sM S ((q : Int) + 1)) = r := p3
          have hner : r ≠ p := by
            rintro rfl
            have := w.mi (l := l + 1) (k := q + 1) (by omega) (by omega) (by omega) (by omega) (by rw [hm]; omega) (hm.trans p2)
            omega
          rw [p4]
          congr 1
          simp
          omega
theorem mk_N (w : wfS S nid) : cn (fun q => sit S q != 0) (sN S) = mkN S := by
  rw [mk_sit w (Nat.le_refl (sN S))]
  refine cn_congr (fun q hq => ?_)
  have := pl_rng (S := S) (x := sM S ((q : Int) + 1))
  show _ = (sM S ((q : Int) + 1) != -1)
  rw [show decide (pl S (sM S ((q : Int) + 1)) < (sN S : Int)) = true by simp; omega, Bool.and_true]
theorem rl_cn (w : wfS S nid) : ∀ {p : Nat}, p ≤ sN S → rl S p = cn (fun q => sit S q != 0) p
  | 0, _ => rfl
  | p + 1, hp => by
    have ih := rl_cn w (p := p) (by omega)
    have h1 := cn_mono (P := fun q => sit S q != 0) (m := p) (n := sN S) (by omega)
    have h2 := mk_N w
    have h3 := w.m20
    by_cases h : sit S p = 0
    · rw [(rl_s0 (by omega)).1, cn_s0 (by simp [h]), ih]
    · rw [(rl_s1 (by omega)).1, cn_s1 (by simp; exact h), ih]
theorem letS_N (w : wfS S nid) : mkN (letS S) = mkN S := by
  have h1 := mk_re w (Nat.le_refl (sN S))
  have h2 := rl_cn w (Nat.le_refl (sN S))
  have h3 := mk_N w
  show cn (fun l => reM S (sN S) (l + 1) != -1) 40 = _
  rw [h1, h2, h3]
theorem wfS.letS (w : wfS S nid) : wfS (letS S) nid := by
  have hr := rl_rng (S := S) (p := sN S)
  refine ⟨w.1, w.2.1, w.2.2.1, fun l h1 h2 => ?_, fun l k h1 h2 h3 h4 h5 h6 => ?_, by rw [letS_N w]; exact w.m20, w.2.2.2.2.2.2.1, w.2.2.2.2.2.2.2.1, w.2.2.2.2.2.2.2.2.1, w.2.2.2.2.2.2.2.2.2⟩
  · show reM S (sN S) l = -1 ∨ ∃ p : Nat, p < sN S ∧ sI S p = reM S (sN S) l
    obtain ⟨a1, a2, a3⟩ := reM_at w (Nat.le_refl (sN S)) l
    by_cases h : (l : Int) ≤ rl S (sN S)
    · exact Or.inr (a2 (by omega) h)
    · exact Or.inl (a1 (by omega))
  · replace h5 : reM S (sN S) l ≠ -1 := h5
    replace h6 : reM S (sN S) l = reM S (sN S) k := h6
    obtain ⟨a1, a2, a3⟩ := reM_at w (Nat.le_refl (sN S)) l
    obtain ⟨b1, b2, b3⟩ := reM_at w (Nat.le_refl (sN S)) k
    have hl : (l : Int) ≤ rl S (sN S) := by
      by_cases h : (l : Int) ≤ rl S (sN S)
      · exact h
      · exact absurd (a1 (by omega)) h5
    have hk : (k : Int) ≤ rl S (sN S) := by
      by_cases h : (k : Int) ≤ rl S (sN S)
      · exact h
      · exact absurd (h6.trans (b1 (by omega))) h5
    have := a3 k (by omega) hk (by omega) hl h6
    omega
end NUM
