/-! erase -/
def dl (t : Nat) (g : Int → Int) : Int → Int := fun p => if p < t then g p else g (p + 1)
theorem dl_1 {t p : Nat} {g : Int → Int} (h : p < t) : dl t g p = g p := if_pos (by omega)
theorem dl_2 {t p : Nat} {g : Int → Int} (h : t ≤ p) : dl t g p = g (p + 1 : Nat) := if_neg (by omega)
def delS (S : xSr) (t : Nat) : xSr := (sN S - 1, sP S, dl t (sI S), dl t (sB S), dl t (sX S), dl t (sT S), dl t (sD S), (fun part => dl t (sC S part)), sM S, sF S, sL S, sQ S, sR S)
def endC (S : xSr) (x : Int) : Int → Bool := fun c => sF S c != -1 && (sF S c == x || sL S c == x)
def dEr (A : xAb) (b : Int) : xAn × xAb :=
  if pl (aS A) b = -1 then (.inr 2, A)
  else if sX (aS A) (pl (aS A) b) = 0 ∨ sit (aS A) (pl (aS A) b) ≠ 0 ∨ cn (endC (aS A) b) 10 ≠ 0 then (.inr 0, A)
  else (.inl (sN (aS A) - 1), aKeep A (delS (aS A) (pl (aS A) b).toNat) (aI A))
theorem cn_none {P : Int → Bool} : ∀ {n : Nat}, cn P n = 0 → ∀ q : Nat, q < n → P q = false
  | 0, _, q, hq => by omega
  | n + 1, h, q, hq => by
    have h0 := cn_rng (P := P) (n := n)
    rw [cn_s] at h
    cases hP : P n with
    | true =>
      rw [hP, if_pos rfl] at h
      omega
    | false =>
      rw [hP, if_neg (by decide)] at h
      by_cases he : q = n
      · rw [he]
        exact hP
      · exact cn_none (n := n) (by omega) q (by omega)
section DEL
variable {A : xAb} {M : xM} {h : xH} {Φ : xO → xM → xH → Prop} {S : xSr} {nid : Int}
set_option maxHeartbeats 1000000
theorem dlm_a {t N a p : Nat} (h1 : 18 ≤ a) (h2 : a ≤ 22) (hp : p < N - 1) (ht : t < N) : mvM M 17 (t + 1) t ((N - (t + 1) : Nat) : Int) a p = dl t (M a) p := by
  unfold mvM
  by_cases h3 : p < t
  · rw [dl_1 h3, if_neg (by omega), if_neg (by omega)]
  · rw [dl_2 (by omega), if_pos (by omega), show (p : Int) + (t + 1 - t) = (p + 1 : Nat) by omega]
theorem dlm_c {t N p part : Nat} (h6 : part < 6) (hp : p < N - 1) (hN : N ≤ 150) (ht : t < N) : mvM M 17 (t + 1) t ((N - (t + 1) : Nat) : Int) 23 ((part : Int) * 150 + p) = dl t (fun j => M 23 ((part : Int) * 150 + j)) p := by
  unfold mvM
  rw [if_neg (by omega)]
  by_cases h3 : p < t
  · rw [dl_1 h3, if_neg (by omega)]
  · rw [dl_2 (by omega), if_pos (by omega), show (part : Int) * 150 + p + (t + 1 - t) = part * 150 + (p + 1 : Nat) by omega]
theorem dlm_o {t a : Nat} {d j : Int} (h : a < 18 ∨ 23 < a) : mvM M 17 (t + 1) t d a j = M a j := by
  unfold mvM
  rw [if_neg (by omega), if_neg (by omega)]
theorem dl_cg {t N p : Nat} {g g' : Int → Int} (h : ∀ q : Nat, q < N → g q = g' q) (hp : p < N - 1) : dl t g p = dl t g' p := by
  by_cases h3 : p < t
  · rw [dl_1 h3, dl_1 h3]
    exact h p (by omega)
  · rw [dl_2 (by omega), dl_2 (by omega)]
    exact h _ (by omega)
theorem repC.del {t : Nat} (R : repC S M h 17) (hN : sN S ≤ 150) (ht : t < sN S) : repC (delS S t) (x_w (mvM M 17 (t + 1) t ((sN S - (t + 1) : Nat) : Int)) 17 0 (sN S - 1)) h 17 := by
  obtain ⟨a1, ⟨b1, b2, b3⟩, c1, d1, e1, f1⟩ := R
  refine ⟨a1, ⟨?_, ?_, ?_⟩, fun p hp => ?_, fun l h1 h2 => ?_, fun c h1 => ?_, fun part h6 => ?_⟩
  · rw [w_eq]
    show _ = ((sN S - 1 : Nat) : Int)
    omega
  · rw [w_nj (by decide), dlm_o (by omega)]
    exact b2
  · rw [w_nj (by decide), dlm_o (by omega)]
    exact b3
  · replace hp : p < sN S - 1 := hp
    rw [w_ne (by omega), w_ne (by omega), w_ne (by omega), w_ne (by omega), w_ne (by omega), dlm_a (by omega) (by omega) hp ht, dlm_a (by omega) (by omega) hp ht, dlm_a (by omega) (by omega) hp ht, dlm_a (by omega) (by omega) hp ht, dlm_a (by omega) (by omega) hp ht]
    refine ⟨dl_cg (fun q hq => (c1 q hq).1) hp, dl_cg (fun q hq => (c1 q hq).2.1) hp, dl_cg (fun q hq => (c1 q hq).2.2.1) hp, dl_cg (fun q hq => (c1 q hq).2.2.2.1) hp, dl_cg (fun q hq => (c1 q hq).2.2.2.2.1) hp, fun part h6 => ?_⟩
    rw [w_ne (by omega)]
    exact (dlm_c h6 hp hN ht).trans (dl_cg (fun q hq => (c1 q hq).2.2.2.2.2 part h6) hp)
  · rw [w_ne (by omega), dlm_o (by omega)]
    exact d1 l h1 h2
  · rw [w_ne (by omega), w_ne (by omega), dlm_o (by omega), dlm_o (by omega)]
    exact e1 c h1
  · rcases f1 part h6 with z | ⟨z1, z2⟩
    · exact Or.inl z
    · refine Or.inr ⟨z1, z2.frame (fun a j ha => ?_)⟩
      rw [w_ne (by omega), dlm_o (by omega)]
theorem del_I {t : Nat} : sI (delS S t) = dl t (sI S) := rfl
theorem del_B {t : Nat} : sB (delS S t) = dl t (sB S) := rfl
theorem del_X {t : Nat} : sX (delS S t) = dl t (sX S) := rfl
theorem del_T {t : Nat} : sT (delS S t) = dl t (sT S) := rfl
theorem del_D {t : Nat} : sD (delS S t) = dl t (sD S) := rfl
theorem del_C {t : Nat} : sC (delS S t) = fun part => dl t (sC S part) := rfl
theorem wfS.del {t : Nat} (w : wfS S nid) (ht : t < sN S) (hm : ∀ l : Nat, 1 ≤ l → l ≤ 40 → sM S l ≠ -1 → sM S l ≠ sI S t) (hc : ∀ c : Nat, c < 10 → sF S c ≠ -1 → sF S c ≠ sI S t ∧ sL S c ≠ sI S t) : wfS (delS S t) nid := by
  have hN := w.N
  have at2 : ∀ p : Nat, p < sN S - 1 → ∃ r : Nat, r < sN S ∧ r ≠ t ∧ (∀ g, dl t g p = g r) ∧ r = if p < t then p else p + 1 := fun p hp => by
    by_cases h1 : p < t
    · exact ⟨p, by omega, by omega, fun g => dl_1 h1, by rw [if_pos h1]⟩
    · exact ⟨p + 1, by omega, by omega, fun g => dl_2 (by omega), by rw [if_neg h1]⟩
  have old : ∀ q : Nat, q < sN S → q ≠ t → ∃ p : Nat, p < sN S - 1 ∧ (∀ g, dl t g p = g q) ∧ p = if q < t then q else q - 1 := fun q hq hne => by
    by_cases h1 : q < t
    · exact ⟨q, by omega, fun g => dl_1 h1, by rw [if_pos h1]⟩
    · refine ⟨q - 1, by omega, fun g => ?_, by rw [if_neg h1]⟩
      rw [dl_2 (by omega), show q - 1 + 1 = q by omega]
  refine ⟨⟨by show sN S - 1 ≤ 150; omega, w.P⟩, fun p hp => ?_, fun p q hp hq e => ?_, fun l h1 h2 => ?_, w.2.2.2.2.1, w.m20, fun k hk => ?_, w.2.2.2.2.2.2.2.1, w.2.2.2.2.2.2.2.2.1, w.2.2.2.2.2.2.2.2.2⟩
  · replace hp : p < sN S - 1 := hp
    simp only [del_I, del_B, del_X, del_T, del_D, del_C]
    obtain ⟨r, h1, h2, e, -⟩ := at2 p hp
    simp only [e]
    exact w.2.1 r h1
  · replace hp : p < sN S - 1 := hp
    replace hq : q < sN S - 1 := hq
    simp only [del_I] at e
    obtain ⟨r, h1, h2, e1, y1⟩ := at2 p hp
    obtain ⟨s, k1, k2, e2, y2⟩ := at2 q hq
    rw [e1, e2] at e
    have := w.inj h1 k1 e
    split at y1 <;> split at y2 <;> omega
  · rcases w.mk h1 h2 with z | ⟨q, q1, q2⟩
    · exact Or.inl z
    · by_cases hz : sM S l = -1
      · exact Or.inl hz
      · have hq : q ≠ t := by
          rintro rfl
          exact hm l h1 h2 hz q2.symm
        obtain ⟨p, y1, y2, -⟩ := old q q1 hq
        exact Or.inr ⟨p, y1, (congrFun del_I _).trans ((y2 _).trans q2)⟩
  · by_cases hz : sF S k = -1
    · exact Or.inl hz
    · rcases w.cut hk with z | ⟨p, q, z1, z2, z3, z4⟩
      · exact Or.inl z
      · obtain ⟨g1, g2⟩ := hc k hk hz
        obtain ⟨q', y1, y2, y3⟩ := old q z2 (by rintro rfl; exact g2 z4.symm)
        obtain ⟨p', x1, x2, x3⟩ := old p (by omega) (by rintro rfl; exact g1 z3.symm)
        refine Or.inr ⟨p', q', ?_, y1, (congrFun del_I _).trans ((x2 _).trans z3), (congrFun del_I _).trans ((y2 _).trans z4)⟩
        rw [x3, y3]
        split <;> split <;> omega
theorem cP_erase (C : CW A M h) {b : Int} (k : ∀ M' h', CW (dEr A b).2 M' h' → Fr M h M' h' → Φ (xo (dEr A b).1) M' h') : x_Cal zP_erase [xA 1, xI b] M h Φ := by
  have hN := C.w.N
  have e0 : M 17 0 = sN (aS A) := C.R.n
  unfold dEr at k
  refine x_met0 kP_erase (Nat.le_of_ble_eq_true rfl) ?_
  simp only [wq_g3, wq_gc, wq_g, wq_g1, wq_g2, eP_erase, iP_erase_0, iP_erase_41, iP_erase_49, vP_erase, wps, x_cnd, reduceIte, Nat.reduceAdd, Nat.reduceSub, Nat.reduceEqDiff, Nat.reduceLeDiff, Nat.lt_irrefl, Nat.reduceLT, Int.cast_ofNat_Int, wq_c0, wq_c1, true_and, and_true, and_self, true_implies, forall_const, ne_eq, Decidable.not_not, not_true_eq_false, not_false_eq_true, List.map_nil, List.map_cons, List.sum_nil, List.sum_cons, List.length_cons, List.length_nil, Nat.le_refl, Nat.zero_le, reduceCtorEq, true_or, or_true, false_or, or_false, false_and, and_false, false_implies, Nat.zero_add, Nat.add_zero, Int.reduceEq, Int.reduceNe, Int.reduceLT, Int.reduceLE, Int.reduceNeg, Int.reduceToNat, Nat.not_lt_zero, Int.reduceAdd, fxs C.F, e0]
  refine cP_requirePlace C (fun c1 => ?_) (fun p p1 p2 p3 => ?_)
  · simp only [wq_g3, wq_gc, wq_g, wq_g1, wq_g2, eP_erase, iP_erase_0, iP_erase_41, iP_erase_49, vP_erase, wps, x_cnd, reduceIte, Nat.reduceAdd, Nat.reduceSub, Nat.reduceEqDiff, Nat.reduceLeDiff, Nat.lt_irrefl, Nat.reduceLT, Int.cast_ofNat_Int, wq_c0, wq_c1, true_and, and_true, and_self, true_implies, forall_const, ne_eq, Decidable.not_not, not_true_eq_false, not_false_eq_true, List.map_nil, List.map_cons, List.sum_nil, List.sum_cons, List.length_cons, List.length_nil, Nat.le_refl, Nat.zero_le, reduceCtorEq, true_or, or_true, false_or, or_false, false_and, and_false, false_implies, Nat.zero_add, Nat.add_zero, Int.reduceEq, Int.reduceNe, Int.reduceLT, Int.reduceLE, Int.reduceNeg, Int.reduceToNat, Nat.not_lt_zero, Int.reduceAdd]
    rw [if_pos c1] at k
    exact k M h C ⟨fun _ _ _ _ => rfl, Nat.le_refl _⟩
  rw [if_neg (by omega), p2, show (p : Int).toNat = p from rfl] at k
  have e1 : M 20 p = sX (aS A) p := C.R.x p1
  have e2 := C.V.sit p1
  simp only [wq_g3, wq_gc, wq_g, wq_g1, wq_g2, eP_erase, iP_erase_0, iP_erase_41, iP_erase_49, vP_erase, wps, x_cnd, reduceIte, Nat.reduceAdd, Nat.reduceSub, Nat.reduceEqDiff, Nat.reduceLeDiff, Nat.lt_irrefl, Nat.reduceLT, Int.cast_ofNat_Int, wq_c0, wq_c1, true_and, and_true, and_self, true_implies, forall_const, ne_eq, Decidable.not_not, not_true_eq_false, not_false_eq_true, List.map_nil, List.map_cons, List.sum_nil, List.sum_cons, List.length_cons, List.length_nil, Nat.le_refl, Nat.zero_le, reduceCtorEq, true_or, or_true, false_or, or_false, false_and, and_false, false_implies, Nat.zero_add, Nat.add_zero, Int.reduceEq, Int.reduceNe, Int.reduceLT, Int.reduceLE, Int.reduceNeg, Int.reduceToNat, Nat.not_lt_zero, Int.reduceAdd, fxs C.F, e0, e1, e2]
  have same : M = M ∧ hn h ≤ hn h := ⟨rfl, Nat.le_refl _⟩
  refine ⟨by omega, fun c0 => ?_, fun c0 => ⟨by omega, fun c1 => ?_, fun c1 => cS_isEndOfCut C.F.s17 ?_⟩⟩
  · rw [if_pos (by omega)] at k
    exact k M h C ⟨fun _ _ _ _ => rfl, Nat.le_refl _⟩
  · rw [if_pos (by omega)] at k
    exact k M h C ⟨fun _ _ _ _ => rfl, Nat.le_refl _⟩
  have hce : cn (fun c => M (17 + 8) c != -1 && (M (17 + 8) c == b || M (17 + 9) c == b)) 10 = cn (endC (aS A) b) 10 := cn_congr (fun q hq => by
    have y1 : M 25 q = sF (aS A) q := C.R.cf hq
    have y2 : M 26 q = sL (aS A) q := C.R.cl hq
    show (M 25 q != -1 && (M 25 q == b || M 26 q == b)) = _
    rw [y1, y2]
    rfl)
  rw [hce]
  have hsit := (sit_0 C.w p1).mp c1
  have hbr := b01_r (p := cn (endC (aS A) b) 10 ≠ 0)
  simp only [wq_g3, wq_gc, wq_g, wq_g1, wq_g2, eP_erase, iP_erase_0, iP_erase_41, iP_erase_49, vP_erase, wps, x_cnd, reduceIte, Nat.reduceAdd, Nat.reduceSub, Nat.reduceEqDiff, Nat.reduceLeDiff, Nat.lt_irrefl, Nat.reduceLT, Int.cast_ofNat_Int, wq_c0, wq_c1, true_and, and_true, and_self, true_implies, forall_const, ne_eq, Decidable.not_not, not_true_eq_false, not_false_eq_true, List.map_nil, List.map_cons, List.sum_nil, List.sum_cons, List.length_cons, List.length_nil, Nat.le_refl, Nat.zero_le, reduceCtorEq, true_or, or_true, false_or, or_false, false_and, and_false, false_implies, Nat.zero_add, Nat.add_zero, Int.reduceEq, Int.reduceNe, Int.reduceLT, Int.reduceLE, Int.reduceNeg, Int.reduceToNat, Nat.not_lt_zero, Int.reduceAdd, fxs C.F, e0, e1, e2, b01_0]
  refine ⟨fun c2 => ?_, fun c2 => ?_⟩
  · have c3 : cn (endC (aS A) b) 10 = 0 := by omega
    rw [if_neg (by omega)] at k
    have hend := cn_none c3
    refine chg_keep C (fun M1 h1 P1 R1 f1 f2 => ?_)
    simp only [wq_g3, wq_gc, wq_g, wq_g1, wq_g2, eP_erase, iP_erase_0, iP_erase_41, iP_erase_49, vP_erase, wps, x_cnd, reduceIte, Nat.reduceAdd, Nat.reduceSub, Nat.reduceEqDiff, Nat.reduceLeDiff, Nat.lt_irrefl, Nat.reduceLT, Int.cast_ofNat_Int, wq_c0, wq_c1, true_and, and_true, and_self, true_implies, forall_const, ne_eq, Decidable.not_not, not_true_eq_false, not_false_eq_true, List.map_nil, List.map_cons, List.sum_nil, List.sum_cons, List.length_cons, List.length_nil, Nat.le_refl, Nat.zero_le, reduceCtorEq, true_or, or_true, false_or, or_false, false_and, and_false, false_implies, Nat.zero_add, Nat.add_zero, Int.reduceEq, Int.reduceNe, Int.reduceLT, Int.reduceLE, Int.reduceNeg, Int.reduceToNat, Nat.not_lt_zero, Int.reduceAdd, fxs P1.F]
    refine cS_removeBar P1.F.s17 (N := sN (aS A)) R1.n (by omega) p1 ?_
    have R2 := R1.del (t := p) hN p1
    have w2 := C.w.del p1 (fun l h1 h2 _ => hsit l h1 h2) (fun c hc hz => by
      have y := hend c hc
      unfold endC at y
      rw [p3]
      simp at y
      have := y hz
      omega)
    simp only [wq_g3, wq_gc, wq_g, wq_g1, wq_g2, eP_erase, iP_erase_0, iP_erase_41, iP_erase_49, vP_erase, wps, x_cnd, reduceIte, Nat.reduceAdd, Nat.reduceSub, Nat.reduceEqDiff, Nat.reduceLeDiff, Nat.lt_irrefl, Nat.reduceLT, Int.cast_ofNat_Int, wq_c0, wq_c1, true_and, and_true, and_self, true_implies, forall_const, ne_eq, Decidable.not_not, not_true_eq_false, not_false_eq_true, List.map_nil, List.map_cons, List.sum_nil, List.sum_cons, List.length_cons, List.length_nil, Nat.le_refl, Nat.zero_le, reduceCtorEq, true_or, or_true, false_or, or_false, false_and, and_false, false_implies, Nat.zero_add, Nat.add_zero, Int.reduceEq, Int.reduceNe, Int.reduceLT, Int.reduceLE, Int.reduceNeg, Int.reduceToNat, Nat.not_lt_zero, Int.reduceAdd, fxs P1.F]
    refine chg_ref (A := aKeep A (delS (aS A) p) (aI A)) (P1.frame (fun a j ha => ?_)) R2 w2 (fun M3 C3 f3 => ?_)
    · rw [w_ne (by omega), dlm_o (by omega)]
    · have e9 : M3 17 0 = sN (aS A) - 1 := by
        rw [f3 17 0 (by omega), w_eq]
      simp only [wq_g3, wq_gc, wq_g, wq_g1, wq_g2, eP_erase, iP_erase_0, iP_erase_41, iP_erase_49, vP_erase, wps, x_cnd, reduceIte, Nat.reduceAdd, Nat.reduceSub, Nat.reduceEqDiff, Nat.reduceLeDiff, Nat.lt_irrefl, Nat.reduceLT, Int.cast_ofNat_Int, wq_c0, wq_c1, true_and, and_true, and_self, true_implies, forall_const, ne_eq, Decidable.not_not, not_true_eq_false, not_false_eq_true, List.map_nil, List.map_cons, List.sum_nil, List.sum_cons, List.length_cons, List.length_nil, Nat.le_refl, Nat.zero_le, reduceCtorEq, true_or, or_true, false_or, or_false, false_and, and_false, false_implies, Nat.zero_add, Nat.add_zero, Int.reduceEq, Int.reduceNe, Int.reduceLT, Int.reduceLE, Int.reduceNeg, Int.reduceToNat, Nat.not_lt_zero, Int.reduceAdd, fxs P1.F, e9]
      refine k M3 h1 C3 ⟨fun a j z1 z2 => ?_, f2⟩
      rw [f3 a j (by omega), w_ne (by omega), dlm_o (by omega), f1 a j z2 (by omega)]
  · rw [if_pos (by omega)] at k
    exact k M h C ⟨fun _ _ _ _ => rfl, Nat.le_refl _⟩
end DEL
