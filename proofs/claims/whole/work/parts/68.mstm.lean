/-! the model reads: statements -/
def RS (B : Int → Int) (n : Nat) (M0 : xM) (x : Nat) (l : Bool) (R : xRd) (M : xM) : Prop := RT B n x l M ∧ FO M0 M ∧ SG (rS R) (M 43) ∧ (M 41 18 = rM R ∧ M 41 19 = rC R) ∧ (∀ p : Nat, p < sP (rS R) → M 45 p = rN R p) ∧ wfR R ∧ (M 41 15 = 0 ∧ M 41 16 = -1)
/-- what must hold of a statement's outcome -/
def mO (B : Int → Int) (n : Nat) (M0 : xM) (h : xH) (Φ : xO → xM → xH → Prop) : xRr → Prop
  | .inl e => ∀ M', FE M0 e.1 e.2 M' → Φ (.inl (some (xI 0))) M' h
  | .inr R => (∀ M', RS B n M0 (rX R) (rL R) R M' → Φ (.inl (some (xI 1))) M' h) ∧ (kin B n (rX R) (rL R) ≠ 3 → ∀ M', FE M0 1 (ts B n (rX R)) M' → Φ (.inl (some (xI 0))) M' h)
section MSTM
variable {B : Int → Int} {n x : Nat} {l : Bool} {R : xRd} {M M' M0 : xM} {h : xH} {Φ : xO → xM → xH → Prop} {S : xSr}
set_option maxHeartbeats 1000000
theorem RS.fr {x' : Nat} {l' : Bool} (A : RS B n M0 x l R M) (T : RT B n x' l' M') (f : FR M M') : RS B n M0 x' l' R M' := by
  obtain ⟨-, g, s, ⟨m1, m2⟩, nm, w, e1, e2⟩ := A
  have e43 : M' 43 = M 43 := funext (fun j => f 43 j (by omega))
  exact ⟨T, f.o g, by rw [e43]; exact s, ⟨(f 41 18 (by decide)).trans m1, (f 41 19 (by decide)).trans m2⟩, fun p hp => (f 45 p (by omega)).trans (nm p hp), w, (f 41 15 (by decide)).trans e1, (f 41 16 (by decide)).trans e2⟩
theorem RS.T (A : RS B n M0 x l R M) : RT B n x l M := A.1
theorem RS.g (A : RS B n M0 x l R M) : FO M0 M := A.2.1
theorem RS.G (A : RS B n M0 x l R M) : SG (rS R) (M 43) := A.2.2.1
theorem RS.W (A : RS B n M0 x l R M) : wfR R := A.2.2.2.2.2.1
/-- the draft is written -/
theorem RS.upd (A : RS B n M0 x l R M) {R' : xRd} (f : ∀ a j, ¬ (a = 41 ∧ (j = 18 ∨ j = 19)) → a ≠ 43 → a ≠ 45 → M' a j = M a j) (G : SG (rS R') (M' 43)) (e18 : M' 41 18 = rM R') (e19 : M' 41 19 = rC R') (N : ∀ p : Nat, p < sP (rS R') → M' 45 p = rN R' p) (W : wfR R') : RS B n M0 x l R' M' := by
  obtain ⟨⟨⟨t1, t2, t3⟩, ⟨hx, y0, z1, z2, z3⟩, e11⟩, g, -, -, -, -, e1, e2⟩ := A
  exact ⟨⟨⟨(f 41 10 (by decide) (by decide) (by decide)).trans t1, t2, fun i hi => ⟨(f 46 i (by omega) (by decide) (by decide)).trans (t3 i hi).1, (t3 i hi).2⟩⟩, ⟨hx, y0, (f 41 9 (by decide) (by decide) (by decide)).trans z1, z2, z3⟩, (f 41 11 (by decide) (by decide) (by decide)).trans e11⟩, fun a j h1 h2 h3 => (f a j (by omega) h2 h3).trans (g a j h1 h2 h3), G, ⟨e18, e19⟩, N, W, (f 41 15 (by decide) (by decide) (by decide)).trans e1, (f 41 16 (by decide) (by decide) (by decide)).trans e2⟩
theorem pkw_add {c q : Nat} {b : Int} : pkw (addS S c b) q = if q < sN S then pkw S q else b := by
  show rg (sN S) (sB S) b q + 16 * rg (sN S) (sX S) 0 q + 32 * rg (sN S) (sT S) 0 q + 64 * rg (sN S) (sD S) 0 q + 256 * rg (sN S) (sC S 0) 0 q + 1024 * rg (sN S) (sC S 1) 0 q + 4096 * rg (sN S) (sC S 2) 0 q + 16384 * rg (sN S) (sC S 3) 0 q + 65536 * rg (sN S) (sC S 4) 0 q + 262144 * rg (sN S) (sC S 5) 0 q = _
  unfold rg
  by_cases h1 : q < sN S
  · have h2 : (q : Int) < sN S := by omega
    simp only [if_pos h1, if_pos h2]
    rfl
  · have h2 : ¬ (q : Int) < sN S := by omega
    simp only [if_neg h1, if_neg h2]
    omega
theorem cM_readBar (F : Fx h) (A : RS B n M0 x l R M) (k0 : nuc B n x l (sN (rS R)) ≠ 0 → ∀ M', FE M0 (nuc B n x l (sN (rS R))) (ts B n x) M' → Φ (.inl (some (xI 0))) M' h) (k1 : ∀ M', nuc B n x l (sN (rS R)) = 0 → kin B n x l = 2 → 1 ≤ tnv B n x → tnv B n x ≤ sN (rS R) → RS B n M0 (ten B n x) true R M' → M' 41 14 = tnv B n x → M' 41 12 = ts B n x → Φ (.inl (some (xI 1))) M' h) : x_Cal zM_readBar [xA 41] M h Φ := by
  have e0 : M 43 0 = sN (rS R) := A.G.1.1
  refine x_met0 kM_readBar (Nat.le_of_ble_eq_true rfl) ?_
  simp only [wq_g3, wq_gc, wq_g, wq_g1, wq_g2, eM_readBar, iM_readBar_0, vM_readBar, wps, x_cnd, reduceIte, Nat.reduceAdd, Nat.reduceSub, Nat.reduceEqDiff, Nat.reduceLeDiff, Nat.lt_irrefl, Nat.reduceLT, Int.cast_ofNat_Int, wq_c0, wq_c1, true_and, and_true, and_self, true_implies, forall_const, ne_eq, Decidable.not_not, not_true_eq_false, not_false_eq_true, List.map_nil, List.map_cons, List.sum_nil, List.sum_cons, List.length_cons, List.length_nil, Nat.le_refl, Nat.zero_le, reduceCtorEq, true_or, or_true, false_or, or_false, false_and, and_false, false_implies, Nat.zero_add, Nat.add_zero, Int.reduceEq, Int.reduceNe, Int.reduceLT, Int.reduceLE, Int.reduceNeg, Int.reduceToNat, Nat.not_lt_zero, Int.reduceAdd, fxs F, e0]
  refine cM_readNumber F A.T A.g (fun c0 M' fe => ?_) (fun M' c0 g1 g2 g3 g4 T' f' e14 e12 => ?_)
  · simp only [wq_g3, wq_gc, wq_g, wq_g1, wq_g2, eM_readBar, iM_readBar_0, vM_readBar, wps, x_cnd, reduceIte, Nat.reduceAdd, Nat.reduceSub, Nat.reduceEqDiff, Nat.reduceLeDiff, Nat.lt_irrefl, Nat.reduceLT, Int.cast_ofNat_Int, wq_c0, wq_c1, true_and, and_true, and_self, true_implies, forall_const, ne_eq, Decidable.not_not, not_true_eq_false, not_false_eq_true, List.map_nil, List.map_cons, List.sum_nil, List.sum_cons, List.length_cons, List.length_nil, Nat.le_refl, Nat.zero_le, reduceCtorEq, true_or, or_true, false_or, or_false, false_and, and_false, false_implies, Nat.zero_add, Nat.add_zero, Int.reduceEq, Int.reduceNe, Int.reduceLT, Int.reduceLE, Int.reduceNeg, Int.reduceToNat, Nat.not_lt_zero, Int.reduceAdd, fxs F]
    exact k0 c0 M' fe
  · simp only [wq_g3, wq_gc, wq_g, wq_g1, wq_g2, eM_readBar, iM_readBar_0, vM_readBar, wps, x_cnd, reduceIte, Nat.reduceAdd, Nat.reduceSub, Nat.reduceEqDiff, Nat.reduceLeDiff, Nat.lt_irrefl, Nat.reduceLT, Int.cast_ofNat_Int, wq_c0, wq_c1, true_and, and_true, and_self, true_implies, forall_const, ne_eq, Decidable.not_not, not_true_eq_false, not_false_eq_true, List.map_nil, List.map_cons, List.sum_nil, List.sum_cons, List.length_cons, List.length_nil, Nat.le_refl, Nat.zero_le, reduceCtorEq, true_or, or_true, false_or, or_false, false_and, and_false, false_implies, Nat.zero_add, Nat.add_zero, Int.reduceEq, Int.reduceNe, Int.reduceLT, Int.reduceLE, Int.reduceNeg, Int.reduceToNat, Nat.not_lt_zero, Int.reduceAdd, fxs F]
    exact k1 M' c0 g1 g2 g3 (A.fr T' f') e14 e12
theorem cM_readBit (F : Fx h) (A : RS B n M0 x true R M) {w : Int} {c : Nat} (hw : (w = 4 ∧ c = 5) ∨ (w = 5 ∧ c = 6)) (k : mO B n M0 h Φ (pFlag B n x w R)) : x_Cal zM_readBit [xA 41, xI c] M h Φ := by
  have hN := A.W.1.N
  unfold pFlag at k
  refine x_met0 kM_readBit (Nat.le_of_ble_eq_true rfl) ?_
  simp only [wq_g3, wq_gc, wq_g, wq_g1, wq_g2, eM_readBit, iM_readBit_0, iM_readBit_9, vM_readBit, wps, x_cnd, reduceIte, Nat.reduceAdd, Nat.reduceSub, Nat.reduceEqDiff, Nat.reduceLeDiff, Nat.lt_irrefl, Nat.reduceLT, Int.cast_ofNat_Int, wq_c0, wq_c1, true_and, and_true, and_self, true_implies, forall_const, ne_eq, Decidable.not_not, not_true_eq_false, not_false_eq_true, List.map_nil, List.map_cons, List.sum_nil, List.sum_cons, List.length_cons, List.length_nil, Nat.le_refl, Nat.zero_le, reduceCtorEq, true_or, or_true, false_or, or_false, false_and, and_false, false_implies, Nat.zero_add, Nat.add_zero, Int.reduceEq, Int.reduceNe, Int.reduceLT, Int.reduceLE, Int.reduceNeg, Int.reduceToNat, Nat.not_lt_zero, Int.reduceAdd, fxs F]
  refine cM_readBar F A (fun c0 M' fe => ?_) (fun M1 c0 g1 g2 g3 A1 e14 e12 => ?_)
  · rw [if_pos c0] at k
    simp only [wq_g3, wq_gc, wq_g, wq_g1, wq_g2, eM_readBit, iM_readBit_0, iM_readBit_9, vM_readBit, wps, x_cnd, reduceIte, Nat.reduceAdd, Nat.reduceSub, Nat.reduceEqDiff, Nat.reduceLeDiff, Nat.lt_irrefl, Nat.reduceLT, Int.cast_ofNat_Int, wq_c0, wq_c1, true_and, and_true, and_self, true_implies, forall_const, ne_eq, Decidable.not_not, not_true_eq_false, not_false_eq_true, List.map_nil, List.map_cons, List.sum_nil, List.sum_cons, List.length_cons, List.length_nil, Nat.le_refl, Nat.zero_le, reduceCtorEq, true_or, or_true, false_or, or_false, false_and, and_false, false_implies, Nat.zero_add, Nat.add_zero, Int.reduceEq, Int.reduceNe, Int.reduceLT, Int.reduceLE, Int.reduceNeg, Int.reduceToNat, Nat.not_lt_zero, Int.reduceAdd, fxs F]
    exact k M' fe
  · obtain ⟨v, hv⟩ : ∃ v : Nat, tnv B n x = ((v + 1 : Nat) : Int) := ⟨(tnv B n x).toNat - 1, by omega⟩
    rw [hv] at k g2 g3 e14
    rw [if_neg (fun q => q c0), show ((v + 1 : Nat) : Int) - 1 = v by omega] at k
    have hp : v < sN (rS R) := by omega
    have hr := pkw_r A.W.1 hp
    have hx := pkw_x A.W.1 hp
    have ht := A.W.1.t hp
    have hd := A.W.1.d hp
    have hwt : M1 43 (154 + v) = pkw (rS R) v := (A1.G.2.1 v hp).2
    simp only [wq_g3, wq_gc, wq_g, wq_g1, wq_g2, eM_readBit, iM_readBit_0, iM_readBit_9, vM_readBit, wps, x_cnd, reduceIte, Nat.reduceAdd, Nat.reduceSub, Nat.reduceEqDiff, Nat.reduceLeDiff, Nat.lt_irrefl, Nat.reduceLT, Int.cast_ofNat_Int, wq_c0, wq_c1, true_and, and_true, and_self, true_implies, forall_const, ne_eq, Decidable.not_not, not_true_eq_false, not_false_eq_true, List.map_nil, List.map_cons, List.sum_nil, List.sum_cons, List.length_cons, List.length_nil, Nat.le_refl, Nat.zero_le, reduceCtorEq, true_or, or_true, false_or, or_false, false_and, and_false, false_implies, Nat.zero_add, Nat.add_zero, Int.reduceEq, Int.reduceNe, Int.reduceLT, Int.reduceLE, Int.reduceNeg, Int.reduceToNat, Nat.not_lt_zero, Int.reduceAdd, fxs F, e14]
    simp (disch := omega) only [w32_of]
    rw [show (154 : Int) + ((v + 1 : Nat) : Int) - 1 = 154 + v by omega, hwt]
    refine ⟨by omega, cM_withBit (c := c) (by omega) (by omega) ?_⟩
    simp only [wq_g3, wq_gc, wq_g, wq_g1, wq_g2, eM_readBit, iM_readBit_0, iM_readBit_9, vM_readBit, wps, x_cnd, reduceIte, Nat.reduceAdd, Nat.reduceSub, Nat.reduceEqDiff, Nat.reduceLeDiff, Nat.lt_irrefl, Nat.reduceLT, Int.cast_ofNat_Int, wq_c0, wq_c1, true_and, and_true, and_self, true_implies, forall_const, ne_eq, Decidable.not_not, not_true_eq_false, not_false_eq_true, List.map_nil, List.map_cons, List.sum_nil, List.sum_cons, List.length_cons, List.length_nil, Nat.le_refl, Nat.zero_le, reduceCtorEq, true_or, or_true, false_or, or_false, false_and, and_false, false_implies, Nat.zero_add, Nat.add_zero, Int.reduceEq, Int.reduceNe, Int.reduceLT, Int.reduceLE, Int.reduceNeg, Int.reduceToNat, Nat.not_lt_zero, Int.reduceAdd, fxs F]
    refine ⟨by omega, k.1 _ (A1.upd (fun a j h1 h2 h3 => w_ne h2) (A1.G.at' hN rfl rfl rfl rfl rfl rfl rfl rfl (fun r hr => ?_) (fun j hj => w_nj (by omega))) ((w_ne (by decide)).trans A1.2.2.2.1.1) ((w_ne (by decide)).trans A1.2.2.2.1.2) (fun p hp => (w_ne (by decide)).trans (A1.2.2.2.2.1 p hp)) (wfR_bar A1.W (by unfold okSet; omega)))⟩
    show x_w M1 43 (154 + v) _ 43 (154 + r) = pkw (barS (rS R) w v 1) r
    by_cases hrv : r = v
    · subst hrv
      rw [w_eq]
      rcases hw with ⟨rfl, rfl⟩ | ⟨rfl, rfl⟩
      · rw [pkw_bar4, show ((2 ^ 5 : Nat) : Int) = 32 from rfl, hx.2.1]
      · rw [pkw_bar5, show ((2 ^ 6 : Nat) : Int) = 64 from rfl, hx.2.2]
    · rw [w_nj (by omega), pkw_bar_o (by omega)]
      exact (A1.G.2.1 r hr).2
theorem cM_isMarked (F : Fx h) (G : SG S (M 43)) {mk : Nat} (hmk : mk ≤ 20) (e18 : M 41 18 = mk) {x : Int} (k : Φ (.inl (some (xI (b01 (cn (fun l => sM S (l + 1) == x) mk ≠ 0))))) M h) : x_Cal zM_isMarked [xA 41, xI x] M h Φ := by
  refine x_metI kM_isMarked (Nat.le_of_ble_eq_true rfl) (fun t m ls st M' h' c n2 => t = 2 ∧ st = [] ∧ h' = h ∧ M' = M ∧ c = 0 ∧ n2 = 0 ∧ ls 0 = some (xA 41) ∧ ls 1 = some (xI x) ∧ ∃ p : Nat, p ≤ mk ∧ m = mk - p ∧ ls 2 = some (xI ((p + 1 : Nat) : Int)) ∧ ∀ q : Nat, q < p → sM S ((q : Int) + 1) ≠ x) 20 ?_ ?_
  · simp only [wq_g3, wq_gc, wq_g, wq_g1, wq_g2, eM_isMarked, iM_isMarked_0, iM_isMarked_2, iM_isMarked_26, iM_isMarked_32, vM_isMarked, wps, x_cnd, reduceIte, Nat.reduceAdd, Nat.reduceSub, Nat.reduceEqDiff, Nat.reduceLeDiff, Nat.lt_irrefl, Nat.reduceLT, Int.cast_ofNat_Int, wq_c0, wq_c1, true_and, and_true, and_self, true_implies, forall_const, ne_eq, Decidable.not_not, not_true_eq_false, not_false_eq_true, List.map_nil, List.map_cons, List.sum_nil, List.sum_cons, List.length_cons, List.length_nil, Nat.le_refl, Nat.zero_le, reduceCtorEq, true_or, or_true, false_or, or_false, false_and, and_false, false_implies, Nat.zero_add, Nat.add_zero, Int.reduceEq, Int.reduceNe, Int.reduceLT, Int.reduceLE, Int.reduceNeg, Int.reduceToNat, Nat.not_lt_zero, Int.reduceAdd, fxs F]
    exact ⟨mk - 0, 0, by omega, rfl, rfl, fun q hq => by omega⟩
  · rintro t m ls st M1 h' c n2 ⟨rfl, rfl, rfl, rfl, rfl, rfl, l0, l1, p, q1, q2, l2, q3⟩
    simp only [wq_g3, wq_gc, wq_g, wq_g1, wq_g2, eM_isMarked, iM_isMarked_0, iM_isMarked_2, iM_isMarked_26, iM_isMarked_32, vM_isMarked, wps, x_cnd, reduceIte, Nat.reduceAdd, Nat.reduceSub, Nat.reduceEqDiff, Nat.reduceLeDiff, Nat.lt_irrefl, Nat.reduceLT, Int.cast_ofNat_Int, wq_c0, wq_c1, true_and, and_true, and_self, true_implies, forall_const, ne_eq, Decidable.not_not, not_true_eq_false, not_false_eq_true, List.map_nil, List.map_cons, List.sum_nil, List.sum_cons, List.length_cons, List.length_nil, Nat.le_refl, Nat.zero_le, reduceCtorEq, true_or, or_true, false_or, or_false, false_and, and_false, false_implies, Nat.zero_add, Nat.add_zero, Int.reduceEq, Int.reduceNe, Int.reduceLT, Int.reduceLE, Int.reduceNeg, Int.reduceToNat, Nat.not_lt_zero, Int.reduceAdd, fxs F, l0, l1, l2, e18]
    simp (disch := omega) only [w32_of]
    refine ⟨fun c0 => kr k (b01_f (fun q => q ?_)), fun c0 => ⟨by omega, ?_⟩⟩
    · have : ∀ q : Nat, q < mk → (fun l : Int => sM S (l + 1) == x) q = (fun _ => false) (q : Int) := fun q hq => by
        have h4 := q3 q (by omega)
        simp only [beq_eq_false_iff_ne]
        exact h4
      rw [cn_congr (Q := fun _ => false) this, cn_nof]
    · have hp : p < mk := by omega
      rw [show M1 43 (324 + ((p + 1 : Nat) : Int)) = sM S ((p + 1 : Nat) : Int) from G.2.2.2.1 (p + 1) (by omega) (by omega)]
      refine ⟨fun c1 => ⟨mk - (p + 1), by omega, p + 1, by omega, rfl, congrArg (fun z => some (xI z)) (by omega), fun q hq => ?_⟩, fun c1 => kr k (b01_t (fun q => ?_))⟩
      · by_cases hqp : q = p
        · subst hqp
          exact c1
        · exact q3 q (by omega)
      · have h5 := cn_0 q (q := p) hp
        simp only [beq_eq_false_iff_ne] at h5
        exact h5 c1
theorem cM_readMark (F : Fx h) (A : RS B n M0 x true R M) (e12 : M 41 12 = ts B n (rX R)) (k : mO B n M0 h Φ (pMark B n x R)) : x_Cal zM_readMark [xA 41] M h Φ := by
  have hN := A.W.1.N
  obtain ⟨m1, m2, m3⟩ := A.W.2.2.1
  have e18 := A.2.2.2.1.1
  unfold pMark at k
  refine x_met0 kM_readMark (Nat.le_of_ble_eq_true rfl) ?_
  simp only [wq_g3, wq_gc, wq_g, wq_g1, wq_g2, eM_readMark, iM_readMark_0, iM_readMark_19, iM_readMark_28, iM_readMark_51, vM_readMark, wps, x_cnd, reduceIte, Nat.reduceAdd, Nat.reduceSub, Nat.reduceEqDiff, Nat.reduceLeDiff, Nat.lt_irrefl, Nat.reduceLT, Int.cast_ofNat_Int, wq_c0, wq_c1, true_and, and_true, and_self, true_implies, forall_const, ne_eq, Decidable.not_not, not_true_eq_false, not_false_eq_true, List.map_nil, List.map_cons, List.sum_nil, List.sum_cons, List.length_cons, List.length_nil, Nat.le_refl, Nat.zero_le, reduceCtorEq, true_or, or_true, false_or, or_false, false_and, and_false, false_implies, Nat.zero_add, Nat.add_zero, Int.reduceEq, Int.reduceNe, Int.reduceLT, Int.reduceLE, Int.reduceNeg, Int.reduceToNat, Nat.not_lt_zero, Int.reduceAdd, fxs F, e18, e12]
  refine ⟨fun c0 => cM_readBar F A (fun c1 M' fe => ?_) (fun M1 c1 g1 g2 g3 A1 e14 e12' => ?_), fun c0 => cM_fails F A.g (fun M' fe => ?_)⟩
  · rw [if_neg (by omega), if_pos c1] at k
    simp only [wq_g3, wq_gc, wq_g, wq_g1, wq_g2, eM_readMark, iM_readMark_0, iM_readMark_19, iM_readMark_28, iM_readMark_51, vM_readMark, wps, x_cnd, reduceIte, Nat.reduceAdd, Nat.reduceSub, Nat.reduceEqDiff, Nat.reduceLeDiff, Nat.lt_irrefl, Nat.reduceLT, Int.cast_ofNat_Int, wq_c0, wq_c1, true_and, and_true, and_self, true_implies, forall_const, ne_eq, Decidable.not_not, not_true_eq_false, not_false_eq_true, List.map_nil, List.map_cons, List.sum_nil, List.sum_cons, List.length_cons, List.length_nil, Nat.le_refl, Nat.zero_le, reduceCtorEq, true_or, or_true, false_or, or_false, false_and, and_false, false_implies, Nat.zero_add, Nat.add_zero, Int.reduceEq, Int.reduceNe, Int.reduceLT, Int.reduceLE, Int.reduceNeg, Int.reduceToNat, Nat.not_lt_zero, Int.reduceAdd, fxs F]
    exact k M' fe
  · obtain ⟨v, hv⟩ : ∃ v : Nat, tnv B n x = ((v + 1 : Nat) : Int) := ⟨(tnv B n x).toNat - 1, by omega⟩
    rw [hv] at k g2 g3 e14
    rw [if_neg (by omega), if_neg (fun q => q c1), show ((v + 1 : Nat) : Int) - 1 = v by omega] at k
    have hp : v < sN (rS R) := by omega
    have e18' := A1.2.2.2.1.1
    simp only [wq_g3, wq_gc, wq_g, wq_g1, wq_g2, eM_readMark, iM_readMark_0, iM_readMark_19, iM_readMark_28, iM_readMark_51, vM_readMark, wps, x_cnd, reduceIte, Nat.reduceAdd, Nat.reduceSub, Nat.reduceEqDiff, Nat.reduceLeDiff, Nat.lt_irrefl, Nat.reduceLT, Int.cast_ofNat_Int, wq_c0, wq_c1, true_and, and_true, and_self, true_implies, forall_const, ne_eq, Decidable.not_not, not_true_eq_false, not_false_eq_true, List.map_nil, List.map_cons, List.sum_nil, List.sum_cons, List.length_cons, List.length_nil, Nat.le_refl, Nat.zero_le, reduceCtorEq, true_or, or_true, false_or, or_false, false_and, and_false, false_implies, Nat.zero_add, Nat.add_zero, Int.reduceEq, Int.reduceNe, Int.reduceLT, Int.reduceLE, Int.reduceNeg, Int.reduceToNat, Nat.not_lt_zero, Int.reduceAdd, fxs F, e14, e12', e18']
    rw [w32_of (by omega), show ((v + 1 : Nat) : Int) - 1 = v by omega]
    refine cM_isMarked F A1.G m2 e18' ?_
    simp only [wq_g3, wq_gc, wq_g, wq_g1, wq_g2, eM_readMark, iM_readMark_0, iM_readMark_19, iM_readMark_28, iM_readMark_51, vM_readMark, wps, x_cnd, reduceIte, Nat.reduceAdd, Nat.reduceSub, Nat.reduceEqDiff, Nat.reduceLeDiff, Nat.lt_irrefl, Nat.reduceLT, Int.cast_ofNat_Int, wq_c0, wq_c1, true_and, and_true, and_self, true_implies, forall_const, ne_eq, Decidable.not_not, not_true_eq_false, not_false_eq_true, List.map_nil, List.map_cons, List.sum_nil, List.sum_cons, List.length_cons, List.length_nil, Nat.le_refl, Nat.zero_le, reduceCtorEq, true_or, or_true, false_or, or_false, false_and, and_false, false_implies, Nat.zero_add, Nat.add_zero, Int.reduceEq, Int.reduceNe, Int.reduceLT, Int.reduceLE, Int.reduceNeg, Int.reduceToNat, Nat.not_lt_zero, Int.reduceAdd, fxs F, b01_0, e14, e12', e18']
    simp (disch := decide) only [w_ne, w_eq, w_nj]
    rw [e14]
    simp (disch := omega) only [w32_of]
    rw [show ((v + 1 : Nat) : Int) - 1 = v by omega]
    refine ⟨fun c2 => ⟨by omega, ?_⟩, fun c2 => cM_fails F A1.g (fun M' fe => ?_)⟩
    · rw [if_neg (fun q => q c2)] at k
      refine k.1 _ (A1.upd (fun a j h1 h2 h3 => (w_ne h2).trans (if_neg (by omega))) (SG.mark (l := rM R + 1) A1.G (by omega) (by omega) hN ?_ (fun j hj => ?_)) ?_ ?_ (fun p hp => ?_) (wfR_mark A1.W (by omega) (by omega) c2))
      · rw [show (324 : Int) + ((rM R + 1 : Nat) : Int) = 324 + ((rM R : Int) + 1) by omega, w_eq]
      · rw [w_nj (by omega), w_ne (by decide)]
      · rw [w_ne (by decide), w_eq]
        show (rM R : Int) + 1 = ((rM R + 1 : Nat) : Int)
        omega
      · rw [w_ne (by decide), w_nj (by decide)]
        exact A1.2.2.2.1.2
      · rw [w_ne (by decide), w_ne (by decide)]
        exact A1.2.2.2.2.1 p hp
    · rw [if_pos c2] at k
      simp only [wq_g3, wq_gc, wq_g, wq_g1, wq_g2, eM_readMark, iM_readMark_0, iM_readMark_19, iM_readMark_28, iM_readMark_51, vM_readMark, wps, x_cnd, reduceIte, Nat.reduceAdd, Nat.reduceSub, Nat.reduceEqDiff, Nat.reduceLeDiff, Nat.lt_irrefl, Nat.reduceLT, Int.cast_ofNat_Int, wq_c0, wq_c1, true_and, and_true, and_self, true_implies, forall_const, ne_eq, Decidable.not_not, not_true_eq_false, not_false_eq_true, List.map_nil, List.map_cons, List.sum_nil, List.sum_cons, List.length_cons, List.length_nil, Nat.le_refl, Nat.zero_le, reduceCtorEq, true_or, or_true, false_or, or_false, false_and, and_false, false_implies, Nat.zero_add, Nat.add_zero, Int.reduceEq, Int.reduceNe, Int.reduceLT, Int.reduceLE, Int.reduceNeg, Int.reduceToNat, Nat.not_lt_zero, Int.reduceAdd, fxs F]
      exact k M' fe
  · rw [if_pos (by omega)] at k
    simp only [wq_g3, wq_gc, wq_g, wq_g1, wq_g2, eM_readMark, iM_readMark_0, iM_readMark_19, iM_readMark_28, iM_readMark_51, vM_readMark, wps, x_cnd, reduceIte, Nat.reduceAdd, Nat.reduceSub, Nat.reduceEqDiff, Nat.reduceLeDiff, Nat.lt_irrefl, Nat.reduceLT, Int.cast_ofNat_Int, wq_c0, wq_c1, true_and, and_true, and_self, true_implies, forall_const, ne_eq, Decidable.not_not, not_true_eq_false, not_false_eq_true, List.map_nil, List.map_cons, List.sum_nil, List.sum_cons, List.length_cons, List.length_nil, Nat.le_refl, Nat.zero_le, reduceCtorEq, true_or, or_true, false_or, or_false, false_and, and_false, false_implies, Nat.zero_add, Nat.add_zero, Int.reduceEq, Int.reduceNe, Int.reduceLT, Int.reduceLE, Int.reduceNeg, Int.reduceToNat, Nat.not_lt_zero, Int.reduceAdd, fxs F]
    exact k M' fe
theorem cM_readCut (F : Fx h) (A : RS B n M0 x true R M) (e12 : M 41 12 = ts B n (rX R)) (k : mO B n M0 h Φ (pCut B n x R)) : x_Cal zM_readCut [xA 41] M h Φ := by
  have hN := A.W.1.N
  obtain ⟨m2, m3⟩ := A.W.2.2.2.1
  have e19 := A.2.2.2.1.2
  unfold pCut at k
  refine x_met0 kM_readCut (Nat.le_of_ble_eq_true rfl) ?_
  simp only [wq_g3, wq_gc, wq_g, wq_g1, wq_g2, eM_readCut, iM_readCut_0, iM_readCut_19, iM_readCut_28, iM_readCut_42, iM_readCut_60, vM_readCut, wps, x_cnd, reduceIte, Nat.reduceAdd, Nat.reduceSub, Nat.reduceEqDiff, Nat.reduceLeDiff, Nat.lt_irrefl, Nat.reduceLT, Int.cast_ofNat_Int, wq_c0, wq_c1, true_and, and_true, and_self, true_implies, forall_const, ne_eq, Decidable.not_not, not_true_eq_false, not_false_eq_true, List.map_nil, List.map_cons, List.sum_nil, List.sum_cons, List.length_cons, List.length_nil, Nat.le_refl, Nat.zero_le, reduceCtorEq, true_or, or_true, false_or, or_false, false_and, and_false, false_implies, Nat.zero_add, Nat.add_zero, Int.reduceEq, Int.reduceNe, Int.reduceLT, Int.reduceLE, Int.reduceNeg, Int.reduceToNat, Nat.not_lt_zero, Int.reduceAdd, fxs F, e19, e12]
  refine ⟨fun c0 => cM_readBar F A (fun c1 M' fe => ?_) (fun M1 c1 g1 g2 g3 A1 e14 e12' => ?_), fun c0 => cM_fails F A.g (fun M' fe => ?_)⟩
  · rw [if_neg (by omega), if_pos c1] at k
    simp only [wq_g3, wq_gc, wq_g, wq_g1, wq_g2, eM_readCut, iM_readCut_0, iM_readCut_19, iM_readCut_28, iM_readCut_42, iM_readCut_60, vM_readCut, wps, x_cnd, reduceIte, Nat.reduceAdd, Nat.reduceSub, Nat.reduceEqDiff, Nat.reduceLeDiff, Nat.lt_irrefl, Nat.reduceLT, Int.cast_ofNat_Int, wq_c0, wq_c1, true_and, and_true, and_self, true_implies, forall_const, ne_eq, Decidable.not_not, not_true_eq_false, not_false_eq_true, List.map_nil, List.map_cons, List.sum_nil, List.sum_cons, List.length_cons, List.length_nil, Nat.le_refl, Nat.zero_le, reduceCtorEq, true_or, or_true, false_or, or_false, false_and, and_false, false_implies, Nat.zero_add, Nat.add_zero, Int.reduceEq, Int.reduceNe, Int.reduceLT, Int.reduceLE, Int.reduceNeg, Int.reduceToNat, Nat.not_lt_zero, Int.reduceAdd, fxs F]
    exact k M' fe
  · obtain ⟨v, hv⟩ : ∃ v : Nat, tnv B n x = ((v + 1 : Nat) : Int) := ⟨(tnv B n x).toNat - 1, by omega⟩
    rw [hv] at k g2 g3 e14
    rw [if_neg (by omega), if_neg (fun q => q c1), show ((v + 1 : Nat) : Int) - 1 = v by omega] at k
    simp only [wq_g3, wq_gc, wq_g, wq_g1, wq_g2, eM_readCut, iM_readCut_0, iM_readCut_19, iM_readCut_28, iM_readCut_42, iM_readCut_60, vM_readCut, wps, x_cnd, reduceIte, Nat.reduceAdd, Nat.reduceSub, Nat.reduceEqDiff, Nat.reduceLeDiff, Nat.lt_irrefl, Nat.reduceLT, Int.cast_ofNat_Int, wq_c0, wq_c1, true_and, and_true, and_self, true_implies, forall_const, ne_eq, Decidable.not_not, not_true_eq_false, not_false_eq_true, List.map_nil, List.map_cons, List.sum_nil, List.sum_cons, List.length_cons, List.length_nil, Nat.le_refl, Nat.zero_le, reduceCtorEq, true_or, or_true, false_or, or_false, false_and, and_false, false_implies, Nat.zero_add, Nat.add_zero, Int.reduceEq, Int.reduceNe, Int.reduceLT, Int.reduceLE, Int.reduceNeg, Int.reduceToNat, Nat.not_lt_zero, Int.reduceAdd, fxs F, e14]
    refine cM_readBar F A1 (fun c2 M' fe => ?_) (fun M2 c2 h1 h2 h3 A2 e14' e12'' => ?_)
    · rw [if_pos c2] at k
      simp only [wq_g3, wq_gc, wq_g, wq_g1, wq_g2, eM_readCut, iM_readCut_0, iM_readCut_19, iM_readCut_28, iM_readCut_42, iM_readCut_60, vM_readCut, wps, x_cnd, reduceIte, Nat.reduceAdd, Nat.reduceSub, Nat.reduceEqDiff, Nat.reduceLeDiff, Nat.lt_irrefl, Nat.reduceLT, Int.cast_ofNat_Int, wq_c0, wq_c1, true_and, and_true, and_self, true_implies, forall_const, ne_eq, Decidable.not_not, not_true_eq_false, not_false_eq_true, List.map_nil, List.map_cons, List.sum_nil, List.sum_cons, List.length_cons, List.length_nil, Nat.le_refl, Nat.zero_le, reduceCtorEq, true_or, or_true, false_or, or_false, false_and, and_false, false_implies, Nat.zero_add, Nat.add_zero, Int.reduceEq, Int.reduceNe, Int.reduceLT, Int.reduceLE, Int.reduceNeg, Int.reduceToNat, Nat.not_lt_zero, Int.reduceAdd, fxs F]
      exact k M' fe
    · obtain ⟨u, hu⟩ : ∃ u : Nat, tnv B n (ten B n x) = ((u + 1 : Nat) : Int) := ⟨(tnv B n (ten B n x)).toNat - 1, by omega⟩
      rw [hu] at k h2 h3 e14'
      rw [if_neg (fun q => q c2), show ((u + 1 : Nat) : Int) - 1 = u by omega] at k
      have e19' := A2.2.2.2.1.2
      have ecb : M2 43 1 = bs (hasC (rS R)) 10 := A2.G.1.2.1
      simp only [wq_g3, wq_gc, wq_g, wq_g1, wq_g2, eM_readCut, iM_readCut_0, iM_readCut_19, iM_readCut_28, iM_readCut_42, iM_readCut_60, vM_readCut, wps, x_cnd, reduceIte, Nat.reduceAdd, Nat.reduceSub, Nat.reduceEqDiff, Nat.reduceLeDiff, Nat.lt_irrefl, Nat.reduceLT, Int.cast_ofNat_Int, wq_c0, wq_c1, true_and, and_true, and_self, true_implies, forall_const, ne_eq, Decidable.not_not, not_true_eq_false, not_false_eq_true, List.map_nil, List.map_cons, List.sum_nil, List.sum_cons, List.length_cons, List.length_nil, Nat.le_refl, Nat.zero_le, reduceCtorEq, true_or, or_true, false_or, or_false, false_and, and_false, false_implies, Nat.zero_add, Nat.add_zero, Int.reduceEq, Int.reduceNe, Int.reduceLT, Int.reduceLE, Int.reduceNeg, Int.reduceToNat, Nat.not_lt_zero, Int.reduceAdd, fxs F, e14', e12'', e19']
      refine ⟨fun c3 => ?_, fun c3 => cM_fails F A2.g (fun M' fe => ?_)⟩
      · rw [if_neg (by omega)] at k
        simp (disch := decide) only [w_ne, w_eq, w_nj]
        rw [e19', e14']
        simp (disch := omega) only [w32_of]
        rw [show ((u + 1 : Nat) : Int) - 1 = u by omega, show ((v + 1 : Nat) : Int) - 1 = v by omega, w_nj (show (1 : Int) ≠ 314 + rC R by omega), w_nj (show (1 : Int) ≠ 304 + rC R by omega), ecb]
        have hC : ∀ q : Nat, q < 10 → q ≠ rC R → hasC (cutS (rS R) (rC R) v u) q = hasC (rS R) q := fun q _ hne => by
          show (up (rC R) (v : Int) (sF (rS R)) q != -1) = (sF (rS R) q != -1)
          rw [up_2 (by omega)]
        have hC1 : hasC (cutS (rS R) (rC R) v u) (rC R) = true := by
          show (up (rC R) (v : Int) (sF (rS R)) (rC R) != -1) = true
          rw [up_1]
          exact bne_iff_ne.mpr (by omega)
        rw [bs_on (by omega) (by decide) hC hC1]
        refine ⟨by omega, by omega, k.1 _ (A2.upd (fun a j h1 h2 h3 => ?_) (SG.cut (c := rC R) A2.G (by omega) hN ((w_ne (by decide)).trans w_eq) (fun _ => ⟨?_, ?_⟩) (fun j j1 j2 j3 => ?_)) ?_ ?_ (fun p hp => ?_) (wfR_cut A2.W (by omega) (by omega)))⟩
        · rw [x_w, if_neg (by omega), w_ne h2, w_ne h2, w_ne h2]
        · rw [w_ne (by decide), w_nj (by omega), w_nj (by omega), w_eq]
        · rw [w_ne (by decide), w_nj (by omega), w_eq]
        · rw [w_ne (by decide), w_nj j1, w_nj j3, w_nj j2]
        · rw [w_nj (by decide), w_ne (by decide), w_ne (by decide), w_ne (by decide)]
          exact A2.2.2.2.1.1
        · rw [w_eq]
          show (rC R : Int) + 1 = ((rC R + 1 : Nat) : Int)
          omega
        · rw [w_ne (by decide), w_ne (by decide), w_ne (by decide), w_ne (by decide)]
          exact A2.2.2.2.2.1 p hp
      · rw [if_pos (by omega)] at k
        simp only [wq_g3, wq_gc, wq_g, wq_g1, wq_g2, eM_readCut, iM_readCut_0, iM_readCut_19, iM_readCut_28, iM_readCut_42, iM_readCut_60, vM_readCut, wps, x_cnd, reduceIte, Nat.reduceAdd, Nat.reduceSub, Nat.reduceEqDiff, Nat.reduceLeDiff, Nat.lt_irrefl, Nat.reduceLT, Int.cast_ofNat_Int, wq_c0, wq_c1, true_and, and_true, and_self, true_implies, forall_const, ne_eq, Decidable.not_not, not_true_eq_false, not_false_eq_true, List.map_nil, List.map_cons, List.sum_nil, List.sum_cons, List.length_cons, List.length_nil, Nat.le_refl, Nat.zero_le, reduceCtorEq, true_or, or_true, false_or, or_false, false_and, and_false, false_implies, Nat.zero_add, Nat.add_zero, Int.reduceEq, Int.reduceNe, Int.reduceLT, Int.reduceLE, Int.reduceNeg, Int.reduceToNat, Nat.not_lt_zero, Int.reduceAdd, fxs F]
        exact k M' fe
  · rw [if_pos (by omega)] at k
    simp only [wq_g3, wq_gc, wq_g, wq_g1, wq_g2, eM_readCut, iM_readCut_0, iM_readCut_19, iM_readCut_28, iM_readCut_42, iM_readCut_60, vM_readCut, wps, x_cnd, reduceIte, Nat.reduceAdd, Nat.reduceSub, Nat.reduceEqDiff, Nat.reduceLeDiff, Nat.lt_irrefl, Nat.reduceLT, Int.cast_ofNat_Int, wq_c0, wq_c1, true_and, and_true, and_self, true_implies, forall_const, ne_eq, Decidable.not_not, not_true_eq_false, not_false_eq_true, List.map_nil, List.map_cons, List.sum_nil, List.sum_cons, List.length_cons, List.length_nil, Nat.le_refl, Nat.zero_le, reduceCtorEq, true_or, or_true, false_or, or_false, false_and, and_false, false_implies, Nat.zero_add, Nat.add_zero, Int.reduceEq, Int.reduceNe, Int.reduceLT, Int.reduceLE, Int.reduceNeg, Int.reduceToNat, Nat.not_lt_zero, Int.reduceAdd, fxs F]
    exact k M' fe
end MSTM
