/-! the abstract state of the class, and the answers of its questions -/
abbrev xAb : Type := xSr × Int × Nat × (Nat → xSr) × Nat × (Int → Int) × Int × Int × List Int
def aS (A : xAb) : xSr := A.1
def aI (A : xAb) : Int := A.2.1
def aH (A : xAb) : Nat := A.2.2.1
def aG (A : xAb) : Nat → xSr := A.2.2.2.1
def aN (A : xAb) : Nat := A.2.2.2.2.1
def aB (A : xAb) : Int → Int := A.2.2.2.2.2.1
def aE (A : xAb) : Int := A.2.2.2.2.2.2.1
def aP (A : xAb) : Int := A.2.2.2.2.2.2.2.1
def aO (A : xAb) : List Int := A.2.2.2.2.2.2.2.2
/-- the reader: input buffer and the latest error -/
def RW (n : Nat) (B : Int → Int) (e p : Int) (M : xM) (h : xH) : Prop := (M 2 3 = n ∧ n ≤ 800) ∧ (M 2 1 = e ∧ M 2 2 = p) ∧ (∀ i : Nat, i < n → M 14 i = w8 (B i) ∧ 0 ≤ B i ∧ B i < 256) ∧ ∀ i, hP h 13 i = 0
def OW (L : List Int) (M : xM) : Prop := M 39 1 = (L.length : Nat) ∧ L.length ≤ 2550 ∧ ∀ i : Nat, i < L.length → M 40 i = L.getD i 0
/-- the class's objects hold A -/
def CW (A : xAb) (M : xM) (h : xH) : Prop := Fx h ∧ repC (aS A) M h 17 ∧ wfS (aS A) (aI A) ∧ VR (aS A) M ∧ HW (aH A) (aG A) (aI A) M h ∧ (M 1 6 = aI A ∧ 0 ≤ aI A ∧ aI A ≤ 50000) ∧ RW (aN A) (aB A) (aE A) (aP A) M h ∧ OW (aO A) M
section CWs
variable {A : xAb} {M : xM} {h : xH}
theorem CW.F (C : CW A M h) : Fx h := C.1
theorem CW.R (C : CW A M h) : repC (aS A) M h 17 := C.2.1
theorem CW.w (C : CW A M h) : wfS (aS A) (aI A) := C.2.2.1
theorem CW.V (C : CW A M h) : VR (aS A) M := C.2.2.2.1
theorem CW.H (C : CW A M h) : HW (aH A) (aG A) (aI A) M h := C.2.2.2.2.1
theorem CW.i (C : CW A M h) : M 1 6 = aI A ∧ 0 ≤ aI A ∧ aI A ≤ 50000 := C.2.2.2.2.2.1
theorem CW.r (C : CW A M h) : RW (aN A) (aB A) (aE A) (aP A) M h := C.2.2.2.2.2.2.1
theorem CW.o (C : CW A M h) : OW (aO A) M := C.2.2.2.2.2.2.2
end CWs
/-- an answer: a number, or the exception's number (0 state, 1 argument, 2 no such element, 3 index) -/
abbrev xAn : Type := Int ⊕ Nat
def xo : xAn → xO
  | .inl v => .inl (some (xI v))
  | .inr e => .inr e
def anBarAt (S : xSr) (p : Int) : xAn := if 0 ≤ p ∧ p < sN S then .inl (sI S p) else .inr 2
def anBar (S : xSr) (b w : Int) : xAn := if pl S b = -1 then .inr 2 else if w = 0 then .inl (pl S b) else if w = 1 then .inl (lab S (pl S b).toNat) else if w = 2 then .inl (sB S (pl S b)) else if w = 3 then .inl (sX S (pl S b)) else if w = 4 then .inl (sT S (pl S b)) else if w = 5 then .inl (sD S (pl S b)) else if w = 6 then .inl (b01 (cov S (pl S b) = 0)) else if w = 7 then .inl (lt S (pl S b)) else if w = 8 then .inl (sit S (pl S b)) else .inr 1
def labP (S : xSr) (l : Int) : Int := fi (fun q => lab S q.toNat) l (sN S)
def anLabelled (S : xSr) (l : Int) : xAn := if labP S l = -1 then .inr 2 else .inl (sI S (labP S l))
def anCut (S : xSr) (c last : Int) : xAn := if 0 ≤ c ∧ c < 10 ∧ sF S c ≠ -1 then .inl (if last ≠ 0 then sL S c else sF S c) else .inr 2
def anHidden (S : xSr) (c : Int) : xAn := if 0 ≤ c ∧ c < 10 ∧ sF S c ≠ -1 then .inl (hid S c) else .inr 2
def anMark (S : xSr) (l w : Int) : xAn := if 1 ≤ l ∧ l ≤ 40 ∧ sM S l ≠ -1 then (if w = 0 then .inl (sM S l) else if w = 1 then .inl (idA S (shl S l)) else if w = 2 then .inl (b01 (cts S l ≠ -1)) else .inr 1) else .inr 2
def anFrom (S : xSr) (l n : Int) : xAn := if cts S l ≠ -1 ∧ 0 ≤ pb S (cts S l).toNat + n ∧ pb S (cts S l).toNat + n < pN S then .inl (sI S (pp S (pb S (cts S l).toNat + n))) else .inr 2
def clk (S : xSr) (i : Int) : Nat → Int
  | 0 => i
  | k + 1 => if lt S (pp S k) ≠ 0 then 1000 * lt S (pp S k) + (i - k) else clk S i k
/-- a question that wants a played bar -/
def anPl (S : xSr) (b : Int) (f : Nat → Int) : xAn := if pl S b = -1 then .inr 2 else if cov S (pl S b) ≠ 0 then .inr 0 else .inl (f (pb S (pl S b).toNat).toNat)
def anCalled (S : xSr) (b : Int) : xAn := anPl S b (fun i => clk S i (i + 1))
def anReason (S : xSr) (b : Int) : xAn := anPl S b (fun i => rsn S i)
/-- a question that wants a part -/
def anPt (S : xSr) (part : Int) (f : xAn) : xAn := if 0 ≤ part ∧ part < sP S then f else .inr 2
def anContent (S : xSr) (part b : Int) : xAn := anPt S part (if pl S b = -1 then .inr 2 else .inl (sC S part (pl S b)))
def anItems (S : xSr) (part : Int) : xAn := anPt S part (.inl (itN S part))
def itS (S : xSr) (part i : Int) : Int := nth (stt S part) (pN S).toNat i
def itE (S : xSr) (part i : Int) : Nat := nx (stt S part) (itS S part i).toNat (pN S).toNat
def anItem (S : xSr) (part i w : Int) : xAn := anPt S part (if w < 0 ∨ 3 < w then .inr 1 else if itS S part i = -1 then .inr 3 else if w = 0 then .inl (sI S (pp S (itS S part i))) else if w = 1 then .inl ((itE S part i : Int) - itS S part i) else if w = 2 then .inl (sC S part (pp S (itS S part i))) else .inl (bts S (itS S part i).toNat (itE S part i)))
def anItemOf (S : xSr) (part b : Int) : xAn := anPt S part (anPl S b (fun i => 1000 * (cn (stt S part) (i + 1) - 1) + (i - itS S part (cn (stt S part) (i + 1) - 1))))
def anLongest (S : xSr) (part : Int) : xAn := anPt S part (.inl (lrb S part (pN S).toNat))
/-- the first place from a on, below n, with P, or -1 -/
def ff (P : Int → Bool) (a : Nat) : Nat → Int
  | 0 => -1
  | k + 1 => if ff P a k ≠ -1 then ff P a k else if a ≤ k ∧ P k = true then (k : Int) else -1
def wtg (S : xSr) (part : Int) (i : Nat) : Int := if ff (fun k => sC S part (pp S k) == 1) i (pN S).toNat = -1 then -1 else ff (fun k => sC S part (pp S k) == 1) i (pN S).toNat - i
def anWaiting (S : xSr) (part b : Int) : xAn := anPt S part (anPl S b (wtg S part))
def anSounding (S : xSr) (b : Int) : xAn := if pl S b = -1 then .inr 2 else .inl (bs (fun part => sC S part (pl S b) == 1) (sP S))
def anPrinted (S : xSr) (part : Int) : xAn := anPt S part (.inl (b01 (sQ S part = 1)))
def anErrata (S : xSr) (nid part : Int) : xAn := anPt S part (if sQ S part = 1 then .inl (erN S part (sR S part) nid) else .inr 0)
def erI (S : xSr) (nid part e : Int) : Int := nth (kdB S part (sR S part)) nid.toNat e
def anErratum (S : xSr) (nid part e w : Int) : xAn := anPt S part (if w < 0 ∨ 2 < w then .inr 1 else if sQ S part = 1 then (if e < 0 ∨ erN S part (sR S part) nid ≤ e then .inr 3 else if w = 0 then .inl (erI S nid part e) else if w = 1 then .inl (kd S part (sR S part) (erI S nid part e)) else .inl (ndF (kd S part (sR S part) (erI S nid part e)) (sR S part (erI S nid part e)))) else .inr 0)
/-- the bar at which a letter was noted, or -1 -/
def ntl (f : Int → Int) (l nid : Int) : Int := fi (fun id => if f id = -1 then -1 else f id / 64 % 64) l nid.toNat
def msB (S : xSr) (nid l : Int) : Int → Bool := fun part => sQ S part == 1 && ntl (sR S part) l nid != idA S (cts S l)
def anMisled (S : xSr) (nid l : Int) : xAn := if 1 ≤ l ∧ l ≤ 40 then .inl (bs (msB S nid l) (sP S)) else .inr 1
theorem ff_s (P : Int → Bool) (a k : Nat) : ff P a (k + 1) = if ff P a k ≠ -1 then ff P a k else if a ≤ k ∧ P k = true then (k : Int) else -1 := rfl
theorem ff_none {P : Int → Bool} {a : Nat} : ∀ {n : Nat}, (∀ q : Nat, a ≤ q → q < n → P q = false) → ff P a n = -1
  | 0, _ => rfl
  | n + 1, h => by
    rw [ff_s, ff_none (n := n) (fun q h1 h2 => h q h1 (by omega)), if_neg (by simp)]
    by_cases ha : a ≤ n
    · rw [if_neg (by rw [h n ha (by omega)]; simp)]
    · rw [if_neg (by omega)]
theorem ff_eq {P : Int → Bool} {a p : Nat} (h1 : a ≤ p) (h2 : P p = true) (h3 : ∀ q : Nat, a ≤ q → q < p → P q = false) : ∀ {n : Nat}, p < n → ff P a n = p
  | 0, h => by omega
  | n + 1, h => by
    rw [ff_s]
    by_cases hp : p = n
    · subst hp
      rw [ff_none h3, if_neg (by simp), if_pos ⟨h1, h2⟩]
    · rw [ff_eq h1 h2 h3 (n := n) (by omega), if_pos (by omega)]
section PQ
variable {A : xAb} {M : xM} {h : xH} {Φ : xO → xM → xH → Prop}
set_option maxHeartbeats 1000000
theorem ko {v w : xAn} (k : Φ (xo v) M h) (e : v = w) : Φ (xo w) M h := e ▸ k
theorem kv {v : xAn} {w : Int} (k : Φ (xo v) M h) (e : v = .inl w) : Φ (.inl (some (xI w))) M h := by
  rw [e] at k
  exact k
theorem ke {v : xAn} {w : Nat} (k : Φ (xo v) M h) (e : v = .inr w) : Φ (.inr w) M h := by
  rw [e] at k
  exact k
theorem cP_requirePlace (C : CW A M h) {b : Int} (k0 : pl (aS A) b = -1 → Φ (.inr 2) M h) (k : ∀ p : Nat, p < sN (aS A) → pl (aS A) b = p → sI (aS A) p = b → Φ (.inl (some (xI p))) M h) : x_Cal zP_requirePlace [xA 1, xI b] M h Φ := by
  have F := C.F
  have R := C.R
  have hN := C.w.N
  refine x_met0 kP_requirePlace (Nat.le_of_ble_eq_true rfl) ?_
  simp only [wq_g3, wq_gc, wq_g, wq_g1, wq_g2, eP_requirePlace, iP_requirePlace_0, iP_requirePlace_22, vP_requirePlace, wps, x_cnd, reduceIte, Nat.reduceAdd, Nat.reduceSub, Nat.reduceEqDiff, Nat.reduceLeDiff, Nat.lt_irrefl, Nat.reduceLT, Int.cast_ofNat_Int, wq_c0, wq_c1, true_and, and_true, and_self, true_implies, forall_const, ne_eq, Decidable.not_not, not_true_eq_false, not_false_eq_true, List.map_nil, List.map_cons, List.sum_nil, List.sum_cons, List.length_cons, List.length_nil, Nat.le_refl, Nat.zero_le, reduceCtorEq, true_or, or_true, false_or, or_false, false_and, and_false, false_implies, Nat.zero_add, Nat.add_zero, Int.reduceEq, Int.reduceNe, Int.reduceLT, Int.reduceLE, Int.reduceNeg, Int.reduceToNat, Nat.not_lt_zero, fxs F]
  refine cS_placeOf F.s17 R.n (by omega) ?_
  rw [R.fi]
  simp only [wq_g3, wq_gc, wq_g, wq_g1, wq_g2, eP_requirePlace, iP_requirePlace_0, iP_requirePlace_22, vP_requirePlace, wps, x_cnd, reduceIte, Nat.reduceAdd, Nat.reduceSub, Nat.reduceEqDiff, Nat.reduceLeDiff, Nat.lt_irrefl, Nat.reduceLT, Int.cast_ofNat_Int, wq_c0, wq_c1, true_and, and_true, and_self, true_implies, forall_const, ne_eq, Decidable.not_not, not_true_eq_false, not_false_eq_true, List.map_nil, List.map_cons, List.sum_nil, List.sum_cons, List.length_cons, List.length_nil, Nat.le_refl, Nat.zero_le, reduceCtorEq, true_or, or_true, false_or, or_false, false_and, and_false, false_implies, Nat.zero_add, Nat.add_zero, Int.reduceEq, Int.reduceNe, Int.reduceLT, Int.reduceLE, Int.reduceNeg, Int.reduceToNat, Nat.not_lt_zero, fxs F]
  refine ⟨fun c0 => ?_, fun c0 => k0 c0⟩
  obtain ⟨p, p1, p2, p3⟩ := pl_some c0
  rw [p2]
  exact k p p1 p2 p3
theorem cP_requirePlayedIndex (C : CW A M h) {b : Int} {f : Nat → Int} (k0 : pl (aS A) b = -1 → Φ (.inr 2) M h) (k1 : ∀ p : Nat, p < sN (aS A) → pl (aS A) b = p → cov (aS A) p ≠ 0 → Φ (.inr 0) M h) (k : ∀ p i : Nat, p < sN (aS A) → pl (aS A) b = p → cov (aS A) p = 0 → pb (aS A) p = i → (i : Int) < pN (aS A) → pp (aS A) i = p → Φ (.inl (some (xI i))) M h) : x_Cal zP_requirePlayedIndex [xA 1, xI b] M h Φ := by
  have F := C.F
  have hN := C.w.N
  refine x_met0 kP_requirePlayedIndex (Nat.le_of_ble_eq_true rfl) ?_
  simp only [wq_g3, wq_gc, wq_g, wq_g1, wq_g2, eP_requirePlayedIndex, iP_requirePlayedIndex_0, iP_requirePlayedIndex_25, vP_requirePlayedIndex, wps, x_cnd, reduceIte, Nat.reduceAdd, Nat.reduceSub, Nat.reduceEqDiff, Nat.reduceLeDiff, Nat.lt_irrefl, Nat.reduceLT, Int.cast_ofNat_Int, wq_c0, wq_c1, true_and, and_true, and_self, true_implies, forall_const, ne_eq, Decidable.not_not, not_true_eq_false, not_false_eq_true, List.map_nil, List.map_cons, List.sum_nil, List.sum_cons, List.length_cons, List.length_nil, Nat.le_refl, Nat.zero_le, reduceCtorEq, true_or, or_true, false_or, or_false, false_and, and_false, false_implies, Nat.zero_add, Nat.add_zero, Int.reduceEq, Int.reduceNe, Int.reduceLT, Int.reduceLE, Int.reduceNeg, Int.reduceToNat, Nat.not_lt_zero, fxs F]
  refine cP_requirePlace C (fun c0 => ?_) (fun p p1 p2 p3 => ?_)
  · simp only [wq_g3, wq_gc, wq_g, wq_g1, wq_g2, eP_requirePlayedIndex, iP_requirePlayedIndex_0, iP_requirePlayedIndex_25, vP_requirePlayedIndex, wps, x_cnd, reduceIte, Nat.reduceAdd, Nat.reduceSub, Nat.reduceEqDiff, Nat.reduceLeDiff, Nat.lt_irrefl, Nat.reduceLT, Int.cast_ofNat_Int, wq_c0, wq_c1, true_and, and_true, and_self, true_implies, forall_const, ne_eq, Decidable.not_not, not_true_eq_false, not_false_eq_true, List.map_nil, List.map_cons, List.sum_nil, List.sum_cons, List.length_cons, List.length_nil, Nat.le_refl, Nat.zero_le, reduceCtorEq, true_or, or_true, false_or, or_false, false_and, and_false, false_implies, Nat.zero_add, Nat.add_zero, Int.reduceEq, Int.reduceNe, Int.reduceLT, Int.reduceLE, Int.reduceNeg, Int.reduceToNat, Nat.not_lt_zero, fxs F]
    exact k0 c0
  simp only [wq_g3, wq_gc, wq_g, wq_g1, wq_g2, eP_requirePlayedIndex, iP_requirePlayedIndex_0, iP_requirePlayedIndex_25, vP_requirePlayedIndex, wps, x_cnd, reduceIte, Nat.reduceAdd, Nat.reduceSub, Nat.reduceEqDiff, Nat.reduceLeDiff, Nat.lt_irrefl, Nat.reduceLT, Int.cast_ofNat_Int, wq_c0, wq_c1, true_and, and_true, and_self, true_implies, forall_const, ne_eq, Decidable.not_not, not_true_eq_false, not_false_eq_true, List.map_nil, List.map_cons, List.sum_nil, List.sum_cons, List.length_cons, List.length_nil, Nat.le_refl, Nat.zero_le, reduceCtorEq, true_or, or_true, false_or, or_false, false_and, and_false, false_implies, Nat.zero_add, Nat.add_zero, Int.reduceEq, Int.reduceNe, Int.reduceLT, Int.reduceLE, Int.reduceNeg, Int.reduceToNat, Nat.not_lt_zero, fxs F]
  refine cV_isPlayed F C.w C.V p1 ?_
  simp only [wq_g3, wq_gc, wq_g, wq_g1, wq_g2, eP_requirePlayedIndex, iP_requirePlayedIndex_0, iP_requirePlayedIndex_25, vP_requirePlayedIndex, wps, x_cnd, reduceIte, Nat.reduceAdd, Nat.reduceSub, Nat.reduceEqDiff, Nat.reduceLeDiff, Nat.lt_irrefl, Nat.reduceLT, Int.cast_ofNat_Int, wq_c0, wq_c1, true_and, and_true, and_self, true_implies, forall_const, ne_eq, Decidable.not_not, not_true_eq_false, not_false_eq_true, List.map_nil, List.map_cons, List.sum_nil, List.sum_cons, List.length_cons, List.length_nil, Nat.le_refl, Nat.zero_le, reduceCtorEq, true_or, or_true, false_or, or_false, false_and, and_false, false_implies, Nat.zero_add, Nat.add_zero, Int.reduceEq, Int.reduceNe, Int.reduceLT, Int.reduceLE, Int.reduceNeg, Int.reduceToNat, Nat.not_lt_zero, fxs F, b01_0, C.V.pb p1]
  have h1 := pb_rng (S := aS A) (p := p)
  refine ⟨fun c0 => ?_, fun c0 => ?_⟩
  · have h2 := isP_iff.mpr c0
    have h3 := pb_lt p1 h2
    have h4 := pp_at p1 h2
    obtain ⟨i, hi⟩ : ∃ i : Nat, pb (aS A) p = i := ⟨(pb (aS A) p).toNat, by omega⟩
    rw [hi] at h3 h4 ⊢
    exact ⟨by omega, k p i p1 p2 c0 hi h3 h4⟩
  · exact k1 p p1 p2 c0
theorem cP_requireCut (C : CW A M h) {c : Int} (k0 : ¬ (0 ≤ c ∧ c < 10 ∧ sF (aS A) c ≠ -1) → Φ (.inr 2) M h) (k : ∀ n : Nat, c = n → n < 10 → sF (aS A) n ≠ -1 → Φ (.inl none) M h) : x_Cal zP_requireCut [xA 1, xI c] M h Φ := by
  have F := C.F
  refine x_met0 kP_requireCut (Nat.le_of_ble_eq_true rfl) ?_
  simp only [wq_g3, wq_gc, wq_g, wq_g1, wq_g2, eP_requireCut, iP_requireCut_0, iP_requireCut_19, vP_requireCut, wps, x_cnd, reduceIte, Nat.reduceAdd, Nat.reduceSub, Nat.reduceEqDiff, Nat.reduceLeDiff, Nat.lt_irrefl, Nat.reduceLT, Int.cast_ofNat_Int, wq_c0, wq_c1, true_and, and_true, and_self, true_implies, forall_const, ne_eq, Decidable.not_not, not_true_eq_false, not_false_eq_true, List.map_nil, List.map_cons, List.sum_nil, List.sum_cons, List.length_cons, List.length_nil, Nat.le_refl, Nat.zero_le, reduceCtorEq, true_or, or_true, false_or, or_false, false_and, and_false, false_implies, Nat.zero_add, Nat.add_zero, Int.reduceEq, Int.reduceNe, Int.reduceLT, Int.reduceLE, Int.reduceNeg, Int.reduceToNat, Nat.not_lt_zero, fxs F]
  refine cS_hasCut F.s17 ?_
  simp only [wq_g3, wq_gc, wq_g, wq_g1, wq_g2, eP_requireCut, iP_requireCut_0, iP_requireCut_19, vP_requireCut, wps, x_cnd, reduceIte, Nat.reduceAdd, Nat.reduceSub, Nat.reduceEqDiff, Nat.reduceLeDiff, Nat.lt_irrefl, Nat.reduceLT, Int.cast_ofNat_Int, wq_c0, wq_c1, true_and, and_true, and_self, true_implies, forall_const, ne_eq, Decidable.not_not, not_true_eq_false, not_false_eq_true, List.map_nil, List.map_cons, List.sum_nil, List.sum_cons, List.length_cons, List.length_nil, Nat.le_refl, Nat.zero_le, reduceCtorEq, true_or, or_true, false_or, or_false, false_and, and_false, false_implies, Nat.zero_add, Nat.add_zero, Int.reduceEq, Int.reduceNe, Int.reduceLT, Int.reduceLE, Int.reduceNeg, Int.reduceToNat, Nat.not_lt_zero, fxs F, b01_0]
  have e : ∀ n : Nat, n < 10 → M 25 n = sF (aS A) n := fun n hn => C.R.cf hn
  refine ⟨fun c0 => ?_, fun c0 => k0 (fun q => c0 ⟨q.1, q.2.1, ?_⟩)⟩
  · obtain ⟨n, hn⟩ : ∃ n : Nat, c = n := ⟨c.toNat, by omega⟩
    subst hn
    rw [e n (by omega)] at c0
    exact k n rfl (by omega) (by omega)
  · obtain ⟨n, hn⟩ : ∃ n : Nat, c = n := ⟨c.toNat, by omega⟩
    subst hn
    rw [e n (by omega)]
    exact q.2.2
theorem cP_requireMark (C : CW A M h) {c : Int} (k0 : ¬ (1 ≤ c ∧ c ≤ 40 ∧ sM (aS A) c ≠ -1) → Φ (.inr 2) M h) (k : ∀ n : Nat, c = n → 1 ≤ n → n ≤ 40 → sM (aS A) n ≠ -1 → Φ (.inl none) M h) : x_Cal zP_requireMark [xA 1, xI c] M h Φ := by
  have F := C.F
  refine x_met0 kP_requireMark (Nat.le_of_ble_eq_true rfl) ?_
  simp only [wq_g3, wq_gc, wq_g, wq_g1, wq_g2, eP_requireMark, iP_requireMark_0, iP_requireMark_19, vP_requireMark, wps, x_cnd, reduceIte, Nat.reduceAdd, Nat.reduceSub, Nat.reduceEqDiff, Nat.reduceLeDiff, Nat.lt_irrefl, Nat.reduceLT, Int.cast_ofNat_Int, wq_c0, wq_c1, true_and, and_true, and_self, true_implies, forall_const, ne_eq, Decidable.not_not, not_true_eq_false, not_false_eq_true, List.map_nil, List.map_cons, List.sum_nil, List.sum_cons, List.length_cons, List.length_nil, Nat.le_refl, Nat.zero_le, reduceCtorEq, true_or, or_true, false_or, or_false, false_and, and_false, false_implies, Nat.zero_add, Nat.add_zero, Int.reduceEq, Int.reduceNe, Int.reduceLT, Int.reduceLE, Int.reduceNeg, Int.reduceToNat, Nat.not_lt_zero, fxs F]
  refine cS_hasMark F.s17 ?_
  simp only [wq_g3, wq_gc, wq_g, wq_g1, wq_g2, eP_requireMark, iP_requireMark_0, iP_requireMark_19, vP_requireMark, wps, x_cnd, reduceIte, Nat.reduceAdd, Nat.reduceSub, Nat.reduceEqDiff, Nat.reduceLeDiff, Nat.lt_irrefl, Nat.reduceLT, Int.cast_ofNat_Int, wq_c0, wq_c1, true_and, and_true, and_self, true_implies, forall_const, ne_eq, Decidable.not_not, not_true_eq_false, not_false_eq_true, List.map_nil, List.map_cons, List.sum_nil, List.sum_cons, List.length_cons, List.length_nil, Nat.le_refl, Nat.zero_le, reduceCtorEq, true_or, or_true, false_or, or_false, false_and, and_false, false_implies, Nat.zero_add, Nat.add_zero, Int.reduceEq, Int.reduceNe, Int.reduceLT, Int.reduceLE, Int.reduceNeg, Int.reduceToNat, Nat.not_lt_zero, fxs F, b01_0]
  have e : ∀ n : Nat, 1 ≤ n → n ≤ 40 → M 24 n = sM (aS A) n := fun n h1 h2 => C.R.mk h1 h2
  refine ⟨fun c0 => ?_, fun c0 => k0 (fun q => c0 ⟨q.1, q.2.1, ?_⟩)⟩
  · obtain ⟨n, hn⟩ : ∃ n : Nat, c = n := ⟨c.toNat, by omega⟩
    subst hn
    rw [e n (by omega) (by omega)] at c0
    exact k n rfl (by omega) (by omega) (by omega)
  · obtain ⟨n, hn⟩ : ∃ n : Nat, c = n := ⟨c.toNat, by omega⟩
    subst hn
    rw [e n (by omega) (by omega)]
    exact q.2.2
theorem cP_requirePart (C : CW A M h) {part : Int} (k0 : ¬ (0 ≤ part ∧ part < sP (aS A)) → Φ (.inr 2) M h) (k : ∀ n : Nat, part = n → n < sP (aS A) → n < 6 → Φ (.inl none) M h) : x_Cal zP_requirePart [xA 1, xI part] M h Φ := by
  have F := C.F
  have h6 := C.w.P
  have e : M 17 1 = sP (aS A) := C.R.p
  refine x_met0 kP_requirePart (Nat.le_of_ble_eq_true rfl) ?_
  simp only [wq_g3, wq_gc, wq_g, wq_g1, wq_g2, eP_requirePart, iP_requirePart_0, iP_requirePart_15, iP_requirePart_23, vP_requirePart, wps, x_cnd, reduceIte, Nat.reduceAdd, Nat.reduceSub, Nat.reduceEqDiff, Nat.reduceLeDiff, Nat.lt_irrefl, Nat.reduceLT, Int.cast_ofNat_Int, wq_c0, wq_c1, true_and, and_true, and_self, true_implies, forall_const, ne_eq, Decidable.not_not, not_true_eq_false, not_false_eq_true, List.map_nil, List.map_cons, List.sum_nil, List.sum_cons, List.length_cons, List.length_nil, Nat.le_refl, Nat.zero_le, reduceCtorEq, true_or, or_true, false_or, or_false, false_and, and_false, false_implies, Nat.zero_add, Nat.add_zero, Int.reduceEq, Int.reduceNe, Int.reduceLT, Int.reduceLE, Int.reduceNeg, Int.reduceToNat, Nat.not_lt_zero, fxs F, e]
  refine ⟨fun c0 => k0 (by omega), fun c0 => ⟨fun c1 => k part.toNat (by omega) (by omega) (by omega), fun c1 => k0 (by omega)⟩⟩
end PQ
