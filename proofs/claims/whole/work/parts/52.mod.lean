/-! the model's state -/
/-- the notes of a print -/
def NT (g : Int → Int) (part : Int) (f : Int → Int) : Prop := ∃ K : Nat, K ≤ 150 ∧ f (365 + part) = K ∧ (∀ k : Nat, k < K → 0 ≤ f (371 + 300 * part + 2 * k) ∧ f (371 + 300 * part + 2 * k + 1) = g (f (371 + 300 * part + 2 * k)) ∧ g (f (371 + 300 * part + 2 * k)) ≠ -1) ∧ ∀ id : Int, g id ≠ -1 → ∃ k : Nat, k < K ∧ f (371 + 300 * part + 2 * k) = id
/-- a segment holds a score -/
def SG (S : xSr) (f : Int → Int) : Prop := (f 0 = sN S ∧ f 1 = bs (hasC S) 10 ∧ f 2 = sP S ∧ f 3 = bs (fun p => sQ S p == 1) 6) ∧
  (∀ p : Nat, p < sN S → f (4 + p) = sI S p ∧ f (154 + p) = pkw S p) ∧
  (∀ c : Nat, c < 10 → sF S c ≠ -1 → f (304 + c) = sF S c ∧ f (314 + c) = sL S c) ∧
  (∀ l : Nat, 1 ≤ l → l ≤ 40 → f (324 + l) = sM S l) ∧
  ∀ part : Nat, part < 6 → sQ S part = 1 → NT (sR S part) part f
/-- what the model holds -/
def MW (A : xAb) (M : xM) (h : xH) : Prop := Fx h ∧ SG (aS A) (M 42) ∧ wfS (aS A) (aI A) ∧ (M 41 5 = aH A ∧ aH A ≤ 10 ∧ ∀ i : Nat, i < aH A → SG (aG A i) (fun k => M 44 (2171 * ((aH A : Int) - 1 - i) + k)) ∧ wfS (aG A i) (aI A)) ∧ (M 41 6 = aI A ∧ 0 ≤ aI A ∧ aI A ≤ 50000) ∧ (M 41 8 = aN A ∧ aN A ≤ 800 ∧ (∀ i : Nat, i < aN A → M 46 i = aB A i ∧ 0 ≤ aB A i ∧ aB A i < 256) ∧ M 41 15 = aE A ∧ M 41 16 = aP A) ∧ (M 41 33 = (aO A).length ∧ (aO A).length ≤ 2550 ∧ ∀ i : Nat, i < (aO A).length → M 56 i = (aO A).getD i 0)
/-- what the model's call leaves -/
def FM (M M' : xM) : Prop := ∀ a j, (a < 41 ∨ 56 < a) → M' a j = M a j
/-- the model's answer -/
def MA (ex : Nat → Int) (an : xAn) (v : Int) (M : xM) : Prop := match an with
  | .inl w => v = w ∧ M 41 0 = 0
  | .inr e => M 41 0 = ex e
section MODA
variable {A : xAb} {M M' : xM} {h : xH} {Φ : xO → xM → xH → Prop} {S : xSr} {nid : Int}
set_option maxHeartbeats 1000000
theorem SG.n (G : SG S (M 42)) : M 42 0 = sN S := G.1.1
theorem SG.cb (G : SG S (M 42)) : M 42 1 = bs (hasC S) 10 := G.1.2.1
theorem SG.p (G : SG S (M 42)) : M 42 2 = sP S := G.1.2.2.1
theorem SG.q (G : SG S (M 42)) : M 42 3 = bs (fun p => sQ S p == 1) 6 := G.1.2.2.2
theorem SG.id (G : SG S (M 42)) {p : Nat} (hp : p < sN S) : M 42 (4 + p) = sI S p := (G.2.1 p hp).1
theorem SG.w (G : SG S (M 42)) {p : Nat} (hp : p < sN S) : M 42 (154 + p) = pkw S p := (G.2.1 p hp).2
theorem SG.cf (G : SG S (M 42)) {c : Nat} (hc : c < 10) (h : sF S c ≠ -1) : M 42 (304 + c) = sF S c ∧ M 42 (314 + c) = sL S c := G.2.2.1 c hc h
theorem SG.mk (G : SG S (M 42)) {l : Nat} (h1 : 1 ≤ l) (h2 : l ≤ 40) : M 42 (324 + l) = sM S l := G.2.2.2.1 l h1 h2
theorem SG.nt (G : SG S (M 42)) {part : Nat} (h6 : part < 6) (hq : sQ S part = 1) : NT (sR S part) part (M 42) := G.2.2.2.2 part h6 hq
theorem SG.cg {f f' : Int → Int} (G : SG S f) (e : ∀ k, 0 ≤ k → k < 2171 → f' k = f k) (hN : sN S ≤ 150) : SG S f' := by
  obtain ⟨⟨a1, a2, a3, a4⟩, b, c, d, n⟩ := G
  refine ⟨⟨?_, ?_, ?_, ?_⟩, fun p hp => ?_, fun c' hc hne => ?_, fun l h1 h2 => ?_, fun part h6 hq => ?_⟩
  · rw [e 0 (by decide) (by decide)]; exact a1
  · rw [e 1 (by decide) (by decide)]; exact a2
  · rw [e 2 (by decide) (by decide)]; exact a3
  · rw [e 3 (by decide) (by decide)]; exact a4
  · rw [e _ (by omega) (by omega), e _ (by omega) (by omega)]; exact b p hp
  · rw [e _ (by omega) (by omega), e _ (by omega) (by omega)]; exact c c' hc hne
  · rw [e _ (by omega) (by omega)]; exact d l h1 h2
  · obtain ⟨K, k1, k2, k3, k4⟩ := n part h6 hq
    refine ⟨K, k1, by rw [e _ (by omega) (by omega)]; exact k2, fun k hk => ?_, fun id hid => ?_⟩
    · rw [e _ (by omega) (by omega), e _ (by omega) (by omega)]
      exact k3 k hk
    · obtain ⟨k, hk, hk2⟩ := k4 id hid
      exact ⟨k, hk, by rw [e _ (by omega) (by omega)]; exact hk2⟩
theorem MW.F (W : MW A M h) : Fx h := W.1
theorem MW.G (W : MW A M h) : SG (aS A) (M 42) := W.2.1
theorem MW.w (W : MW A M h) : wfS (aS A) (aI A) := W.2.2.1
theorem MW.frame (W : MW A M h) (f : ∀ a j, (a = 42 ∨ a = 44 ∨ a = 46 ∨ a = 56) → M' a j = M a j) (g : ∀ j, (j = 5 ∨ j = 6 ∨ j = 8 ∨ j = 15 ∨ j = 16 ∨ j = 33) → M' 41 j = M 41 j) : MW A M' h := by
  obtain ⟨a, b, c, ⟨d1, d2, d3⟩, ⟨e1, e2⟩, ⟨f1, f2, f3, f4, f5⟩, ⟨g1, g2, g3⟩⟩ := W
  have e42 : M' 42 = M 42 := funext (fun j => f 42 j (by decide))
  have e44 : M' 44 = M 44 := funext (fun j => f 44 j (by decide))
  have e46 : M' 46 = M 46 := funext (fun j => f 46 j (by decide))
  have e56 : M' 56 = M 56 := funext (fun j => f 56 j (by decide))
  unfold MW
  rw [e42, e44, e46, e56, g 5 (by decide), g 6 (by decide), g 8 (by decide), g 15 (by decide), g 16 (by decide), g 33 (by decide)]
  exact ⟨a, b, c, ⟨d1, d2, d3⟩, ⟨e1, e2⟩, ⟨f1, f2, f3, f4, f5⟩, ⟨g1, g2, g3⟩⟩
/-- thrown is written -/
theorem MW.thr (W : MW A M h) {v : Int} : MW A (x_w M 41 0 v) h := W.frame (fun a j ha => w_ne (by omega)) (fun j hj => w_nj (by omega))
theorem b01_e {p : Prop} [Decidable p] : b01 p = 0 ∨ b01 p = 1 := by
  have := b01_r (p := p)
  omega
/-! the small methods -/
theorem cM_in {v a b : Int} (k : Φ (.inl (some (xI (b01 (a ≤ v ∧ v ≤ b))))) M h) : x_Cal zM_in [xI v, xI a, xI b] M h Φ := by
  refine x_met0 kM_in (Nat.le_of_ble_eq_true rfl) ?_
  simp only [wq_g3, wq_gc, wq_g, wq_g1, wq_g2, eM_in, iM_in_0, iM_in_14, iM_in_15, vM_in, wps, x_cnd, reduceIte, Nat.reduceAdd, Nat.reduceSub, Nat.reduceEqDiff, Nat.reduceLeDiff, Nat.lt_irrefl, Nat.reduceLT, Int.cast_ofNat_Int, wq_c0, wq_c1, true_and, and_true, and_self, true_implies, forall_const, ne_eq, Decidable.not_not, not_true_eq_false, not_false_eq_true, List.map_nil, List.map_cons, List.sum_nil, List.sum_cons, List.length_cons, List.length_nil, Nat.le_refl, Nat.zero_le, reduceCtorEq, true_or, or_true, false_or, or_false, false_and, and_false, false_implies, Nat.zero_add, Nat.add_zero, Int.reduceEq, Int.reduceNe, Int.reduceLT, Int.reduceLE, Int.reduceNeg, Int.reduceToNat, Nat.not_lt_zero, Int.reduceAdd]
  exact ⟨fun c0 => kr k (b01_f (by omega)), fun c0 => ⟨fun c1 => kr k (b01_f (by omega)), fun c1 => kr k (b01_t (by omega))⟩⟩
theorem cM_has {a : Int} {c : Nat} (ha : 0 ≤ a ∧ a < 2147483648) (hk : c < 32) (k : Φ (.inl (some (xI (b01 (a / ((2 ^ c : Nat) : Int) % 2 = 1))))) M h) : x_Cal zM_has [xI a, xI c] M h Φ := by
  refine x_met0 kM_has (Nat.le_of_ble_eq_true rfl) ?_
  simp only [wq_g3, wq_gc, wq_g, wq_g1, wq_g2, eM_has, iM_has_0, iM_has_13, iM_has_14, vM_has, wps, x_cnd, reduceIte, Nat.reduceAdd, Nat.reduceSub, Nat.reduceEqDiff, Nat.reduceLeDiff, Nat.lt_irrefl, Nat.reduceLT, Int.cast_ofNat_Int, wq_c0, wq_c1, true_and, and_true, and_self, true_implies, forall_const, ne_eq, Decidable.not_not, not_true_eq_false, not_false_eq_true, List.map_nil, List.map_cons, List.sum_nil, List.sum_cons, List.length_cons, List.length_nil, Nat.le_refl, Nat.zero_le, reduceCtorEq, true_or, or_true, false_or, or_false, false_and, and_false, false_implies, Nat.zero_add, Nat.add_zero, Int.reduceEq, Int.reduceNe, Int.reduceLT, Int.reduceLE, Int.reduceNeg, Int.reduceToNat, Nat.not_lt_zero, Int.reduceAdd]
  rw [x_has_b ha hk]
  refine ⟨fun c0 => kr k (b01_f c0), fun c0 => kr k (b01_t c0)⟩
theorem cM_hasB {P : Int → Bool} {n c : Nat} (hn : n < 31) (hk : c < n) (k : Φ (.inl (some (xI (b01 (P c = true))))) M h) : x_Cal zM_has [xI (bs P n), xI c] M h Φ :=
  cM_has (bs_lt hn) (by omega) (kr k (b01_c (by rw [bs_bit hk]; split <;> simp_all)))
theorem cM_refuse (F : Fx h) {v : Int} (k : Φ (.inl (some (xI 0))) (x_w M 41 0 v) h) : x_Cal zM_refuse [xA 41, xI v] M h Φ := by
  refine x_met0 kM_refuse (Nat.le_of_ble_eq_true rfl) ?_
  simp only [wq_g3, wq_gc, wq_g, wq_g1, wq_g2, eM_refuse, iM_refuse_0, vM_refuse, wps, x_cnd, reduceIte, Nat.reduceAdd, Nat.reduceSub, Nat.reduceEqDiff, Nat.reduceLeDiff, Nat.lt_irrefl, Nat.reduceLT, Int.cast_ofNat_Int, wq_c0, wq_c1, true_and, and_true, and_self, true_implies, forall_const, ne_eq, Decidable.not_not, not_true_eq_false, not_false_eq_true, List.map_nil, List.map_cons, List.sum_nil, List.sum_cons, List.length_cons, List.length_nil, Nat.le_refl, Nat.zero_le, reduceCtorEq, true_or, or_true, false_or, or_false, false_and, and_false, false_implies, Nat.zero_add, Nat.add_zero, Int.reduceEq, Int.reduceNe, Int.reduceLT, Int.reduceLE, Int.reduceNeg, Int.reduceToNat, Nat.not_lt_zero, Int.reduceAdd, fxs F]
  exact k
theorem cM_told (F : Fx h) {v : Int} (k : Φ (.inl (some (xI v))) (x_w M 41 0 0) h) : x_Cal zM_told [xA 41, xI v] M h Φ := by
  refine x_met0 kM_told (Nat.le_of_ble_eq_true rfl) ?_
  simp only [wq_g3, wq_gc, wq_g, wq_g1, wq_g2, eM_told, iM_told_0, vM_told, wps, x_cnd, reduceIte, Nat.reduceAdd, Nat.reduceSub, Nat.reduceEqDiff, Nat.reduceLeDiff, Nat.lt_irrefl, Nat.reduceLT, Int.cast_ofNat_Int, wq_c0, wq_c1, true_and, and_true, and_self, true_implies, forall_const, ne_eq, Decidable.not_not, not_true_eq_false, not_false_eq_true, List.map_nil, List.map_cons, List.sum_nil, List.sum_cons, List.length_cons, List.length_nil, Nat.le_refl, Nat.zero_le, reduceCtorEq, true_or, or_true, false_or, or_false, false_and, and_false, false_implies, Nat.zero_add, Nat.add_zero, Int.reduceEq, Int.reduceNe, Int.reduceLT, Int.reduceLE, Int.reduceNeg, Int.reduceToNat, Nat.not_lt_zero, Int.reduceAdd, fxs F]
  exact k
theorem cM_thrown (F : Fx h) (k : Φ (.inl (some (xI (M 41 0)))) M h) : x_Cal zM_thrown [xA 41] M h Φ := by
  refine x_met0 kM_thrown (Nat.le_of_ble_eq_true rfl) ?_
  simp only [wq_g3, wq_gc, wq_g, wq_g1, wq_g2, eM_thrown, iM_thrown_0, vM_thrown, wps, x_cnd, reduceIte, Nat.reduceAdd, Nat.reduceSub, Nat.reduceEqDiff, Nat.reduceLeDiff, Nat.lt_irrefl, Nat.reduceLT, Int.cast_ofNat_Int, wq_c0, wq_c1, true_and, and_true, and_self, true_implies, forall_const, ne_eq, Decidable.not_not, not_true_eq_false, not_false_eq_true, List.map_nil, List.map_cons, List.sum_nil, List.sum_cons, List.length_cons, List.length_nil, Nat.le_refl, Nat.zero_le, reduceCtorEq, true_or, or_true, false_or, or_false, false_and, and_false, false_implies, Nat.zero_add, Nat.add_zero, Int.reduceEq, Int.reduceNe, Int.reduceLT, Int.reduceLE, Int.reduceNeg, Int.reduceToNat, Nat.not_lt_zero, Int.reduceAdd, fxs F]
  exact k
theorem cM_isRefused (F : Fx h) {v : Int} (k : Φ (.inl (some (xI (b01 (0 < v))))) (x_w M 41 0 v) h) : x_Cal zM_isRefused [xA 41, xI v] M h Φ := by
  refine x_met0 kM_isRefused (Nat.le_of_ble_eq_true rfl) ?_
  simp only [wq_g3, wq_gc, wq_g, wq_g1, wq_g2, eM_isRefused, iM_isRefused_0, iM_isRefused_13, iM_isRefused_14, vM_isRefused, wps, x_cnd, reduceIte, Nat.reduceAdd, Nat.reduceSub, Nat.reduceEqDiff, Nat.reduceLeDiff, Nat.lt_irrefl, Nat.reduceLT, Int.cast_ofNat_Int, wq_c0, wq_c1, true_and, and_true, and_self, true_implies, forall_const, ne_eq, Decidable.not_not, not_true_eq_false, not_false_eq_true, List.map_nil, List.map_cons, List.sum_nil, List.sum_cons, List.length_cons, List.length_nil, Nat.le_refl, Nat.zero_le, reduceCtorEq, true_or, or_true, false_or, or_false, false_and, and_false, false_implies, Nat.zero_add, Nat.add_zero, Int.reduceEq, Int.reduceNe, Int.reduceLT, Int.reduceLE, Int.reduceNeg, Int.reduceToNat, Nat.not_lt_zero, Int.reduceAdd, fxs F]
  refine ⟨fun c0 => kr k (b01_f (by omega)), fun c0 => kr k (b01_t (by omega))⟩
theorem pkw_r (w : wfS S nid) {p : Nat} (hp : p < sN S) : 0 ≤ pkw S p ∧ pkw S p < 1048576 := by
  have h1 := w.b hp
  have h2 := w.x hp
  have h3 := w.t hp
  have h4 := w.d hp
  have c0 := w.c hp (part := 0) (by decide)
  have c1 := w.c hp (part := 1) (by decide)
  have c2 := w.c hp (part := 2) (by decide)
  have c3 := w.c hp (part := 3) (by decide)
  have c4 := w.c hp (part := 4) (by decide)
  have c5 := w.c hp (part := 5) (by decide)
  simp only [Int.natCast_zero, Int.natCast_one, Int.cast_ofNat_Int] at c0 c1 c2 c3 c4 c5
  unfold pkw
  omega
theorem pkw_b (w : wfS S nid) {p : Nat} (hp : p < sN S) : pkw S p % 16 = sB S p := by
  have h1 := w.b hp
  unfold pkw
  omega
theorem pkw_x (w : wfS S nid) {p : Nat} (hp : p < sN S) : pkw S p / 16 % 2 = sX S p ∧ pkw S p / 32 % 2 = sT S p ∧ pkw S p / 64 % 2 = sD S p := by
  have h1 := w.b hp
  have h2 := w.x hp
  have h3 := w.t hp
  have h4 := w.d hp
  unfold pkw
  omega
theorem pkw_c (w : wfS S nid) {p : Nat} (hp : p < sN S) {part : Nat} (h6 : part < 6) : pkw S p / ((2 ^ (8 + 2 * part) : Nat) : Int) % 4 = sC S part p := by
  have h1 := w.b hp
  have h2 := w.x hp
  have h3 := w.t hp
  have h4 := w.d hp
  have c0 := w.c hp (part := 0) (by decide)
  have c1 := w.c hp (part := 1) (by decide)
  have c2 := w.c hp (part := 2) (by decide)
  have c3 := w.c hp (part := 3) (by decide)
  have c4 := w.c hp (part := 4) (by decide)
  have c5 := w.c hp (part := 5) (by decide)
  simp only [Int.natCast_zero, Int.natCast_one, Int.cast_ofNat_Int] at c0 c1 c2 c3 c4 c5
  have hpt : part = 0 ∨ part = 1 ∨ part = 2 ∨ part = 3 ∨ part = 4 ∨ part = 5 := by omega
  unfold pkw
  rcases hpt with rfl | rfl | rfl | rfl | rfl | rfl <;> simp only [Int.natCast_zero, Int.natCast_one, Int.cast_ofNat_Int, Nat.reduceMul, Nat.reduceAdd, Nat.reducePow] <;> omega
theorem cM_whatAt (F : Fx h) {p : Nat} (h1 : p < 2017) (k : Φ (.inl (some (xI (M 42 (154 + p))))) M h) : x_Cal zM_whatAt [xA 41, xI p] M h Φ := by
  refine x_met0 kM_whatAt (Nat.le_of_ble_eq_true rfl) ?_
  simp only [wq_g3, wq_gc, wq_g, wq_g1, wq_g2, eM_whatAt, iM_whatAt_0, vM_whatAt, wps, x_cnd, reduceIte, Nat.reduceAdd, Nat.reduceSub, Nat.reduceEqDiff, Nat.reduceLeDiff, Nat.lt_irrefl, Nat.reduceLT, Int.cast_ofNat_Int, wq_c0, wq_c1, true_and, and_true, and_self, true_implies, forall_const, ne_eq, Decidable.not_not, not_true_eq_false, not_false_eq_true, List.map_nil, List.map_cons, List.sum_nil, List.sum_cons, List.length_cons, List.length_nil, Nat.le_refl, Nat.zero_le, reduceCtorEq, true_or, or_true, false_or, or_false, false_and, and_false, false_implies, Nat.zero_add, Nat.add_zero, Int.reduceEq, Int.reduceNe, Int.reduceLT, Int.reduceLE, Int.reduceNeg, Int.reduceToNat, Nat.not_lt_zero, Int.reduceAdd, fxs F]
  simp (disch := omega) only [w32_of]
  exact ⟨by omega, k⟩
theorem cM_idAt (F : Fx h) {p : Nat} (h1 : p < 2167) (k : Φ (.inl (some (xI (M 42 (4 + p))))) M h) : x_Cal zM_idAt [xA 41, xI p] M h Φ := by
  refine x_met0 kM_idAt (Nat.le_of_ble_eq_true rfl) ?_
  simp only [wq_g3, wq_gc, wq_g, wq_g1, wq_g2, eM_idAt, iM_idAt_0, vM_idAt, wps, x_cnd, reduceIte, Nat.reduceAdd, Nat.reduceSub, Nat.reduceEqDiff, Nat.reduceLeDiff, Nat.lt_irrefl, Nat.reduceLT, Int.cast_ofNat_Int, wq_c0, wq_c1, true_and, and_true, and_self, true_implies, forall_const, ne_eq, Decidable.not_not, not_true_eq_false, not_false_eq_true, List.map_nil, List.map_cons, List.sum_nil, List.sum_cons, List.length_cons, List.length_nil, Nat.le_refl, Nat.zero_le, reduceCtorEq, true_or, or_true, false_or, or_false, false_and, and_false, false_implies, Nat.zero_add, Nat.add_zero, Int.reduceEq, Int.reduceNe, Int.reduceLT, Int.reduceLE, Int.reduceNeg, Int.reduceToNat, Nat.not_lt_zero, Int.reduceAdd, fxs F]
  simp (disch := omega) only [w32_of]
  exact ⟨by omega, k⟩
theorem cM_beatsIn (w : wfS S nid) {p : Nat} (hp : p < sN S) (k : Φ (.inl (some (xI (sB S p)))) M h) : x_Cal zM_beatsIn [xI (pkw S p)] M h Φ := by
  have h1 := pkw_r w hp
  refine x_met0 kM_beatsIn (Nat.le_of_ble_eq_true rfl) ?_
  simp only [wq_g3, wq_gc, wq_g, wq_g1, wq_g2, eM_beatsIn, iM_beatsIn_0, vM_beatsIn, wps, x_cnd, reduceIte, Nat.reduceAdd, Nat.reduceSub, Nat.reduceEqDiff, Nat.reduceLeDiff, Nat.lt_irrefl, Nat.reduceLT, Int.cast_ofNat_Int, wq_c0, wq_c1, true_and, and_true, and_self, true_implies, forall_const, ne_eq, Decidable.not_not, not_true_eq_false, not_false_eq_true, List.map_nil, List.map_cons, List.sum_nil, List.sum_cons, List.length_cons, List.length_nil, Nat.le_refl, Nat.zero_le, reduceCtorEq, true_or, or_true, false_or, or_false, false_and, and_false, false_implies, Nat.zero_add, Nat.add_zero, Int.reduceEq, Int.reduceNe, Int.reduceLT, Int.reduceLE, Int.reduceNeg, Int.reduceToNat, Nat.not_lt_zero, Int.reduceAdd]
  rw [x_and_15 (by omega), pkw_b w hp]
  exact k
theorem cM_contentIn (w : wfS S nid) {p part : Nat} (hp : p < sN S) (h6 : part < 6) (k : Φ (.inl (some (xI (sC S part p)))) M h) : x_Cal zM_contentIn [xI (pkw S p), xI part] M h Φ := by
  have h1 := pkw_r w hp
  refine x_met0 kM_contentIn (Nat.le_of_ble_eq_true rfl) ?_
  simp only [wq_g3, wq_gc, wq_g, wq_g1, wq_g2, eM_contentIn, iM_contentIn_0, vM_contentIn, wps, x_cnd, reduceIte, Nat.reduceAdd, Nat.reduceSub, Nat.reduceEqDiff, Nat.reduceLeDiff, Nat.lt_irrefl, Nat.reduceLT, Int.cast_ofNat_Int, wq_c0, wq_c1, true_and, and_true, and_self, true_implies, forall_const, ne_eq, Decidable.not_not, not_true_eq_false, not_false_eq_true, List.map_nil, List.map_cons, List.sum_nil, List.sum_cons, List.length_cons, List.length_nil, Nat.le_refl, Nat.zero_le, reduceCtorEq, true_or, or_true, false_or, or_false, false_and, and_false, false_implies, Nat.zero_add, Nat.add_zero, Int.reduceEq, Int.reduceNe, Int.reduceLT, Int.reduceLE, Int.reduceNeg, Int.reduceToNat, Nat.not_lt_zero, Int.reduceAdd]
  simp (disch := omega) only [w32_of]
  have hq : (0 : Int) < ((2 ^ (8 + 2 * part) : Nat) : Int) := by have := Nat.two_pow_pos (8 + 2 * part); omega
  rw [show (8 : Int) + 2 * part = ((8 + 2 * part : Nat) : Int) by omega, x_shr_int (by omega) (by unfold x_i32; omega), x_and_3 ⟨Int.ediv_nonneg h1.1 (by omega), Int.lt_of_le_of_lt (Int.ediv_le_self _ h1.1) (by omega)⟩, pkw_c w hp h6]
  exact k
theorem cM_contentAt (F : Fx h) (G : SG S (M 42)) (w : wfS S nid) {p part : Nat} (hp : p < sN S) (h6 : part < 6) (k : Φ (.inl (some (xI (sC S part p)))) M h) : x_Cal zM_contentAt [xA 41, xI part, xI p] M h Φ := by
  have hN := w.N
  refine x_met0 kM_contentAt (Nat.le_of_ble_eq_true rfl) ?_
  simp only [wq_g3, wq_gc, wq_g, wq_g1, wq_g2, eM_contentAt, iM_contentAt_0, vM_contentAt, wps, x_cnd, reduceIte, Nat.reduceAdd, Nat.reduceSub, Nat.reduceEqDiff, Nat.reduceLeDiff, Nat.lt_irrefl, Nat.reduceLT, Int.cast_ofNat_Int, wq_c0, wq_c1, true_and, and_true, and_self, true_implies, forall_const, ne_eq, Decidable.not_not, not_true_eq_false, not_false_eq_true, List.map_nil, List.map_cons, List.sum_nil, List.sum_cons, List.length_cons, List.length_nil, Nat.le_refl, Nat.zero_le, reduceCtorEq, true_or, or_true, false_or, or_false, false_and, and_false, false_implies, Nat.zero_add, Nat.add_zero, Int.reduceEq, Int.reduceNe, Int.reduceLT, Int.reduceLE, Int.reduceNeg, Int.reduceToNat, Nat.not_lt_zero, Int.reduceAdd, fxs F]
  refine cM_whatAt F (by omega) ?_
  rw [G.w hp]
  simp only [wq_g3, wq_gc, wq_g, wq_g1, wq_g2, eM_contentAt, iM_contentAt_0, vM_contentAt, wps, x_cnd, reduceIte, Nat.reduceAdd, Nat.reduceSub, Nat.reduceEqDiff, Nat.reduceLeDiff, Nat.lt_irrefl, Nat.reduceLT, Int.cast_ofNat_Int, wq_c0, wq_c1, true_and, and_true, and_self, true_implies, forall_const, ne_eq, Decidable.not_not, not_true_eq_false, not_false_eq_true, List.map_nil, List.map_cons, List.sum_nil, List.sum_cons, List.length_cons, List.length_nil, Nat.le_refl, Nat.zero_le, reduceCtorEq, true_or, or_true, false_or, or_false, false_and, and_false, false_implies, Nat.zero_add, Nat.add_zero, Int.reduceEq, Int.reduceNe, Int.reduceLT, Int.reduceLE, Int.reduceNeg, Int.reduceToNat, Nat.not_lt_zero, Int.reduceAdd, fxs F]
  refine cM_contentIn w hp h6 ?_
  simp only [wq_g3, wq_gc, wq_g, wq_g1, wq_g2, eM_contentAt, iM_contentAt_0, vM_contentAt, wps, x_cnd, reduceIte, Nat.reduceAdd, Nat.reduceSub, Nat.reduceEqDiff, Nat.reduceLeDiff, Nat.lt_irrefl, Nat.reduceLT, Int.cast_ofNat_Int, wq_c0, wq_c1, true_and, and_true, and_self, true_implies, forall_const, ne_eq, Decidable.not_not, not_true_eq_false, not_false_eq_true, List.map_nil, List.map_cons, List.sum_nil, List.sum_cons, List.length_cons, List.length_nil, Nat.le_refl, Nat.zero_le, reduceCtorEq, true_or, or_true, false_or, or_false, false_and, and_false, false_implies, Nat.zero_add, Nat.add_zero, Int.reduceEq, Int.reduceNe, Int.reduceLT, Int.reduceLE, Int.reduceNeg, Int.reduceToNat, Nat.not_lt_zero, Int.reduceAdd, fxs F]
  exact k
theorem cM_placeOf (F : Fx h) (G : SG S (M 42)) (w : wfS S nid) {x : Int} (k : Φ (.inl (some (xI (pl S x)))) M h) : x_Cal zM_placeOf [xA 41, xI x] M h Φ := by
  have hN := w.N
  have e0 := G.n
  refine x_metI kM_placeOf (Nat.le_of_ble_eq_true rfl) (fun t m ls st M' h' c n2 => t = 2 ∧ st = [] ∧ h' = h ∧ M' = M ∧ c = 0 ∧ n2 = 0 ∧ ls 0 = some (xA 41) ∧ ls 1 = some (xI x) ∧ ∃ p : Nat, p ≤ sN S ∧ m = sN S - p ∧ ls 2 = some (xI p) ∧ fi (sI S) x p = -1) 20 ?_ ?_
  · simp only [wq_g3, wq_gc, wq_g, wq_g1, wq_g2, eM_placeOf, iM_placeOf_0, iM_placeOf_2, iM_placeOf_23, iM_placeOf_29, vM_placeOf, wps, x_cnd, reduceIte, Nat.reduceAdd, Nat.reduceSub, Nat.reduceEqDiff, Nat.reduceLeDiff, Nat.lt_irrefl, Nat.reduceLT, Int.cast_ofNat_Int, wq_c0, wq_c1, true_and, and_true, and_self, true_implies, forall_const, ne_eq, Decidable.not_not, not_true_eq_false, not_false_eq_true, List.map_nil, List.map_cons, List.sum_nil, List.sum_cons, List.length_cons, List.length_nil, Nat.le_refl, Nat.zero_le, reduceCtorEq, true_or, or_true, false_or, or_false, false_and, and_false, false_implies, Nat.zero_add, Nat.add_zero, Int.reduceEq, Int.reduceNe, Int.reduceLT, Int.reduceLE, Int.reduceNeg, Int.reduceToNat, Nat.not_lt_zero, Int.reduceAdd, fxs F]
    exact ⟨sN S, 0, by omega, by omega, by rw [Int.natCast_zero], rfl⟩
  · rintro t m ls st M' h' c n2 ⟨rfl, rfl, rfl, rfl, rfl, rfl, l0, l1, p, q1, q2, l2, q3⟩
    simp only [wq_g3, wq_gc, wq_g, wq_g1, wq_g2, eM_placeOf, iM_placeOf_0, iM_placeOf_2, iM_placeOf_23, iM_placeOf_29, vM_placeOf, wps, x_cnd, reduceIte, Nat.reduceAdd, Nat.reduceSub, Nat.reduceEqDiff, Nat.reduceLeDiff, Nat.lt_irrefl, Nat.reduceLT, Int.cast_ofNat_Int, wq_c0, wq_c1, true_and, and_true, and_self, true_implies, forall_const, ne_eq, Decidable.not_not, not_true_eq_false, not_false_eq_true, List.map_nil, List.map_cons, List.sum_nil, List.sum_cons, List.length_cons, List.length_nil, Nat.le_refl, Nat.zero_le, reduceCtorEq, true_or, or_true, false_or, or_false, false_and, and_false, false_implies, Nat.zero_add, Nat.add_zero, Int.reduceEq, Int.reduceNe, Int.reduceLT, Int.reduceLE, Int.reduceNeg, Int.reduceToNat, Nat.not_lt_zero, Int.reduceAdd, fxs F, l0, l1, l2, e0]
    refine ⟨fun c0 => kr k (by rw [← q3]; unfold pl; congr 1; omega), fun c0 => cM_idAt F (by omega) ?_⟩
    rw [G.id (by omega)]
    simp only [wq_g3, wq_gc, wq_g, wq_g1, wq_g2, eM_placeOf, iM_placeOf_0, iM_placeOf_2, iM_placeOf_23, iM_placeOf_29, vM_placeOf, wps, x_cnd, reduceIte, Nat.reduceAdd, Nat.reduceSub, Nat.reduceEqDiff, Nat.reduceLeDiff, Nat.lt_irrefl, Nat.reduceLT, Int.cast_ofNat_Int, wq_c0, wq_c1, true_and, and_true, and_self, true_implies, forall_const, ne_eq, Decidable.not_not, not_true_eq_false, not_false_eq_true, List.map_nil, List.map_cons, List.sum_nil, List.sum_cons, List.length_cons, List.length_nil, Nat.le_refl, Nat.zero_le, reduceCtorEq, true_or, or_true, false_or, or_false, false_and, and_false, false_implies, Nat.zero_add, Nat.add_zero, Int.reduceEq, Int.reduceNe, Int.reduceLT, Int.reduceLE, Int.reduceNeg, Int.reduceToNat, Nat.not_lt_zero, Int.reduceAdd, fxs F, l0, l1, l2, e0]
    simp (disch := omega) only [w32_of]
    refine ⟨fun c1 => ⟨sN S - (p + 1), by omega, p + 1, by omega, rfl, congrArg (fun z => some (xI z)) (by omega), fi_step q3 c1⟩, fun c1 => kr k (fi_found (by omega) c1 q3)⟩
theorem cM_isBar (F : Fx h) (G : SG S (M 42)) (w : wfS S nid) {x : Int} (k : Φ (.inl (some (xI (b01 (pl S x ≠ -1))))) M h) : x_Cal zM_isBar [xA 41, xI x] M h Φ := by
  refine x_met0 kM_isBar (Nat.le_of_ble_eq_true rfl) ?_
  simp only [wq_g3, wq_gc, wq_g, wq_g1, wq_g2, eM_isBar, iM_isBar_0, iM_isBar_13, iM_isBar_14, vM_isBar, wps, x_cnd, reduceIte, Nat.reduceAdd, Nat.reduceSub, Nat.reduceEqDiff, Nat.reduceLeDiff, Nat.lt_irrefl, Nat.reduceLT, Int.cast_ofNat_Int, wq_c0, wq_c1, true_and, and_true, and_self, true_implies, forall_const, ne_eq, Decidable.not_not, not_true_eq_false, not_false_eq_true, List.map_nil, List.map_cons, List.sum_nil, List.sum_cons, List.length_cons, List.length_nil, Nat.le_refl, Nat.zero_le, reduceCtorEq, true_or, or_true, false_or, or_false, false_and, and_false, false_implies, Nat.zero_add, Nat.add_zero, Int.reduceEq, Int.reduceNe, Int.reduceLT, Int.reduceLE, Int.reduceNeg, Int.reduceToNat, Nat.not_lt_zero, Int.reduceAdd, fxs F]
  refine cM_placeOf F G w ?_
  simp only [wq_g3, wq_gc, wq_g, wq_g1, wq_g2, eM_isBar, iM_isBar_0, iM_isBar_13, iM_isBar_14, vM_isBar, wps, x_cnd, reduceIte, Nat.reduceAdd, Nat.reduceSub, Nat.reduceEqDiff, Nat.reduceLeDiff, Nat.lt_irrefl, Nat.reduceLT, Int.cast_ofNat_Int, wq_c0, wq_c1, true_and, and_true, and_self, true_implies, forall_const, ne_eq, Decidable.not_not, not_true_eq_false, not_false_eq_true, List.map_nil, List.map_cons, List.sum_nil, List.sum_cons, List.length_cons, List.length_nil, Nat.le_refl, Nat.zero_le, reduceCtorEq, true_or, or_true, false_or, or_false, false_and, and_false, false_implies, Nat.zero_add, Nat.add_zero, Int.reduceEq, Int.reduceNe, Int.reduceLT, Int.reduceLE, Int.reduceNeg, Int.reduceToNat, Nat.not_lt_zero, Int.reduceAdd, fxs F]
  exact ⟨fun c0 => kr k (b01_f (fun q => q c0)), fun c0 => kr k (b01_t c0)⟩
theorem cM_isPart (F : Fx h) (G : SG S (M 42)) (w : wfS S nid) {x : Int} (k : Φ (.inl (some (xI (b01 (0 ≤ x ∧ x < sP S))))) M h) : x_Cal zM_isPart [xA 41, xI x] M h Φ := by
  have hP := w.P
  have e0 := G.p
  refine x_met0 kM_isPart (Nat.le_of_ble_eq_true rfl) ?_
  simp only [wq_g3, wq_gc, wq_g, wq_g1, wq_g2, eM_isPart, iM_isPart_0, vM_isPart, wps, x_cnd, reduceIte, Nat.reduceAdd, Nat.reduceSub, Nat.reduceEqDiff, Nat.reduceLeDiff, Nat.lt_irrefl, Nat.reduceLT, Int.cast_ofNat_Int, wq_c0, wq_c1, true_and, and_true, and_self, true_implies, forall_const, ne_eq, Decidable.not_not, not_true_eq_false, not_false_eq_true, List.map_nil, List.map_cons, List.sum_nil, List.sum_cons, List.length_cons, List.length_nil, Nat.le_refl, Nat.zero_le, reduceCtorEq, true_or, or_true, false_or, or_false, false_and, and_false, false_implies, Nat.zero_add, Nat.add_zero, Int.reduceEq, Int.reduceNe, Int.reduceLT, Int.reduceLE, Int.reduceNeg, Int.reduceToNat, Nat.not_lt_zero, Int.reduceAdd, fxs F, e0]
  simp (disch := omega) only [w32_of]
  refine cM_in ?_
  simp only [wq_g3, wq_gc, wq_g, wq_g1, wq_g2, eM_isPart, iM_isPart_0, vM_isPart, wps, x_cnd, reduceIte, Nat.reduceAdd, Nat.reduceSub, Nat.reduceEqDiff, Nat.reduceLeDiff, Nat.lt_irrefl, Nat.reduceLT, Int.cast_ofNat_Int, wq_c0, wq_c1, true_and, and_true, and_self, true_implies, forall_const, ne_eq, Decidable.not_not, not_true_eq_false, not_false_eq_true, List.map_nil, List.map_cons, List.sum_nil, List.sum_cons, List.length_cons, List.length_nil, Nat.le_refl, Nat.zero_le, reduceCtorEq, true_or, or_true, false_or, or_false, false_and, and_false, false_implies, Nat.zero_add, Nat.add_zero, Int.reduceEq, Int.reduceNe, Int.reduceLT, Int.reduceLE, Int.reduceNeg, Int.reduceToNat, Nat.not_lt_zero, Int.reduceAdd, fxs F, e0]
  exact ⟨b01_e, kr k (b01_c (by omega))⟩
theorem cM_isInserted (F : Fx h) (G : SG S (M 42)) (w : wfS S nid) {p : Nat} (hp : p < sN S) (k : Φ (.inl (some (xI (b01 (sX S p = 1))))) M h) : x_Cal zM_isInserted [xA 41, xI p] M h Φ := by
  have hN := w.N
  have h1 := pkw_r w hp
  refine x_met0 kM_isInserted (Nat.le_of_ble_eq_true rfl) ?_
  simp only [wq_g3, wq_gc, wq_g, wq_g1, wq_g2, eM_isInserted, iM_isInserted_0, vM_isInserted, wps, x_cnd, reduceIte, Nat.reduceAdd, Nat.reduceSub, Nat.reduceEqDiff, Nat.reduceLeDiff, Nat.lt_irrefl, Nat.reduceLT, Int.cast_ofNat_Int, wq_c0, wq_c1, true_and, and_true, and_self, true_implies, forall_const, ne_eq, Decidable.not_not, not_true_eq_false, not_false_eq_true, List.map_nil, List.map_cons, List.sum_nil, List.sum_cons, List.length_cons, List.length_nil, Nat.le_refl, Nat.zero_le, reduceCtorEq, true_or, or_true, false_or, or_false, false_and, and_false, false_implies, Nat.zero_add, Nat.add_zero, Int.reduceEq, Int.reduceNe, Int.reduceLT, Int.reduceLE, Int.reduceNeg, Int.reduceToNat, Nat.not_lt_zero, Int.reduceAdd, fxs F]
  refine cM_whatAt F (by omega) ?_
  rw [G.w hp]
  simp only [wq_g3, wq_gc, wq_g, wq_g1, wq_g2, eM_isInserted, iM_isInserted_0, vM_isInserted, wps, x_cnd, reduceIte, Nat.reduceAdd, Nat.reduceSub, Nat.reduceEqDiff, Nat.reduceLeDiff, Nat.lt_irrefl, Nat.reduceLT, Int.cast_ofNat_Int, wq_c0, wq_c1, true_and, and_true, and_self, true_implies, forall_const, ne_eq, Decidable.not_not, not_true_eq_false, not_false_eq_true, List.map_nil, List.map_cons, List.sum_nil, List.sum_cons, List.length_cons, List.length_nil, Nat.le_refl, Nat.zero_le, reduceCtorEq, true_or, or_true, false_or, or_false, false_and, and_false, false_implies, Nat.zero_add, Nat.add_zero, Int.reduceEq, Int.reduceNe, Int.reduceLT, Int.reduceLE, Int.reduceNeg, Int.reduceToNat, Nat.not_lt_zero, Int.reduceAdd, fxs F]
  refine cM_has (c := 4) (by omega) (by omega) ?_
  simp only [wq_g3, wq_gc, wq_g, wq_g1, wq_g2, eM_isInserted, iM_isInserted_0, vM_isInserted, wps, x_cnd, reduceIte, Nat.reduceAdd, Nat.reduceSub, Nat.reduceEqDiff, Nat.reduceLeDiff, Nat.lt_irrefl, Nat.reduceLT, Int.cast_ofNat_Int, wq_c0, wq_c1, true_and, and_true, and_self, true_implies, forall_const, ne_eq, Decidable.not_not, not_true_eq_false, not_false_eq_true, List.map_nil, List.map_cons, List.sum_nil, List.sum_cons, List.length_cons, List.length_nil, Nat.le_refl, Nat.zero_le, reduceCtorEq, true_or, or_true, false_or, or_false, false_and, and_false, false_implies, Nat.zero_add, Nat.add_zero, Int.reduceEq, Int.reduceNe, Int.reduceLT, Int.reduceLE, Int.reduceNeg, Int.reduceToNat, Nat.not_lt_zero, Int.reduceAdd, fxs F]
  exact ⟨b01_e, kr k (b01_c (by rw [← (pkw_x w hp).1]; exact Iff.rfl))⟩
theorem cM_isCut (F : Fx h) (G : SG S (M 42)) {x : Int} (k : Φ (.inl (some (xI (b01 (0 ≤ x ∧ x < 10 ∧ sF S x ≠ -1))))) M h) : x_Cal zM_isCut [xA 41, xI x] M h Φ := by
  have e0 := G.cb
  refine x_met0 kM_isCut (Nat.le_of_ble_eq_true rfl) ?_
  simp only [wq_g3, wq_gc, wq_g, wq_g1, wq_g2, eM_isCut, iM_isCut_0, iM_isCut_27, iM_isCut_28, vM_isCut, wps, x_cnd, reduceIte, Nat.reduceAdd, Nat.reduceSub, Nat.reduceEqDiff, Nat.reduceLeDiff, Nat.lt_irrefl, Nat.reduceLT, Int.cast_ofNat_Int, wq_c0, wq_c1, true_and, and_true, and_self, true_implies, forall_const, ne_eq, Decidable.not_not, not_true_eq_false, not_false_eq_true, List.map_nil, List.map_cons, List.sum_nil, List.sum_cons, List.length_cons, List.length_nil, Nat.le_refl, Nat.zero_le, reduceCtorEq, true_or, or_true, false_or, or_false, false_and, and_false, false_implies, Nat.zero_add, Nat.add_zero, Int.reduceEq, Int.reduceNe, Int.reduceLT, Int.reduceLE, Int.reduceNeg, Int.reduceToNat, Nat.not_lt_zero, Int.reduceAdd, fxs F]
  refine cM_in ?_
  simp only [wq_g3, wq_gc, wq_g, wq_g1, wq_g2, eM_isCut, iM_isCut_0, iM_isCut_27, iM_isCut_28, vM_isCut, wps, x_cnd, reduceIte, Nat.reduceAdd, Nat.reduceSub, Nat.reduceEqDiff, Nat.reduceLeDiff, Nat.lt_irrefl, Nat.reduceLT, Int.cast_ofNat_Int, wq_c0, wq_c1, true_and, and_true, and_self, true_implies, forall_const, ne_eq, Decidable.not_not, not_true_eq_false, not_false_eq_true, List.map_nil, List.map_cons, List.sum_nil, List.sum_cons, List.length_cons, List.length_nil, Nat.le_refl, Nat.zero_le, reduceCtorEq, true_or, or_true, false_or, or_false, false_and, and_false, false_implies, Nat.zero_add, Nat.add_zero, Int.reduceEq, Int.reduceNe, Int.reduceLT, Int.reduceLE, Int.reduceNeg, Int.reduceToNat, Nat.not_lt_zero, Int.reduceAdd, fxs F, b01_0, e0]
  refine ⟨fun c0 => kr k (b01_f (by omega)), fun c0 => ?_⟩
  obtain ⟨c, rfl⟩ : ∃ c : Nat, x = c := ⟨x.toNat, by omega⟩
  refine cM_hasB (by decide) (by omega) ?_
  simp only [wq_g3, wq_gc, wq_g, wq_g1, wq_g2, eM_isCut, iM_isCut_0, iM_isCut_27, iM_isCut_28, vM_isCut, wps, x_cnd, reduceIte, Nat.reduceAdd, Nat.reduceSub, Nat.reduceEqDiff, Nat.reduceLeDiff, Nat.lt_irrefl, Nat.reduceLT, Int.cast_ofNat_Int, wq_c0, wq_c1, true_and, and_true, and_self, true_implies, forall_const, ne_eq, Decidable.not_not, not_true_eq_false, not_false_eq_true, List.map_nil, List.map_cons, List.sum_nil, List.sum_cons, List.length_cons, List.length_nil, Nat.le_refl, Nat.zero_le, reduceCtorEq, true_or, or_true, false_or, or_false, false_and, and_false, false_implies, Nat.zero_add, Nat.add_zero, Int.reduceEq, Int.reduceNe, Int.reduceLT, Int.reduceLE, Int.reduceNeg, Int.reduceToNat, Nat.not_lt_zero, Int.reduceAdd, fxs F, b01_0, e0]
  have e : hasC S c = true ↔ sF S c ≠ -1 := by unfold hasC; simp
  rw [e]
  exact ⟨fun c1 => kr k (b01_f (fun q => c1 q.2.2)), fun c1 => kr k (b01_t ⟨c0.1, by omega, c1⟩)⟩
theorem cM_isMark (F : Fx h) (G : SG S (M 42)) {x : Int} (k : Φ (.inl (some (xI (b01 (1 ≤ x ∧ x ≤ 40 ∧ sM S x ≠ -1))))) M h) : x_Cal zM_isMark [xA 41, xI x] M h Φ := by
  refine x_met0 kM_isMark (Nat.le_of_ble_eq_true rfl) ?_
  simp only [wq_g3, wq_gc, wq_g, wq_g1, wq_g2, eM_isMark, iM_isMark_0, iM_isMark_28, iM_isMark_29, vM_isMark, wps, x_cnd, reduceIte, Nat.reduceAdd, Nat.reduceSub, Nat.reduceEqDiff, Nat.reduceLeDiff, Nat.lt_irrefl, Nat.reduceLT, Int.cast_ofNat_Int, wq_c0, wq_c1, true_and, and_true, and_self, true_implies, forall_const, ne_eq, Decidable.not_not, not_true_eq_false, not_false_eq_true, List.map_nil, List.map_cons, List.sum_nil, List.sum_cons, List.length_cons, List.length_nil, Nat.le_refl, Nat.zero_le, reduceCtorEq, true_or, or_true, false_or, or_false, false_and, and_false, false_implies, Nat.zero_add, Nat.add_zero, Int.reduceEq, Int.reduceNe, Int.reduceLT, Int.reduceLE, Int.reduceNeg, Int.reduceToNat, Nat.not_lt_zero, Int.reduceAdd, fxs F]
  refine cM_in ?_
  simp only [wq_g3, wq_gc, wq_g, wq_g1, wq_g2, eM_isMark, iM_isMark_0, iM_isMark_28, iM_isMark_29, vM_isMark, wps, x_cnd, reduceIte, Nat.reduceAdd, Nat.reduceSub, Nat.reduceEqDiff, Nat.reduceLeDiff, Nat.lt_irrefl, Nat.reduceLT, Int.cast_ofNat_Int, wq_c0, wq_c1, true_and, and_true, and_self, true_implies, forall_const, ne_eq, Decidable.not_not, not_true_eq_false, not_false_eq_true, List.map_nil, List.map_cons, List.sum_nil, List.sum_cons, List.length_cons, List.length_nil, Nat.le_refl, Nat.zero_le, reduceCtorEq, true_or, or_true, false_or, or_false, false_and, and_false, false_implies, Nat.zero_add, Nat.add_zero, Int.reduceEq, Int.reduceNe, Int.reduceLT, Int.reduceLE, Int.reduceNeg, Int.reduceToNat, Nat.not_lt_zero, Int.reduceAdd, fxs F, b01_0]
  refine ⟨fun c0 => kr k (b01_f (by omega)), fun c0 => ?_⟩
  obtain ⟨c, rfl⟩ : ∃ c : Nat, x = c := ⟨x.toNat, by omega⟩
  rw [w32_of (by omega), G.mk (by omega) (by omega)]
  exact ⟨by omega, fun c1 => kr k (b01_f (fun q => q.2.2 c1)), fun c1 => kr k (b01_t ⟨c0.1, c0.2, c1⟩)⟩
/-- the letter that sits on a bar, by ids -/
def lOn (S : xSr) (x : Int) : Int := fi (fun l => sM S (l + 1)) x 40 + 1
theorem cM_letterOn (F : Fx h) (G : SG S (M 42)) {x : Int} (k : Φ (.inl (some (xI (lOn S x)))) M h) : x_Cal zM_letterOn [xA 41, xI x] M h Φ := by
  refine x_metI kM_letterOn (Nat.le_of_ble_eq_true rfl) (fun t m ls st M' h' c n2 => t = 2 ∧ st = [] ∧ h' = h ∧ M' = M ∧ c = 0 ∧ n2 = 0 ∧ ls 0 = some (xA 41) ∧ ls 1 = some (xI x) ∧ ∃ p : Nat, p ≤ 40 ∧ m = 40 - p ∧ ls 2 = some (xI ((p : Int) + 1)) ∧ fi (fun l => sM S (l + 1)) x p = -1) 20 ?_ ?_
  · simp only [wq_g3, wq_gc, wq_g, wq_g1, wq_g2, eM_letterOn, iM_letterOn_0, iM_letterOn_2, iM_letterOn_24, iM_letterOn_30, vM_letterOn, wps, x_cnd, reduceIte, Nat.reduceAdd, Nat.reduceSub, Nat.reduceEqDiff, Nat.reduceLeDiff, Nat.lt_irrefl, Nat.reduceLT, Int.cast_ofNat_Int, wq_c0, wq_c1, true_and, and_true, and_self, true_implies, forall_const, ne_eq, Decidable.not_not, not_true_eq_false, not_false_eq_true, List.map_nil, List.map_cons, List.sum_nil, List.sum_cons, List.length_cons, List.length_nil, Nat.le_refl, Nat.zero_le, reduceCtorEq, true_or, or_true, false_or, or_false, false_and, and_false, false_implies, Nat.zero_add, Nat.add_zero, Int.reduceEq, Int.reduceNe, Int.reduceLT, Int.reduceLE, Int.reduceNeg, Int.reduceToNat, Nat.not_lt_zero, Int.reduceAdd, fxs F]
    exact ⟨40, 0, by omega, by omega, by rw [Int.natCast_zero]; rfl, rfl⟩
  · rintro t m ls st M' h' c n2 ⟨rfl, rfl, rfl, rfl, rfl, rfl, l0, l1, p, q1, q2, l2, q3⟩
    simp only [wq_g3, wq_gc, wq_g, wq_g1, wq_g2, eM_letterOn, iM_letterOn_0, iM_letterOn_2, iM_letterOn_24, iM_letterOn_30, vM_letterOn, wps, x_cnd, reduceIte, Nat.reduceAdd, Nat.reduceSub, Nat.reduceEqDiff, Nat.reduceLeDiff, Nat.lt_irrefl, Nat.reduceLT, Int.cast_ofNat_Int, wq_c0, wq_c1, true_and, and_true, and_self, true_implies, forall_const, ne_eq, Decidable.not_not, not_true_eq_false, not_false_eq_true, List.map_nil, List.map_cons, List.sum_nil, List.sum_cons, List.length_cons, List.length_nil, Nat.le_refl, Nat.zero_le, reduceCtorEq, true_or, or_true, false_or, or_false, false_and, and_false, false_implies, Nat.zero_add, Nat.add_zero, Int.reduceEq, Int.reduceNe, Int.reduceLT, Int.reduceLE, Int.reduceNeg, Int.reduceToNat, Nat.not_lt_zero, Int.reduceAdd, fxs F, l0, l1, l2]
    simp (disch := omega) only [w32_of]
    refine ⟨fun c0 => kr k (by unfold lOn; rw [show p = 40 by omega] at q3; rw [q3]; rfl), fun c0 => ⟨by omega, ?_⟩⟩
    have e := G.mk (l := p + 1) (by omega) (by omega)
    rw [show ((p + 1 : Nat) : Int) = (p : Int) + 1 by omega] at e
    rw [e]
    refine ⟨fun c1 => ⟨40 - (p + 1), by omega, p + 1, by omega, rfl, congrArg (fun z => some (xI z)) (by omega), fi_step q3 c1⟩, fun c1 => kr k (by unfold lOn; rw [fi_found (p := p) (by omega) c1 q3])⟩
theorem lOn_sit (w : wfS S nid) {p : Nat} (hp : p < sN S) : lOn S (sI S p) = sit S p := by
  unfold lOn
  by_cases hc : fi (fun l => sM S (l + 1)) (sI S p) 40 = -1
  · rw [hc]
    refine ((sit_0 w hp).mpr (fun l h1 h2 => ?_)).symm
    have := fi_no hc (l - 1) (by omega)
    rw [show ((l - 1 : Nat) : Int) + 1 = l by omega] at this
    exact this
  · obtain ⟨q, h1, h2, h3, -⟩ := fi_some hc
    rw [h2]
    have := (sit_iff w hp (l := q + 1) (by omega) (by omega)).mpr (by rw [show ((q + 1 : Nat) : Int) = (q : Int) + 1 by omega]; exact h3)
    rw [this]
    rfl
end MODA
