/-! the reader: words, numbers, failures -/
section WDK
variable {B C : Int → Int} {b : Int} {s s' n x : Nat} {l : Bool}
def Lts (B : Int → Int) (s k : Nat) : Prop := ∀ q : Nat, q < k → 97 ≤ B ((s + q : Nat) : Int) ∧ B ((s + q : Nat) : Int) ≤ 122
theorem wdk_s (k : Nat) : wdk b B s (k + 1) = b * wdk b B s k + (B ((s + k : Nat) : Int) - 96) := rfl
theorem wdk_0 (hb : b = 27 ∨ b = 32) : ∀ {k : Nat}, Lts B s k → 0 ≤ wdk b B s k ∧ (0 < k → 1 ≤ wdk b B s k)
  | 0, _ => ⟨Int.le_refl _, fun h => absurd h (Nat.lt_irrefl _)⟩
  | k + 1, h => by
    have h1 := (wdk_0 hb (k := k) (fun q hq => h q (by omega))).1
    have h2 := h k (by omega)
    rw [wdk_s]
    rcases hb with rfl | rfl <;> omega
theorem wdk_inj (hb : b = 27 ∨ b = 32) : ∀ {k k' : Nat}, Lts B s k → Lts C s' k' → wdk b B s k = wdk b C s' k' → k = k' ∧ ∀ q : Nat, q < k → B ((s + q : Nat) : Int) = C ((s' + q : Nat) : Int)
  | 0, 0, _, _, _ => ⟨rfl, fun q hq => absurd hq (Nat.not_lt_zero _)⟩
  | 0, k' + 1, _, h', e => by
    have := (wdk_0 hb h').2 (by omega)
    have e : 0 = wdk b C s' (k' + 1) := e
    omega
  | k + 1, 0, h, _, e => by
    have := (wdk_0 hb h).2 (by omega)
    have e : wdk b B s (k + 1) = 0 := e
    omega
  | k + 1, k' + 1, h, h', e => by
    rw [wdk_s, wdk_s] at e
    have h2 := h k (by omega)
    have h3 := h' k' (by omega)
    have e2 : wdk b B s k = wdk b C s' k' := by rcases hb with rfl | rfl <;> omega
    obtain ⟨i1, i2⟩ := wdk_inj hb (fun q hq => h q (by omega)) (fun q hq => h' q (by omega)) e2
    subst i1
    refine ⟨rfl, fun q hq => ?_⟩
    by_cases hq2 : q = k
    · subst hq2
      rw [e2] at e
      omega
    · exact i2 q (by omega)
theorem wdk_cg : ∀ {k : Nat}, (∀ q : Nat, q < k → B ((s + q : Nat) : Int) = C ((s' + q : Nat) : Int)) → wdk b B s k = wdk b C s' k
  | 0, _ => rfl
  | k + 1, h => by rw [wdk_s, wdk_s, wdk_cg (k := k) (fun q hq => h q (by omega)), h k (by omega)]
theorem wdk_27 {k k' : Nat} (h : Lts B s k) (h' : Lts C s' k') : wdk 27 B s k = wdk 27 C s' k' ↔ wdk 32 B s k = wdk 32 C s' k' :=
  ⟨fun e => by
    obtain ⟨i1, i2⟩ := wdk_inj (Or.inl rfl) h h' e
    subst i1
    exact wdk_cg i2, fun e => by
    obtain ⟨i1, i2⟩ := wdk_inj (Or.inr rfl) h h' e
    subst i1
    exact wdk_cg i2⟩
theorem wdk_hi : ∀ {k : Nat}, Lts B s k → wdk 27 B s k < ((27 ^ k : Nat) : Int)
  | 0, _ => by show (0 : Int) < 1; omega
  | k + 1, h => by
    have h1 := wdk_hi (k := k) (fun q hq => h q (by omega))
    have h2 := h k (by omega)
    have e : ((27 ^ (k + 1) : Nat) : Int) = 27 * ((27 ^ k : Nat) : Int) := by rw [Nat.pow_succ]; push_cast; omega
    rw [e, wdk_s]
    omega
theorem p27 {k : Nat} (h : k ≤ 6) : ((27 ^ k : Nat) : Int) ≤ 387420489 := by
  have : 27 ^ k ≤ 27 ^ 6 := Nat.pow_le_pow_right (by decide) h
  omega
theorem wdk_lt {k : Nat} (h : Lts B s k) (h6 : k ≤ 6) : 0 ≤ wdk 27 B s k ∧ wdk 27 B s k < 387420489 := by
  have h1 := wdk_hi h
  have h2 := p27 h6
  have h3 := (wdk_0 (Or.inl rfl) h).1
  omega
/-- the i-th String as a word's number -/
def wc (i : Nat) : Int := wdk 32 (x_ch i) 0 (x_sl i).toNat
theorem wc_ok : ∀ i, i < 9 → 1 ≤ x_sl i ∧ x_sl i ≤ 6 ∧ ∀ q, q < (x_sl i).toNat → 97 ≤ x_ch i ((0 + q : Nat) : Int) ∧ x_ch i ((0 + q : Nat) : Int) ≤ 122 := by decide +kernel
theorem wc_v : wc 0 = 67155 ∧ wc 1 = 427595 ∧ wc 2 = 661268 ∧ wc 3 = 150636933 ∧ wc 4 = 3764 ∧ wc 5 = 525908 ∧ wc 6 = 595572 ∧ wc 7 = 536633 ∧ wc 8 = 3749 := by decide +kernel
theorem kin_Lts (hx : x ≤ n) (h : kin B n x l = 1) : ts B n x < ten B n x ∧ ten B n x ≤ n ∧ Lts B (ts B n x) (ten B n x - ts B n x) := by
  obtain ⟨h1, h2, h3⟩ := kin_w.mp h
  obtain ⟨h4, h5, h6⟩ := twe_spec hx h2 h1
  rw [ten_w h]
  exact ⟨h4, h5, fun q hq => h6 _ (by omega) (by omega)⟩
theorem wc_iff {i : Nat} (hi : i < 9) (hx : x ≤ n) (h : kin B n x l = 1) : twv B n x = wc i ↔ ((ten B n x - ts B n x : Nat) : Int) = x_sl i ∧ ∀ q : Nat, q < (x_sl i).toNat → B ((ts B n x + q : Nat) : Int) = x_ch i q := by
  obtain ⟨h1, h2, h3⟩ := kin_Lts hx h
  obtain ⟨w1, w2, w3⟩ := wc_ok i hi
  unfold twv
  rw [← ten_w h]
  constructor
  · intro e
    by_cases h6 : ten B n x - ts B n x ≤ 6
    · rw [if_pos h6] at e
      obtain ⟨i1, i2⟩ := wdk_inj (Or.inr rfl) h3 w3 e
      exact ⟨by omega, fun q hq => by rw [i2 q (by omega), Nat.zero_add]⟩
    · rw [if_neg h6] at e
      have := (wdk_0 (b := 32) (Or.inr rfl) w3).2 (by omega)
      unfold wc at e
      omega
  · intro e
    rw [if_pos (by omega), show ten B n x - ts B n x = (x_sl i).toNat by omega]
    exact wdk_cg (fun q hq => by rw [e.2 q hq, Nat.zero_add])
end WDK
/-- the names of the parts -/
def NM (B : Int → Int) (R : xRd) (M : xM) : Prop := (∀ p : Nat, p < 6 → rN R p ≠ 0 → ∃ s k : Nat, k ≤ 6 ∧ Lts B s k ∧ M 15 p = wdk 27 B s k ∧ rN R p = wdk 32 B s k) ∧ ∀ p : Nat, p < sP (rS R) → rN R p ≠ 0
/-- outside the reader nothing changes -/
def FZ (M0 M : xM) : Prop := (∀ a j, a < 2 ∨ 15 < a → M a j = M0 a j) ∧ M 2 3 = M0 2 3
/-- the reader at the token behind x, its draft R -/
def RA (B : Int → Int) (n : Nat) (M0 : xM) (h : xH) (x : Nat) (l : Bool) (R : xRd) (M : xM) : Prop := (TX B n M ∧ FZ M0 M) ∧ (TK B n x l M ∧ x ≤ n) ∧ (repC (rS R) M h 3 ∧ M 2 6 = rC R) ∧ NM B R M ∧ wfR R ∧ (M 2 1 = 0 ∧ M 2 2 = -1)
def Fl (M0 : xM) (c : Int) (p : Nat) (M : xM) : Prop := FZ M0 M ∧ M 2 1 = c ∧ M 2 2 = p
section RDR
variable {B : Int → Int} {n x : Nat} {l : Bool} {R : xRd} {M0 M : xM} {h : xH} {Φ : xO → xM → xH → Prop}
set_option maxHeartbeats 1000000
theorem FZ.w {a : Nat} {j v : Int} (Z : FZ M0 M) (ha : 2 ≤ a ∧ a ≤ 15) (hb : ¬ (a = 2 ∧ j = 3)) : FZ M0 (x_w M a j v) :=
  ⟨fun b i hbi => (if_neg (by omega)).trans (Z.1 b i hbi), (if_neg (by omega)).trans Z.2⟩
theorem cR_fail (F : Fx h) (A : RA B n M0 h x l R M) {c : Int} (k : ∀ M', Fl M0 c (ts B n x) M' → Φ (.inl (some (xI 0))) M' h) : x_Cal zR_fail [xA 2, xI c] M h Φ := by
  have e9 := A.2.1.1.2.1
  refine x_met0 kR_fail (Nat.le_of_ble_eq_true rfl) ?_
  have e : x_w M 2 1 c 2 9 = ts B n x := (w_nj (by decide)).trans e9
  simp only [wq_g3, wq_gc, wq_g, wq_g1, wq_g2, eR_fail, iR_fail_0, vR_fail, wps, x_cnd, reduceIte, Nat.reduceAdd, Nat.reduceSub, Nat.reduceEqDiff, Nat.reduceLeDiff, Nat.lt_irrefl, Nat.reduceLT, Int.cast_ofNat_Int, wq_c0, wq_c1, true_and, and_true, and_self, true_implies, forall_const, ne_eq, Decidable.not_not, not_true_eq_false, not_false_eq_true, List.map_nil, List.map_cons, List.sum_nil, List.sum_cons, List.length_cons, List.length_nil, Nat.le_refl, Nat.zero_le, reduceCtorEq, true_or, or_true, false_or, or_false, false_and, and_false, false_implies, Nat.zero_add, Nat.add_zero, Int.reduceEq, Int.reduceNe, Int.reduceLT, Int.reduceLE, Int.reduceNeg, Int.reduceToNat, Nat.not_lt_zero, Int.reduceAdd, fxs F, e]
  exact k _ ⟨(A.1.2.w (by decide) (by decide)).w (by decide) (by decide), by rw [w_nj (by decide)]; exact w_eq, w_eq⟩
theorem cR_isNumberUpTo (F : Fx h) (A : RA B n M0 h x l R M) {hi : Int} (k0 : nuc B n x l hi ≠ 0 → ∀ M', Fl M0 (nuc B n x l hi) (ts B n x) M' → Φ (.inl (some (xI 0))) M' h) (k1 : nuc B n x l hi = 0 → kin B n x l = 2 → 1 ≤ tnv B n x → tnv B n x ≤ hi → tnv B n x ≤ 9999 → M 2 11 = tnv B n x → Φ (.inl (some (xI 1))) M h) : x_Cal zR_isNumberUpTo [xA 2, xI hi] M h Φ := by
  have e8 := A.2.1.1.1
  have e11 := A.2.1.1.2.2.2
  refine x_met0 kR_isNumberUpTo (Nat.le_of_ble_eq_true rfl) ?_
  simp only [wq_g3, wq_gc, wq_g, wq_g1, wq_g2, eR_isNumberUpTo, iR_isNumberUpTo_0, iR_isNumberUpTo_14, iR_isNumberUpTo_30, iR_isNumberUpTo_36, vR_isNumberUpTo, wps, x_cnd, reduceIte, Nat.reduceAdd, Nat.reduceSub, Nat.reduceEqDiff, Nat.reduceLeDiff, Nat.lt_irrefl, Nat.reduceLT, Int.cast_ofNat_Int, wq_c0, wq_c1, true_and, and_true, and_self, true_implies, forall_const, ne_eq, Decidable.not_not, not_true_eq_false, not_false_eq_true, List.map_nil, List.map_cons, List.sum_nil, List.sum_cons, List.length_cons, List.length_nil, Nat.le_refl, Nat.zero_le, reduceCtorEq, true_or, or_true, false_or, or_false, false_and, and_false, false_implies, Nat.zero_add, Nat.add_zero, Int.reduceEq, Int.reduceNe, Int.reduceLT, Int.reduceLE, Int.reduceNeg, Int.reduceToNat, Nat.not_lt_zero, Int.reduceAdd, fxs F, e8]
  refine ⟨fun c0 => ?_, fun c0 => ?_⟩
  · rw [e11 c0]
    have ht := tnv_rng A.2.1.2 c0
    have hk : ∀ c1 : tnv B n x < 1 ∨ hi < tnv B n x, nuc B n x l hi = 2 := fun c1 => by
      unfold nuc
      rw [if_neg (fun q => q c0), if_pos c1]
    refine ⟨fun c1 => ?_, fun c1 => ⟨fun c2 => k1 ?_ c0 (by omega) c2 ht.2 (e11 c0), fun c2 => ?_⟩⟩
    · refine cR_fail F A (fun M' fl => ?_)
      simp only [wq_g3, wq_gc, wq_g, wq_g1, wq_g2, eR_isNumberUpTo, iR_isNumberUpTo_0, iR_isNumberUpTo_14, iR_isNumberUpTo_30, iR_isNumberUpTo_36, vR_isNumberUpTo, wps, x_cnd, reduceIte, Nat.reduceAdd, Nat.reduceSub, Nat.reduceEqDiff, Nat.reduceLeDiff, Nat.lt_irrefl, Nat.reduceLT, Int.cast_ofNat_Int, wq_c0, wq_c1, true_and, and_true, and_self, true_implies, forall_const, ne_eq, Decidable.not_not, not_true_eq_false, not_false_eq_true, List.map_nil, List.map_cons, List.sum_nil, List.sum_cons, List.length_cons, List.length_nil, Nat.le_refl, Nat.zero_le, reduceCtorEq, true_or, or_true, false_or, or_false, false_and, and_false, false_implies, Nat.zero_add, Nat.add_zero, Int.reduceEq, Int.reduceNe, Int.reduceLT, Int.reduceLE, Int.reduceNeg, Int.reduceToNat, Nat.not_lt_zero, Int.reduceAdd, fxs F]
      have := hk (Or.inl c1)
      exact k0 (by omega) M' (this ▸ fl)
    · unfold nuc
      rw [if_neg (fun q => q c0), if_neg (by omega)]
    · refine cR_fail F A (fun M' fl => ?_)
      simp only [wq_g3, wq_gc, wq_g, wq_g1, wq_g2, eR_isNumberUpTo, iR_isNumberUpTo_0, iR_isNumberUpTo_14, iR_isNumberUpTo_30, iR_isNumberUpTo_36, vR_isNumberUpTo, wps, x_cnd, reduceIte, Nat.reduceAdd, Nat.reduceSub, Nat.reduceEqDiff, Nat.reduceLeDiff, Nat.lt_irrefl, Nat.reduceLT, Int.cast_ofNat_Int, wq_c0, wq_c1, true_and, and_true, and_self, true_implies, forall_const, ne_eq, Decidable.not_not, not_true_eq_false, not_false_eq_true, List.map_nil, List.map_cons, List.sum_nil, List.sum_cons, List.length_cons, List.length_nil, Nat.le_refl, Nat.zero_le, reduceCtorEq, true_or, or_true, false_or, or_false, false_and, and_false, false_implies, Nat.zero_add, Nat.add_zero, Int.reduceEq, Int.reduceNe, Int.reduceLT, Int.reduceLE, Int.reduceNeg, Int.reduceToNat, Nat.not_lt_zero, Int.reduceAdd, fxs F]
      have := hk (Or.inr (by omega))
      exact k0 (by omega) M' (this ▸ fl)
  · have hk : nuc B n x l hi = 1 := by
      unfold nuc
      rw [if_pos c0]
    refine cR_fail F A (fun M' fl => ?_)
    simp only [wq_g3, wq_gc, wq_g, wq_g1, wq_g2, eR_isNumberUpTo, iR_isNumberUpTo_0, iR_isNumberUpTo_14, iR_isNumberUpTo_30, iR_isNumberUpTo_36, vR_isNumberUpTo, wps, x_cnd, reduceIte, Nat.reduceAdd, Nat.reduceSub, Nat.reduceEqDiff, Nat.reduceLeDiff, Nat.lt_irrefl, Nat.reduceLT, Int.cast_ofNat_Int, wq_c0, wq_c1, true_and, and_true, and_self, true_implies, forall_const, ne_eq, Decidable.not_not, not_true_eq_false, not_false_eq_true, List.map_nil, List.map_cons, List.sum_nil, List.sum_cons, List.length_cons, List.length_nil, Nat.le_refl, Nat.zero_le, reduceCtorEq, true_or, or_true, false_or, or_false, false_and, and_false, false_implies, Nat.zero_add, Nat.add_zero, Int.reduceEq, Int.reduceNe, Int.reduceLT, Int.reduceLE, Int.reduceNeg, Int.reduceToNat, Nat.not_lt_zero, Int.reduceAdd, fxs F]
    exact k0 (by omega) M' (hk ▸ fl)
theorem RA.ts (A : RA B n M0 h x l R M) : ts B n x ≤ n ∧ ten B n x ≤ n ∧ n ≤ 800 := ⟨(ts_rng A.2.1.2).2, (ten_rng A.2.1.2).2, A.1.1.2.1⟩
theorem NM.mv {M' : xM} (N : NM B R M) (h : ∀ j, M' 15 j = M 15 j) : NM B R M' := ⟨fun p hp => by
  rw [h]
  exact N.1 p hp, N.2⟩
theorem cR_nxt (F : Fx h) (A : RA B n M0 h x l R M) {l' : Bool} (hl : (kin B n x l = 1 ∨ kin B n x l = 2) ↔ l' = true) (k : ∀ M', RA B n M0 h (ten B n x) l' R M' → Φ (.inl none) M' h) : x_Cal zR_nextToken [xA 2] M h Φ := by
  obtain ⟨⟨T, Z⟩, ⟨K, hx⟩, ⟨D, c6⟩, N, W, e1, e2⟩ := A
  refine cR_next F T (ten_rng hx).2 K.2.2.1 (by rw [K.1]; exact hl) (fun M' K' f => ?_)
  refine k M' ⟨⟨⟨?_, T.2.1, fun i hi => ?_⟩, fun a j ha => ?_, ?_⟩, ⟨K', (ten_rng hx).2⟩, ⟨D.frame (fun a j ha => f a j (by omega)), ?_⟩, N.mv (fun j => f 15 j (by omega)), W, ?_, ?_⟩
  · rw [f 2 5 (by decide)]
    exact T.1
  · rw [f 14 i (by omega)]
    exact T.2.2 i hi
  · rw [f a j (by omega)]
    exact Z.1 a j ha
  · rw [f 2 3 (by decide)]
    exact Z.2
  · rw [f 2 6 (by decide)]
    exact c6
  · rw [f 2 1 (by decide)]
    exact e1
  · rw [f 2 2 (by decide)]
    exact e2
theorem cR_isWord (F : Fx h) (A : RA B n M0 h x l R M) {i : Nat} (hi : i < 9) (k : Φ (.inl (some (xI (b01 (kin B n x l = 1 ∧ twv B n x = wc i))))) M h) : x_Cal zR_isWord [xA 2, xS i] M h Φ := by
  have e8 := A.2.1.1.1
  have e9 := A.2.1.1.2.1
  have e10 := A.2.1.1.2.2.1
  have hr := A.ts
  have hts := (ten_rng (B := B) A.2.1.2).1
  obtain ⟨w1, w2, w3⟩ := wc_ok i hi
  refine x_metI kR_isWord (Nat.le_of_ble_eq_true rfl) (fun t m ls st M' h' c n2 => t = 28 ∧ st = [] ∧ h' = h ∧ M' = M ∧ c = 0 ∧ n2 = 0 ∧ ls 0 = some (xA 2) ∧ ls 1 = some (xS i) ∧ kin B n x l = 1 ∧ ((ten B n x - ts B n x : Nat) : Int) = x_sl i ∧ ∃ p : Nat, p ≤ (x_sl i).toNat ∧ m = (x_sl i).toNat - p ∧ ls 2 = some (xI p) ∧ (∀ q : Nat, q < p → B ((ts B n x + q : Nat) : Int) = x_ch i q)) 20 ?_ ?_
  · simp only [wq_g3, wq_gc, wq_g, wq_g1, wq_g2, eR_isWord, iR_isWord_0, iR_isWord_24, iR_isWord_26, iR_isWord_28, iR_isWord_57, iR_isWord_63, vR_isWord, wps, x_cnd, reduceIte, Nat.reduceAdd, Nat.reduceSub, Nat.reduceEqDiff, Nat.reduceLeDiff, Nat.lt_irrefl, Nat.reduceLT, Int.cast_ofNat_Int, wq_c0, wq_c1, true_and, and_true, and_self, true_implies, forall_const, ne_eq, Decidable.not_not, not_true_eq_false, not_false_eq_true, List.map_nil, List.map_cons, List.sum_nil, List.sum_cons, List.length_cons, List.length_nil, Nat.le_refl, Nat.zero_le, reduceCtorEq, true_or, or_true, false_or, or_false, false_and, and_false, false_implies, Nat.zero_add, Nat.add_zero, Int.reduceEq, Int.reduceNe, Int.reduceLT, Int.reduceLE, Int.reduceNeg, Int.reduceToNat, Nat.not_lt_zero, Int.reduceAdd, fxs F, e8, e9, e10]
    refine ⟨fun c0 => kr k (b01_f (fun q => c0 q.1)), fun c0 => cT_length (by omega) ?_⟩
    obtain ⟨k1, k2, k3⟩ := kin_Lts A.2.1.2 c0
    simp only [wq_g3, wq_gc, wq_g, wq_g1, wq_g2, eR_isWord, iR_isWord_0, iR_isWord_24, iR_isWord_26, iR_isWord_28, iR_isWord_57, iR_isWord_63, vR_isWord, wps, x_cnd, reduceIte, Nat.reduceAdd, Nat.reduceSub, Nat.reduceEqDiff, Nat.reduceLeDiff, Nat.lt_irrefl, Nat.reduceLT, Int.cast_ofNat_Int, wq_c0, wq_c1, true_and, and_true, and_self, true_implies, forall_const, ne_eq, Decidable.not_not, not_true_eq_false, not_false_eq_true, List.map_nil, List.map_cons, List.sum_nil, List.sum_cons, List.length_cons, List.length_nil, Nat.le_refl, Nat.zero_le, reduceCtorEq, true_or, or_true, false_or, or_false, false_and, and_false, false_implies, Nat.zero_add, Nat.add_zero, Int.reduceEq, Int.reduceNe, Int.reduceLT, Int.reduceLE, Int.reduceNeg, Int.reduceToNat, Nat.not_lt_zero, Int.reduceAdd, fxs F, e8, e9, e10]
    simp (disch := omega) only [w32_of]
    refine ⟨fun c1 => ⟨(x_sl i).toNat, c0, by omega, 0, by omega, rfl, by rw [Int.natCast_zero], fun q hq => by omega⟩, fun c1 => kr k (b01_f (fun q => c1 ?_))⟩
    have := ((wc_iff hi A.2.1.2 c0).mp q.2).1
    omega
  · rintro t m ls st M' h' c n2 ⟨rfl, rfl, rfl, rfl, rfl, rfl, l0, l1, hk, hlen, p, q1, q2, l2, q3⟩
    simp only [wq_g3, wq_gc, wq_g, wq_g1, wq_g2, eR_isWord, iR_isWord_0, iR_isWord_24, iR_isWord_26, iR_isWord_28, iR_isWord_57, iR_isWord_63, vR_isWord, wps, x_cnd, reduceIte, Nat.reduceAdd, Nat.reduceSub, Nat.reduceEqDiff, Nat.reduceLeDiff, Nat.lt_irrefl, Nat.reduceLT, Int.cast_ofNat_Int, wq_c0, wq_c1, true_and, and_true, and_self, true_implies, forall_const, ne_eq, Decidable.not_not, not_true_eq_false, not_false_eq_true, List.map_nil, List.map_cons, List.sum_nil, List.sum_cons, List.length_cons, List.length_nil, Nat.le_refl, Nat.zero_le, reduceCtorEq, true_or, or_true, false_or, or_false, false_and, and_false, false_implies, Nat.zero_add, Nat.add_zero, Int.reduceEq, Int.reduceNe, Int.reduceLT, Int.reduceLE, Int.reduceNeg, Int.reduceToNat, Nat.not_lt_zero, Int.reduceAdd, fxs F, l0, l1, l2, e9]
    refine cT_length (by omega) ?_
    simp only [wq_g3, wq_gc, wq_g, wq_g1, wq_g2, eR_isWord, iR_isWord_0, iR_isWord_24, iR_isWord_26, iR_isWord_28, iR_isWord_57, iR_isWord_63, vR_isWord, wps, x_cnd, reduceIte, Nat.reduceAdd, Nat.reduceSub, Nat.reduceEqDiff, Nat.reduceLeDiff, Nat.lt_irrefl, Nat.reduceLT, Int.cast_ofNat_Int, wq_c0, wq_c1, true_and, and_true, and_self, true_implies, forall_const, ne_eq, Decidable.not_not, not_true_eq_false, not_false_eq_true, List.map_nil, List.map_cons, List.sum_nil, List.sum_cons, List.length_cons, List.length_nil, Nat.le_refl, Nat.zero_le, reduceCtorEq, true_or, or_true, false_or, or_false, false_and, and_false, false_implies, Nat.zero_add, Nat.add_zero, Int.reduceEq, Int.reduceNe, Int.reduceLT, Int.reduceLE, Int.reduceNeg, Int.reduceToNat, Nat.not_lt_zero, Int.reduceAdd, fxs F, l0, l1, l2, e9]
    simp (disch := omega) only [w32_of]
    refine ⟨fun c0 => kr k (b01_t ⟨hk, (wc_iff hi A.2.1.2 hk).mpr ⟨hlen, fun q hq => q3 q (by omega)⟩⟩), fun c0 => ⟨by omega, cT_charAt (by omega) (by omega) ?_⟩⟩
    have e14 := A.1.1.2.2 (ts B n x + p) (by omega)
    rw [show (ts B n x : Int) + p = ((ts B n x + p : Nat) : Int) by omega, e14.1]
    have hch := x_ch_1 (i := i) (k := p) (by omega)
    simp only [wq_g3, wq_gc, wq_g, wq_g1, wq_g2, eR_isWord, iR_isWord_0, iR_isWord_24, iR_isWord_26, iR_isWord_28, iR_isWord_57, iR_isWord_63, vR_isWord, wps, x_cnd, reduceIte, Nat.reduceAdd, Nat.reduceSub, Nat.reduceEqDiff, Nat.reduceLeDiff, Nat.lt_irrefl, Nat.reduceLT, Int.cast_ofNat_Int, wq_c0, wq_c1, true_and, and_true, and_self, true_implies, forall_const, ne_eq, Decidable.not_not, not_true_eq_false, not_false_eq_true, List.map_nil, List.map_cons, List.sum_nil, List.sum_cons, List.length_cons, List.length_nil, Nat.le_refl, Nat.zero_le, reduceCtorEq, true_or, or_true, false_or, or_false, false_and, and_false, false_implies, Nat.zero_add, Nat.add_zero, Int.reduceEq, Int.reduceNe, Int.reduceLT, Int.reduceLE, Int.reduceNeg, Int.reduceToNat, Nat.not_lt_zero, Int.reduceAdd, fxs F, l0, l1, l2, e9]
    refine ⟨fun c1 => ⟨(x_sl i).toNat - (p + 1), by omega, hk, hlen, p + 1, by omega, rfl, by rw [w32_of (by omega)]; rfl, fun q hq => ?_⟩, fun c1 => kr k (b01_f (fun q => c1 ?_))⟩
    · by_cases hq2 : q = p
      · subst hq2
        exact (w8_c e14.2 hch).mp c1
      · exact q3 q (by omega)
    · exact (w8_c e14.2 hch).mpr (((wc_iff hi A.2.1.2 hk).mp q.2).2 p (by omega))
theorem cR_nameInToken (F : Fx h) (A : RA B n M0 h x l R M) (hk : kin B n x l = 1) (h6 : ten B n x - ts B n x ≤ 6) (k : Φ (.inl (some (xI (wdk 27 B (ts B n x) (ten B n x - ts B n x))))) M h) : x_Cal zR_nameInToken [xA 2] M h Φ := by
  have e9 := A.2.1.1.2.1
  have e10 := A.2.1.1.2.2.1
  have hr := A.ts
  obtain ⟨k1, k2, k3⟩ := kin_Lts A.2.1.2 hk
  refine x_metI kR_nameInToken (Nat.le_of_ble_eq_true rfl) (fun t m ls st M' h' c n2 => t = 7 ∧ st = [] ∧ h' = h ∧ M' = M ∧ c = 0 ∧ n2 = 0 ∧ ls 0 = some (xA 2) ∧ ∃ p : Nat, p ≤ ten B n x - ts B n x ∧ m = ten B n x - ts B n x - p ∧ ls 1 = some (xI (wdk 27 B (ts B n x) p)) ∧ ls 2 = some (xI ((ts B n x + p : Nat) : Int))) 20 ?_ ?_
  · simp only [wq_g3, wq_gc, wq_g, wq_g1, wq_g2, eR_nameInToken, iR_nameInToken_0, iR_nameInToken_7, iR_nameInToken_38, vR_nameInToken, wps, x_cnd, reduceIte, Nat.reduceAdd, Nat.reduceSub, Nat.reduceEqDiff, Nat.reduceLeDiff, Nat.lt_irrefl, Nat.reduceLT, Int.cast_ofNat_Int, wq_c0, wq_c1, true_and, and_true, and_self, true_implies, forall_const, ne_eq, Decidable.not_not, not_true_eq_false, not_false_eq_true, List.map_nil, List.map_cons, List.sum_nil, List.sum_cons, List.length_cons, List.length_nil, Nat.le_refl, Nat.zero_le, reduceCtorEq, true_or, or_true, false_or, or_false, false_and, and_false, false_implies, Nat.zero_add, Nat.add_zero, Int.reduceEq, Int.reduceNe, Int.reduceLT, Int.reduceLE, Int.reduceNeg, Int.reduceToNat, Nat.not_lt_zero, Int.reduceAdd, fxs F, e9, e10]
    exact ⟨ten B n x - ts B n x, 0, by omega, rfl, rfl, rfl⟩
  · rintro t m ls st M' h' c n2 ⟨rfl, rfl, rfl, rfl, rfl, rfl, l0, p, q1, q2, l1, l2⟩
    simp only [wq_g3, wq_gc, wq_g, wq_g1, wq_g2, eR_nameInToken, iR_nameInToken_0, iR_nameInToken_7, iR_nameInToken_38, vR_nameInToken, wps, x_cnd, reduceIte, Nat.reduceAdd, Nat.reduceSub, Nat.reduceEqDiff, Nat.reduceLeDiff, Nat.lt_irrefl, Nat.reduceLT, Int.cast_ofNat_Int, wq_c0, wq_c1, true_and, and_true, and_self, true_implies, forall_const, ne_eq, Decidable.not_not, not_true_eq_false, not_false_eq_true, List.map_nil, List.map_cons, List.sum_nil, List.sum_cons, List.length_cons, List.length_nil, Nat.le_refl, Nat.zero_le, reduceCtorEq, true_or, or_true, false_or, or_false, false_and, and_false, false_implies, Nat.zero_add, Nat.add_zero, Int.reduceEq, Int.reduceNe, Int.reduceLT, Int.reduceLE, Int.reduceNeg, Int.reduceToNat, Nat.not_lt_zero, Int.reduceAdd, fxs F, l0, l1, l2, e10]
    refine ⟨fun c0 => ?_, fun c0 => ⟨by omega, ?_⟩⟩
    · rw [show ten B n x - ts B n x = p by omega] at k
      exact k
    · have e14 := A.1.1.2.2 (ts B n x + p) (by omega)
      have hp := k3 p (by omega)
      have hb := wdk_lt (B := B) (s := ts B n x) (k := p) (fun q hq => k3 q (by omega)) (by omega)
      have hb2 := wdk_lt (B := B) (s := ts B n x) (k := p + 1) (fun q hq => k3 q (by omega)) (by omega)
      rw [e14.1, w8_id (by omega)]
      refine ⟨ten B n x - ts B n x - (p + 1), by omega, p + 1, by omega, rfl, ?_, ?_⟩
      · rw [wdk_s] at hb2 ⊢
        rw [w32_of (x := wdk 27 B (ts B n x) p * 27) (by omega), w32_of (x := B ((ts B n x + p : Nat) : Int) - 97) (by omega), w32_of (x := B ((ts B n x + p : Nat) : Int) - 97 + 1) (by omega), w32_of (by omega), show wdk 27 B (ts B n x) p * 27 + (B ((ts B n x + p : Nat) : Int) - 97 + 1) = 27 * wdk 27 B (ts B n x) p + (B ((ts B n x + p : Nat) : Int) - 96) by omega]
      · rw [w32_of (by omega)]
        rfl
theorem cR_contentInToken (F : Fx h) (A : RA B n M0 h x l R M) (k : Φ (.inl (some (xI (if kin B n x l = 1 then cOf (twv B n x) else -1)))) M h) : x_Cal zR_contentInToken [xA 2] M h Φ := by
  obtain ⟨v0, v1, v2, v3, v4, v5, v6, v7, v8⟩ := wc_v
  refine x_met0 kR_contentInToken (Nat.le_of_ble_eq_true rfl) ?_
  simp only [wq_g3, wq_gc, wq_g, wq_g1, wq_g2, eR_contentInToken, iR_contentInToken_0, iR_contentInToken_11, iR_contentInToken_22, iR_contentInToken_35, iR_contentInToken_36, vR_contentInToken, wps, x_cnd, reduceIte, Nat.reduceAdd, Nat.reduceSub, Nat.reduceEqDiff, Nat.reduceLeDiff, Nat.lt_irrefl, Nat.reduceLT, Int.cast_ofNat_Int, wq_c0, wq_c1, true_and, and_true, and_self, true_implies, forall_const, ne_eq, Decidable.not_not, not_true_eq_false, not_false_eq_true, List.map_nil, List.map_cons, List.sum_nil, List.sum_cons, List.length_cons, List.length_nil, Nat.le_refl, Nat.zero_le, reduceCtorEq, true_or, or_true, false_or, or_false, false_and, and_false, false_implies, Nat.zero_add, Nat.add_zero, Int.reduceEq, Int.reduceNe, Int.reduceLT, Int.reduceLE, Int.reduceNeg, Int.reduceToNat, Nat.not_lt_zero, Int.reduceAdd, fxs F]
  refine cR_isWord F A (i := 6) (by decide) ?_
  rw [v6]
  unfold cOf at k
  simp only [wq_g3, wq_gc, wq_g, wq_g1, wq_g2, eR_contentInToken, iR_contentInToken_0, iR_contentInToken_11, iR_contentInToken_22, iR_contentInToken_35, iR_contentInToken_36, vR_contentInToken, wps, x_cnd, reduceIte, Nat.reduceAdd, Nat.reduceSub, Nat.reduceEqDiff, Nat.reduceLeDiff, Nat.lt_irrefl, Nat.reduceLT, Int.cast_ofNat_Int, wq_c0, wq_c1, true_and, and_true, and_self, true_implies, forall_const, ne_eq, Decidable.not_not, not_true_eq_false, not_false_eq_true, List.map_nil, List.map_cons, List.sum_nil, List.sum_cons, List.length_cons, List.length_nil, Nat.le_refl, Nat.zero_le, reduceCtorEq, true_or, or_true, false_or, or_false, false_and, and_false, false_implies, Nat.zero_add, Nat.add_zero, Int.reduceEq, Int.reduceNe, Int.reduceLT, Int.reduceLE, Int.reduceNeg, Int.reduceToNat, Nat.not_lt_zero, Int.reduceAdd, fxs F, b01_0]
  refine ⟨fun c0 => cR_isWord F A (i := 7) (by decide) ?_, fun c0 => ?_⟩
  · rw [v7]
    simp only [wq_g3, wq_gc, wq_g, wq_g1, wq_g2, eR_contentInToken, iR_contentInToken_0, iR_contentInToken_11, iR_contentInToken_22, iR_contentInToken_35, iR_contentInToken_36, vR_contentInToken, wps, x_cnd, reduceIte, Nat.reduceAdd, Nat.reduceSub, Nat.reduceEqDiff, Nat.reduceLeDiff, Nat.lt_irrefl, Nat.reduceLT, Int.cast_ofNat_Int, wq_c0, wq_c1, true_and, and_true, and_self, true_implies, forall_const, ne_eq, Decidable.not_not, not_true_eq_false, not_false_eq_true, List.map_nil, List.map_cons, List.sum_nil, List.sum_cons, List.length_cons, List.length_nil, Nat.le_refl, Nat.zero_le, reduceCtorEq, true_or, or_true, false_or, or_false, false_and, and_false, false_implies, Nat.zero_add, Nat.add_zero, Int.reduceEq, Int.reduceNe, Int.reduceLT, Int.reduceLE, Int.reduceNeg, Int.reduceToNat, Nat.not_lt_zero, Int.reduceAdd, fxs F, b01_0]
    refine ⟨fun c1 => cR_isWord F A (i := 8) (by decide) ?_, fun c1 => ?_⟩
    · rw [v8]
      simp only [wq_g3, wq_gc, wq_g, wq_g1, wq_g2, eR_contentInToken, iR_contentInToken_0, iR_contentInToken_11, iR_contentInToken_22, iR_contentInToken_35, iR_contentInToken_36, vR_contentInToken, wps, x_cnd, reduceIte, Nat.reduceAdd, Nat.reduceSub, Nat.reduceEqDiff, Nat.reduceLeDiff, Nat.lt_irrefl, Nat.reduceLT, Int.cast_ofNat_Int, wq_c0, wq_c1, true_and, and_true, and_self, true_implies, forall_const, ne_eq, Decidable.not_not, not_true_eq_false, not_false_eq_true, List.map_nil, List.map_cons, List.sum_nil, List.sum_cons, List.length_cons, List.length_nil, Nat.le_refl, Nat.zero_le, reduceCtorEq, true_or, or_true, false_or, or_false, false_and, and_false, false_implies, Nat.zero_add, Nat.add_zero, Int.reduceEq, Int.reduceNe, Int.reduceLT, Int.reduceLE, Int.reduceNeg, Int.reduceToNat, Nat.not_lt_zero, Int.reduceAdd, fxs F, b01_0]
      refine ⟨fun c2 => kr k ?_, fun c2 => kr k ?_⟩
      · by_cases hk : kin B n x l = 1
        · rw [if_pos hk, if_neg (fun q => c0 ⟨hk, q⟩), if_neg (fun q => c1 ⟨hk, q⟩), if_neg (fun q => c2 ⟨hk, q⟩)]
        · rw [if_neg hk]
      · rw [if_pos c2.1, if_neg (fun q => c0 ⟨c2.1, q⟩), if_neg (fun q => c1 ⟨c2.1, q⟩), if_pos c2.2]
    · exact kr k (by rw [if_pos c1.1, if_neg (fun q => c0 ⟨c1.1, q⟩), if_pos c1.2])
  · exact kr k (by rw [if_pos c0.1, if_pos c0.2])
/-- what must hold of a reading's outcome -/
def rOut (B : Int → Int) (n : Nat) (M0 : xM) (h : xH) (Φ : xO → xM → xH → Prop) : xRr → Prop
  | .inl e => ∀ M', Fl M0 e.1 e.2 M' → Φ (.inl (some (xI 0))) M' h
  | .inr R => ∀ M', RA B n M0 h (rX R) (rL R) R M' → Φ (.inl (some (xI 1))) M' h
theorem pSem_r : pSem B n (.inr R) = if kin B n (rX R) (rL R) = 3 then .inr (ten B n (rX R), false, rS R, rM R, rC R, rN R) else .inl (1, ts B n (rX R)) := rfl
theorem cR_readSemicolon (F : Fx h) (A : RA B n M0 h (rX R) (rL R) R M) (k : rOut B n M0 h Φ (pSem B n (.inr R))) : x_Cal zR_readSemicolon [xA 2] M h Φ := by
  have e8 := A.2.1.1.1
  rw [pSem_r] at k
  refine x_met0 kR_readSemicolon (Nat.le_of_ble_eq_true rfl) ?_
  simp only [wq_g3, wq_gc, wq_g, wq_g1, wq_g2, eR_readSemicolon, iR_readSemicolon_0, iR_readSemicolon_14, vR_readSemicolon, wps, x_cnd, reduceIte, Nat.reduceAdd, Nat.reduceSub, Nat.reduceEqDiff, Nat.reduceLeDiff, Nat.lt_irrefl, Nat.reduceLT, Int.cast_ofNat_Int, wq_c0, wq_c1, true_and, and_true, and_self, true_implies, forall_const, ne_eq, Decidable.not_not, not_true_eq_false, not_false_eq_true, List.map_nil, List.map_cons, List.sum_nil, List.sum_cons, List.length_cons, List.length_nil, Nat.le_refl, Nat.zero_le, reduceCtorEq, true_or, or_true, false_or, or_false, false_and, and_false, false_implies, Nat.zero_add, Nat.add_zero, Int.reduceEq, Int.reduceNe, Int.reduceLT, Int.reduceLE, Int.reduceNeg, Int.reduceToNat, Nat.not_lt_zero, Int.reduceAdd, fxs F, e8]
  refine ⟨fun c0 => ?_, fun c0 => ?_⟩
  · rw [if_pos c0] at k
    refine cR_nxt F A (l' := false) (by rw [c0]; decide) (fun M' A' => ?_)
    simp only [wq_g3, wq_gc, wq_g, wq_g1, wq_g2, eR_readSemicolon, iR_readSemicolon_0, iR_readSemicolon_14, vR_readSemicolon, wps, x_cnd, reduceIte, Nat.reduceAdd, Nat.reduceSub, Nat.reduceEqDiff, Nat.reduceLeDiff, Nat.lt_irrefl, Nat.reduceLT, Int.cast_ofNat_Int, wq_c0, wq_c1, true_and, and_true, and_self, true_implies, forall_const, ne_eq, Decidable.not_not, not_true_eq_false, not_false_eq_true, List.map_nil, List.map_cons, List.sum_nil, List.sum_cons, List.length_cons, List.length_nil, Nat.le_refl, Nat.zero_le, reduceCtorEq, true_or, or_true, false_or, or_false, false_and, and_false, false_implies, Nat.zero_add, Nat.add_zero, Int.reduceEq, Int.reduceNe, Int.reduceLT, Int.reduceLE, Int.reduceNeg, Int.reduceToNat, Nat.not_lt_zero, Int.reduceAdd, fxs F]
    exact k M' A'
  · rw [if_neg c0] at k
    refine cR_fail F A (fun M' fl => ?_)
    simp only [wq_g3, wq_gc, wq_g, wq_g1, wq_g2, eR_readSemicolon, iR_readSemicolon_0, iR_readSemicolon_14, vR_readSemicolon, wps, x_cnd, reduceIte, Nat.reduceAdd, Nat.reduceSub, Nat.reduceEqDiff, Nat.reduceLeDiff, Nat.lt_irrefl, Nat.reduceLT, Int.cast_ofNat_Int, wq_c0, wq_c1, true_and, and_true, and_self, true_implies, forall_const, ne_eq, Decidable.not_not, not_true_eq_false, not_false_eq_true, List.map_nil, List.map_cons, List.sum_nil, List.sum_cons, List.length_cons, List.length_nil, Nat.le_refl, Nat.zero_le, reduceCtorEq, true_or, or_true, false_or, or_false, false_and, and_false, false_implies, Nat.zero_add, Nat.add_zero, Int.reduceEq, Int.reduceNe, Int.reduceLT, Int.reduceLE, Int.reduceNeg, Int.reduceToNat, Nat.not_lt_zero, Int.reduceAdd, fxs F]
    exact k M' fl
end RDR
