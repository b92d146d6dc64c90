/-! the typed text -/
def tch (L : List Int) (i : Nat) : Int := L.getD i 32
def pk3 (f : Nat → Int) : Nat → Int
  | 0 => 0
  | k + 1 => pk3 f k * 256 + f k
theorem pk3_rng {f : Nat → Int} (hf : ∀ k, 0 ≤ f k ∧ f k < 128) : ∀ k : Nat, k ≤ 3 → 0 ≤ pk3 f k ∧ pk3 f k < 8388608
  | 0, _ => by show (0 : Int) ≤ 0 ∧ (0 : Int) < 8388608; decide
  | 1, _ => by have := hf 0; show 0 ≤ 0 * 256 + f 0 ∧ 0 * 256 + f 0 < 8388608; omega
  | 2, _ => by have := hf 0; have := hf 1; show 0 ≤ (0 * 256 + f 0) * 256 + f 1 ∧ (0 * 256 + f 0) * 256 + f 1 < 8388608; omega
  | 3, _ => by have := hf 0; have := hf 1; have := hf 2; show 0 ≤ ((0 * 256 + f 0) * 256 + f 1) * 256 + f 2 ∧ ((0 * 256 + f 0) * 256 + f 1) * 256 + f 2 < 8388608; omega
  | k + 4, h => absurd h (by omega)
theorem pk3_or {f : Nat → Int} (hf : ∀ k, 0 ≤ f k ∧ f k < 128) {k : Nat} (hk : k ≤ 3) : x_or (x_shl (pk3 f k) 8) (f k) = pk3 f (k + 1) := by
  have h1 := pk3_rng hf k hk
  have h2 := hf k
  obtain ⟨a, ha⟩ : ∃ a : Nat, pk3 f k = a := ⟨(pk3 f k).toNat, by omega⟩
  obtain ⟨b, hb⟩ : ∃ b : Nat, f k = b := ⟨(f k).toNat, by omega⟩
  show _ = pk3 f k * 256 + f k
  rw [ha, hb]
  rw [show (8 : Int) = ((8 : Nat) : Int) from rfl, x_shl_nat (by decide) (by omega) (by omega), x_or_nat (by omega) (by omega)]
  have h3 : a * 2 ^ 8 ||| b = a * 2 ^ 8 + b := by
    rw [← Nat.shiftLeft_eq, Nat.shiftLeft_add_eq_or_of_lt (show b < 2 ^ 8 by omega)]
  rw [h3]
  show ((a * 256 + b : Nat) : Int) = _
  omega
theorem by4_pk {f : Nat → Int} (hf : ∀ k, 0 ≤ f k ∧ f k < 128) {j : Nat} (hj : j < 4) : by4 (pk3 f 4) j = f j := by
  have h0 := hf 0
  have h1 := hf 1
  have h2 := hf 2
  have h3 := hf 3
  have e : pk3 f 4 = (((0 * 256 + f 0) * 256 + f 1) * 256 + f 2) * 256 + f 3 := rfl
  unfold by4
  rw [x_shr_int (by omega) (by unfold x_i32; rw [e]; omega), e]
  match j, hj with
  | 0, _ => show _ / ((2 ^ 24 : Nat) : Int) % 256 = _; omega
  | 1, _ => show _ / ((2 ^ 16 : Nat) : Int) % 256 = _; omega
  | 2, _ => show _ / ((2 ^ 8 : Nat) : Int) % 256 = _; omega
  | 3, _ => show _ / ((2 ^ 0 : Nat) : Int) % 256 = _; omega
theorem fd5 {f : Nat → Int} (hf : ∀ k, 0 ≤ f k ∧ f k < 128) (n : Nat) (B : Int → Int) (i : Nat) : fdB (n + 16) (fdB (n + 12) (fdB (n + 8) (fdB (n + 4) (fdB n B (pk3 (fun k => f (0 + k)) 4)) (pk3 (fun k => f (4 + k)) 4)) (pk3 (fun k => f (8 + k)) 4)) (pk3 (fun k => f (12 + k)) 4)) (pk3 (fun k => f (16 + k)) 4) i = if n ≤ i ∧ i < n + 20 then f (i - n) else B i := by
  have key : ∀ (j m : Nat), m ≤ i → i < m + 4 → m = n + 4 * j → by4 (pk3 (fun k => f (4 * j + k)) 4) ((i : Int) - m).toNat = f (i - n) := fun j m h1 h2 h3 => by
    rw [by4_pk (fun k => hf _) (by omega)]
    congr 1
    omega
  unfold fdB
  by_cases h4 : n + 16 ≤ i ∧ i < n + 20
  · rw [if_pos (by omega), if_pos (by omega)]
    exact key 4 (n + 16) (by omega) (by omega) (by omega)
  rw [if_neg (by omega)]
  by_cases h3 : n + 12 ≤ i ∧ i < n + 16
  · rw [if_pos (by omega), if_pos (by omega)]
    exact key 3 (n + 12) (by omega) (by omega) (by omega)
  rw [if_neg (by omega)]
  by_cases h2 : n + 8 ≤ i ∧ i < n + 12
  · rw [if_pos (by omega), if_pos (by omega)]
    exact key 2 (n + 8) (by omega) (by omega) (by omega)
  rw [if_neg (by omega)]
  by_cases h1 : n + 4 ≤ i ∧ i < n + 8
  · rw [if_pos (by omega), if_pos (by omega)]
    exact key 1 (n + 4) (by omega) (by omega) (by omega)
  rw [if_neg (by omega)]
  by_cases h0 : n ≤ i ∧ i < n + 4
  · rw [if_pos (by omega), if_pos (by omega)]
    exact key 0 n (by omega) (by omega) (by omega)
  rw [if_neg (by omega), if_neg (by omega)]
/-- what new things leave of all that stood -/
theorem nwF.rf {M : xM} {h : xH} : nwF M h M h := ⟨Nat.le_refl _, fun _ _ => ⟨fun _ => rfl, rfl, rfl, fun _ => rfl⟩⟩
theorem nwF.tr {M M1 M2 : xM} {h h1 h2 : xH} (f : nwF M h M1 h1) (g : nwF M1 h1 M2 h2) : nwF M h M2 h2 := by
  refine ⟨Nat.le_trans f.1 g.1, fun a ha => ?_⟩
  obtain ⟨f1, f2, f3, f4⟩ := f.2 a ha
  obtain ⟨g1, g2, g3, g4⟩ := g.2 a (Nat.lt_of_lt_of_le ha f.1)
  exact ⟨fun j => (g1 j).trans (f1 j), g2.trans f2, g3.trans f3, fun j => (g4 j).trans (f4 j)⟩
theorem stR.grow {L : List Int} {M M' : xM} {h h' : xH} {s : Nat} (T : stR L M h s) (f : nwF M h M' h') : stR L M' h' s := by
  obtain ⟨⟨t1, t2⟩, t3, t4, t5, t6, t7, t8, t9⟩ := T
  obtain ⟨f0, f⟩ := f
  obtain ⟨a1, a2, a3, a4⟩ := f s t7
  obtain ⟨b1, b2, b3, b4⟩ := f (hP h s 0) t8
  have ep := a4 0
  refine ⟨⟨a2.trans t1, ?_⟩, (a1 1).trans t3, ?_, fun i hi => ?_, t6, Nat.lt_of_lt_of_le t7 f0, ?_, t9⟩
  · rw [ep]; exact b2.trans t2
  · rw [ep]; exact b3.trans t4
  · rw [ep]; exact (b1 i).trans (t5 i hi)
  · rw [ep]; exact Nat.lt_of_lt_of_le t8 f0
theorem CW.nw {A : xAb} {M M' : xM} {h h' : xH} (C : CW A M h) (f : nwF M h M' h') : CW A M' h' := C.grow f.1 (fun a ha => ⟨fun _ => (f.2 a ha).1, (f.2 a ha).2⟩)
section TYPE
variable {A : xAb} {M M' : xM} {h h' : xH} {Φ : xO → xM → xH → Prop} {L : List Int} {s : Nat}
set_option maxHeartbeats 1000000
/-- the class with a buffer of its own -/
def bufA (A : xAb) (n : Nat) (B : Int → Int) : xAb := (aS A, aI A, aH A, aG A, n, B, aE A, aP A, aO A)
theorem w32n {u q : Nat} (h : 20 * u + q < 100000) : w32 (((20 * u : Nat) : Int) + q) = ((20 * u + q : Nat) : Int) := by
  rw [w32_of (by omega)]
  omega
theorem stR.mv2 (T : stR L M h s) (f : ∀ a i, a ≠ 2 → a ≠ 14 → M' a i = M a i) (h1 : 42 ≤ s) (h2 : 42 ≤ hP h s 0) : stR L M' h s := by
  obtain ⟨t1, t3, t4, t5, t6, t7⟩ := T
  exact ⟨t1, by rw [f s 1 (by omega) (by omega)]; exact t3, t4, fun i hi => by rw [f _ _ (by omega) (by omega)]; exact t5 i hi, t6, t7⟩
theorem cl_type (C : CW A M h) (T : stR L M h s) (hs1 : 42 ≤ s) (hs2 : 42 ≤ hP h s 0) (hl : L.length ≤ 780) (h0 : aN A = 0) (k : ∀ M' h' n' B', CW (bufA A n' B') M' h' → stR L M' h' s → L.length ≤ n' → (∀ i : Nat, i < L.length → B' i = L.getD i 0) → Φ (.inl none) M' h') : x_Cal zL_type [xA 1, xA s] M h Φ := by
  have hch : ∀ i, 0 ≤ tch L i ∧ tch L i < 128 := fun i => by
    unfold tch
    by_cases hi : i < L.length
    · rw [List.getD_eq_getElem?_getD, List.getElem?_eq_getElem hi]
      exact T.2.2.2.2.1 _ (List.getElem_mem hi)
    · rw [List.getD_eq_getElem?_getD, List.getElem?_eq_none (by omega)]
      decide
  have e0 : bufA A (20 * 0) (aB A) = A := by
    show bufA A 0 (aB A) = A
    rw [← h0]
    rfl
  refine x_metI kL_type (Nat.le_of_ble_eq_true rfl) (fun t m ls st M' h' c n => st = [] ∧ ls 0 = some (xA 1) ∧ ls 1 = some (xA s) ∧ ((t = 2 ∧ ∃ (u : Nat) (B' : Int → Int), m = 30 * (41 - u) ∧ u ≤ 40 ∧ c ≤ 2 * u ∧ n ≤ 11 * u ∧ ls 2 = some (xI ((20 * u : Nat) : Int)) ∧ (∀ i : Nat, i < 20 * u → B' i = tch L i) ∧ CW (bufA A (20 * u) B') M' h' ∧ stR L M' h' s ∧ 42 ≤ hP h' s 0) ∨ (t = 37 ∧ ∃ (u : Nat) (B' : Int → Int) (q : Nat) (M0 : xM) (h0 : xH), m + q + 1 = 30 * (41 - u) ∧ q ≤ 20 ∧ 20 * u < L.length ∧ c ≤ 2 * u + 1 ∧ n ≤ 11 * u + 5 ∧ ls 2 = some (xI ((20 * u : Nat) : Int)) ∧ ls 3 = some (xA (hn h0)) ∧ ls 4 = some (xI q) ∧ (∀ i : Nat, i < 20 * u → B' i = tch L i) ∧ h' = x_new h0 20 5 ∧ CW (bufA A (20 * u) B') M0 h0 ∧ stR L M0 h0 s ∧ 42 ≤ hP h0 s 0 ∧ (∀ a, a < hn h0 → ∀ j, M' a j = M0 a j) ∧ ∀ j : Nat, j < 5 → M' (hn h0) j = pk3 (fun i => tch L (20 * u + (4 * j + i))) (min 4 (q - 4 * j))))) 20 ?_ ?_
  · simp only [wq_g3, wq_gc, wq_g, wq_g1, wq_g2, eL_type, iL_type_0, iL_type_2, iL_type_37, iL_type_80, iL_type_82, iL_type_90, iL_type_116, vL_type, wps, x_cnd, reduceIte, Nat.reduceAdd, Nat.reduceSub, Nat.reduceEqDiff, Nat.reduceLeDiff, Nat.lt_irrefl, Nat.reduceLT, Int.cast_ofNat_Int, wq_c0, wq_c1, true_and, and_true, and_self, true_implies, forall_const, ne_eq, Decidable.not_not, not_true_eq_false, not_false_eq_true, List.map_nil, List.map_cons, List.sum_nil, List.sum_cons, List.length_cons, List.length_nil, Nat.le_refl, Nat.zero_le, reduceCtorEq, true_or, or_true, false_or, or_false, false_and, and_false, false_implies, Nat.zero_add, Nat.add_zero, Int.reduceEq, Int.reduceNe, Int.reduceLT, Int.reduceLE, Int.reduceNeg, Int.reduceToNat, Nat.not_lt_zero, Int.reduceAdd]
    refine ⟨_, 0, aB A, rfl, by omega, rfl, fun i hi => absurd hi (by omega), ?_, T, hs2⟩
    rw [e0]
    exact C
  · rintro t m ls st M' h' c n ⟨rfl, l0, l1, (⟨rfl, u, B', rfl, u1, c1, n1, l2, b1, C1, T1, hp1⟩ | ⟨rfl, u, B', q, M0, h0', m1, q1, u1, c1, n1, l2, l3, l4, b1, rfl, C1, T1, hp1, f1, v1⟩)⟩
    · simp only [wq_g3, wq_gc, wq_g, wq_g1, wq_g2, eL_type, iL_type_0, iL_type_2, iL_type_37, iL_type_80, iL_type_82, iL_type_90, iL_type_116, vL_type, wps, x_cnd, reduceIte, Nat.reduceAdd, Nat.reduceSub, Nat.reduceEqDiff, Nat.reduceLeDiff, Nat.lt_irrefl, Nat.reduceLT, Int.cast_ofNat_Int, wq_c0, wq_c1, true_and, and_true, and_self, true_implies, forall_const, ne_eq, Decidable.not_not, not_true_eq_false, not_false_eq_true, List.map_nil, List.map_cons, List.sum_nil, List.sum_cons, List.length_cons, List.length_nil, Nat.le_refl, Nat.zero_le, reduceCtorEq, true_or, or_true, false_or, or_false, false_and, and_false, false_implies, Nat.zero_add, Nat.add_zero, Int.reduceEq, Int.reduceNe, Int.reduceLT, Int.reduceLE, Int.reduceNeg, Int.reduceToNat, Nat.not_lt_zero, Int.reduceAdd, l0, l1, l2, T1.1.1]
      (repeat refine ⟨by omega, ?_⟩)
      refine cTh_length T1 (by omega) ?_
      simp only [wq_g3, wq_gc, wq_g, wq_g1, wq_g2, eL_type, iL_type_0, iL_type_2, iL_type_37, iL_type_80, iL_type_82, iL_type_90, iL_type_116, vL_type, wps, x_cnd, reduceIte, Nat.reduceAdd, Nat.reduceSub, Nat.reduceEqDiff, Nat.reduceLeDiff, Nat.lt_irrefl, Nat.reduceLT, Int.cast_ofNat_Int, wq_c0, wq_c1, true_and, and_true, and_self, true_implies, forall_const, ne_eq, Decidable.not_not, not_true_eq_false, not_false_eq_true, List.map_nil, List.map_cons, List.sum_nil, List.sum_cons, List.length_cons, List.length_nil, Nat.le_refl, Nat.zero_le, reduceCtorEq, true_or, or_true, false_or, or_false, false_and, and_false, false_implies, Nat.zero_add, Nat.add_zero, Int.reduceEq, Int.reduceNe, Int.reduceLT, Int.reduceLE, Int.reduceNeg, Int.reduceToNat, Nat.not_lt_zero, Int.reduceAdd, l0, l1, l2, T1.1.1, hK_new, hL_new]
      refine ⟨fun c0 => k M' h' (20 * u) B' C1 T1 (by omega) (fun i hi => ?_), fun c0 => ?_⟩
      · rw [b1 i (by omega)]
        unfold tch
        rw [List.getD_eq_getElem?_getD, List.getD_eq_getElem?_getD, List.getElem?_eq_getElem hi]
        rfl
      · refine ⟨⟨by omega, by omega⟩, 30 * (41 - u) - 1, by omega, u, B', 0, M', h', by omega, by omega, by omega, by omega, by omega, rfl, rfl, rfl, b1, rfl, C1, T1, hp1, fun a ha j => ?_, fun j hj => ?_⟩
        · have : ¬ a = hn h' := by omega
          simp only [x_w, x_z_at, this, false_and, if_false]
        · have : j = 0 ∨ j = 1 ∨ j = 2 ∨ j = 3 ∨ j = 4 := by omega
          rcases this with rfl | rfl | rfl | rfl | rfl <;> simp [x_w, pk3]
    · have n42 := C1.F.n
      have n1' : ¬ (1 = hn h0') := by omega
      have n2' : ¬ (s = hn h0') := by have := T1.2.2.2.2.2.1; omega
      have k1 : hK h0' 1 = 7 := by
        have F := C1.F
        simp only [fxs F]
      obtain ⟨j0, hj1, hj2⟩ : ∃ j0 : Nat, 4 * j0 ≤ q ∧ q < 4 * j0 + 4 := ⟨q / 4, by omega, by omega⟩
      have e4 : x_div (q : Int) 4 = (j0 : Int) := by
        rw [x_div_of (by omega)]
        omega
      have F9 : nwF M0 h0' M' (x_new h0' 20 5) := ⟨by rw [hn_new]; omega, fun a ha => ⟨f1 a ha, by rw [hK_new, if_neg (by omega)], by rw [hL_new, if_neg (by omega)], fun j => by rw [hP_new, if_neg (by omega)]⟩⟩
      have C9 := C1.nw F9
      have T9 := T1.grow F9
      have hp9 : 42 ≤ hP (x_new h0' 20 5) s 0 := by rw [hP_new, if_neg n2']; exact hp1
      simp only [wq_g3, wq_gc, wq_g, wq_g1, wq_g2, eL_type, iL_type_0, iL_type_2, iL_type_37, iL_type_80, iL_type_82, iL_type_90, iL_type_116, vL_type, wps, x_cnd, reduceIte, Nat.reduceAdd, Nat.reduceSub, Nat.reduceEqDiff, Nat.reduceLeDiff, Nat.lt_irrefl, Nat.reduceLT, Int.cast_ofNat_Int, wq_c0, wq_c1, true_and, and_true, and_self, true_implies, forall_const, ne_eq, Decidable.not_not, not_true_eq_false, not_false_eq_true, List.map_nil, List.map_cons, List.sum_nil, List.sum_cons, List.length_cons, List.length_nil, Nat.le_refl, Nat.zero_le, reduceCtorEq, true_or, or_true, false_or, or_false, false_and, and_false, false_implies, Nat.zero_add, Nat.add_zero, Int.reduceEq, Int.reduceNe, Int.reduceLT, Int.reduceLE, Int.reduceNeg, Int.reduceToNat, Nat.not_lt_zero, Int.reduceAdd, l0, l1, l2, l3, l4, hK_new, hL_new, n1', n2', k1, T1.1.1, e4]
      refine ⟨fun c0 => ⟨by omega, ?_⟩, fun c0 => ⟨by omega, by omega, ?_⟩⟩
      · have hq : q = 20 := by omega
        subst hq
        have w0 : M' (hn h0') 0 = pk3 (fun i => tch L (20 * u + (0 + i))) 4 := v1 0 (by omega)
        have w1 : M' (hn h0') 1 = pk3 (fun i => tch L (20 * u + (4 + i))) 4 := v1 1 (by omega)
        have w2 : M' (hn h0') 2 = pk3 (fun i => tch L (20 * u + (8 + i))) 4 := v1 2 (by omega)
        have w3 : M' (hn h0') 3 = pk3 (fun i => tch L (20 * u + (12 + i))) 4 := v1 3 (by omega)
        have w4 : M' (hn h0') 4 = pk3 (fun i => tch L (20 * u + (16 + i))) 4 := v1 4 (by omega)
        rw [w0, w1, w2, w3, w4]
        refine cP_feedX C9 (by show 20 * u + 20 ≤ 800; omega) (fun M2 C2 f2 => ?_)
        have hd : ¬ (800 < aN (bufA A (20 * u) B') + 20) := by show ¬ (800 < 20 * u + 20); omega
        unfold dFeed at C2 ⊢
        rw [if_neg hd] at C2 ⊢
        simp only [wq_g3, wq_gc, wq_g, wq_g1, wq_g2, eL_type, iL_type_0, iL_type_2, iL_type_37, iL_type_80, iL_type_82, iL_type_90, iL_type_116, vL_type, wps, x_cnd, reduceIte, Nat.reduceAdd, Nat.reduceSub, Nat.reduceEqDiff, Nat.reduceLeDiff, Nat.lt_irrefl, Nat.reduceLT, Int.cast_ofNat_Int, wq_c0, wq_c1, true_and, and_true, and_self, true_implies, forall_const, ne_eq, Decidable.not_not, not_true_eq_false, not_false_eq_true, List.map_nil, List.map_cons, List.sum_nil, List.sum_cons, List.length_cons, List.length_nil, Nat.le_refl, Nat.zero_le, reduceCtorEq, true_or, or_true, false_or, or_false, false_and, and_false, false_implies, Nat.zero_add, Nat.add_zero, Int.reduceEq, Int.reduceNe, Int.reduceLT, Int.reduceLE, Int.reduceNeg, Int.reduceToNat, Nat.not_lt_zero, Int.reduceAdd, l0, l1, l2, l3, l4, xo]
        have C3 : CW (bufA A (20 * (u + 1)) (fdB (20 * u + 16) (fdB (20 * u + 12) (fdB (20 * u + 8) (fdB (20 * u + 4) (fdB (20 * u) B' (pk3 (fun i => tch L (20 * u + (0 + i))) 4)) (pk3 (fun i => tch L (20 * u + (4 + i))) 4)) (pk3 (fun i => tch L (20 * u + (8 + i))) 4)) (pk3 (fun i => tch L (20 * u + (12 + i))) 4)) (pk3 (fun i => tch L (20 * u + (16 + i))) 4))) M2 (x_new h0' 20 5) := C2
        refine ⟨30 * (41 - (u + 1)), by omega, u + 1, _, rfl, by omega, by omega, by omega, ?_, fun i hi => ?_, C3, T9.mv2 f2 hs1 hp9, hp9⟩
        · rw [w32_of (by omega)]
          congr 2
        · rw [fd5 (f := fun i => tch L (20 * u + i)) (fun i => hch _)]
          by_cases h9 : 20 * u ≤ i ∧ i < 20 * u + 20
          · rw [if_pos h9]
            congr 1
            omega
          · rw [if_neg h9]
            exact b1 i (by omega)
      · have key : x_or (x_shl (M' (hn h0') (j0 : Int)) 8) (tch L (20 * u + q)) = pk3 (fun i => tch L (20 * u + (4 * j0 + i))) (q - 4 * j0 + 1) := by
          have h9 := pk3_or (f := fun i => tch L (20 * u + (4 * j0 + i))) (fun i => hch _) (k := q - 4 * j0) (by omega)
          rw [v1 j0 (by omega), show min 4 (q - 4 * j0) = q - 4 * j0 by omega, ← h9, show 20 * u + q = 20 * u + (4 * j0 + (q - 4 * j0)) by omega]
        have hbd : 20 * u + q < 100000 := by omega
        have fin : ∀ v, v = pk3 (fun i => tch L (20 * u + (4 * j0 + i))) (q - 4 * j0 + 1) → (∀ a, a < hn h0' → ∀ j, x_w M' (hn h0') (j0 : Int) v a j = M0 a j) ∧ ∀ j : Nat, j < 5 → x_w M' (hn h0') (j0 : Int) v (hn h0') j = pk3 (fun i => tch L (20 * u + (4 * j + i))) (min 4 (q + 1 - 4 * j)) := fun v hv => by
          refine ⟨fun a ha j => ?_, fun j hj => ?_⟩
          · rw [w_ne (by omega)]
            exact f1 a ha j
          · by_cases hjq : j = j0
            · subst hjq
              rw [w_eq, hv, show min 4 (q + 1 - 4 * j) = q - 4 * j + 1 by omega]
            · rw [w_nj (by omega), v1 j hj, show min 4 (q + 1 - 4 * j) = min 4 (q - 4 * j) by omega]
        (repeat refine ⟨by omega, ?_⟩)
        refine cTh_length T9 (by omega) ?_
        simp only [wq_g3, wq_gc, wq_g, wq_g1, wq_g2, eL_type, iL_type_0, iL_type_2, iL_type_37, iL_type_80, iL_type_82, iL_type_90, iL_type_116, vL_type, wps, x_cnd, reduceIte, Nat.reduceAdd, Nat.reduceSub, Nat.reduceEqDiff, Nat.reduceLeDiff, Nat.lt_irrefl, Nat.reduceLT, Int.cast_ofNat_Int, wq_c0, wq_c1, true_and, and_true, and_self, true_implies, forall_const, ne_eq, Decidable.not_not, not_true_eq_false, not_false_eq_true, List.map_nil, List.map_cons, List.sum_nil, List.sum_cons, List.length_cons, List.length_nil, Nat.le_refl, Nat.zero_le, reduceCtorEq, true_or, or_true, false_or, or_false, false_and, and_false, false_implies, Nat.zero_add, Nat.add_zero, Int.reduceEq, Int.reduceNe, Int.reduceLT, Int.reduceLE, Int.reduceNeg, Int.reduceToNat, Nat.not_lt_zero, Int.reduceAdd, l0, l1, l2, l3, l4, hK_new, hL_new, n1', n2', k1, T1.1.1, e4, w32n hbd]
        refine ⟨fun c1 => ⟨by omega, m - 1, by omega, u, B', q + 1, M0, h0', by omega, by omega, by omega, by omega, by omega, rfl, rfl, ?_, b1, rfl, C1, T1, hp1, ?_⟩, fun c1 => ?_⟩
        · rw [w32_of (by omega)]
          rfl
        · refine fin _ ?_
          rw [← key]
          congr 1
          unfold tch
          rw [List.getD_eq_getElem?_getD, List.getElem?_eq_none (by omega)]
          rfl
        · (repeat refine ⟨by omega, ?_⟩)
          refine cTh_charAt T9 (i := 20 * u + q) (by omega) ?_
          simp only [wq_g3, wq_gc, wq_g, wq_g1, wq_g2, eL_type, iL_type_0, iL_type_2, iL_type_37, iL_type_80, iL_type_82, iL_type_90, iL_type_116, vL_type, wps, x_cnd, reduceIte, Nat.reduceAdd, Nat.reduceSub, Nat.reduceEqDiff, Nat.reduceLeDiff, Nat.lt_irrefl, Nat.reduceLT, Int.cast_ofNat_Int, wq_c0, wq_c1, true_and, and_true, and_self, true_implies, forall_const, ne_eq, Decidable.not_not, not_true_eq_false, not_false_eq_true, List.map_nil, List.map_cons, List.sum_nil, List.sum_cons, List.length_cons, List.length_nil, Nat.le_refl, Nat.zero_le, reduceCtorEq, true_or, or_true, false_or, or_false, false_and, and_false, false_implies, Nat.zero_add, Nat.add_zero, Int.reduceEq, Int.reduceNe, Int.reduceLT, Int.reduceLE, Int.reduceNeg, Int.reduceToNat, Nat.not_lt_zero, Int.reduceAdd, l0, l1, l2, l3, l4, hK_new, hL_new, n1', n2', k1, T1.1.1, e4, w32n hbd]
          refine ⟨by omega, m - 1, by omega, u, B', q + 1, M0, h0', by omega, by omega, by omega, by omega, by omega, rfl, rfl, ?_, b1, rfl, C1, T1, hp1, ?_⟩
          · rw [w32_of (by omega)]
            rfl
          · refine fin _ ?_
            rw [← key]
            congr 1
            unfold tch
            rw [List.getD_eq_getElem?_getD, List.getD_eq_getElem?_getD, List.getElem?_eq_getElem (show 20 * u + q < L.length by omega)]
            rfl
end TYPE
