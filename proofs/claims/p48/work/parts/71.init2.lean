/-! ScoreParts' constructor -/
section INITP
variable {A : xAb} {M M' : xM} {h h' : xH} {Φ : xO → xM → xH → Prop}
set_option maxHeartbeats 1000000
theorem HE.t {h1 h2 : xH} {b : Nat} (H : HE h h1 b) (H2 : HE h1 h2 b) : HE h h2 b := fun a ha => ⟨(H2 a ha).1.trans (H a ha).1, (H2 a ha).2.1.trans (H a ha).2.1, fun i => ((H2 a ha).2.2 i).trans ((H a ha).2.2 i)⟩
theorem HE.sc {b c : Nat} (H : HE h h' b) (A : scA h c) (hc : c + 11 ≤ b) : scA h' c := by
  have L2 : ∀ a, a < b → hK h' a = hK h a ∧ hL h' a = hL h a := fun a ha => ⟨(H a ha).1, (H a ha).2.1⟩
  unfold scA at A ⊢
  rw [(L2 c (by omega)).1, (L2 (c + 1) (by omega)).1, (L2 (c + 2) (by omega)).1, (L2 (c + 3) (by omega)).1, (L2 (c + 4) (by omega)).1, (L2 (c + 5) (by omega)).1, (L2 (c + 6) (by omega)).1, (L2 (c + 7) (by omega)).1, (L2 (c + 8) (by omega)).1, (L2 (c + 9) (by omega)).1, (L2 (c + 10) (by omega)).1, (L2 (c + 1) (by omega)).2, (L2 (c + 2) (by omega)).2, (L2 (c + 3) (by omega)).2, (L2 (c + 4) (by omega)).2, (L2 (c + 5) (by omega)).2, (L2 (c + 6) (by omega)).2, (L2 (c + 7) (by omega)).2, (L2 (c + 8) (by omega)).2, (L2 (c + 9) (by omega)).2, (L2 (c + 10) (by omega)).2]
  simp only [(H c (by omega)).2.2]
  exact A
/-- a new cell whose reference is laid into r -/
theorem HE_pn {r b k q : Nat} {j l : Int} (hb : b ≤ r) (hn' : b ≤ hn h) : HE h (x_pw (x_new h k l) r j q) b := fun a ha => ⟨by rw [hK_pw, hK_new, if_neg (by omega)], by rw [hL_pw, hL_new, if_neg (by omega)], fun i => by rw [hP_pw, if_neg (by omega), hP_new, if_neg (by omega)]⟩
theorem HE_n {b k : Nat} {l : Int} (hn' : b ≤ hn h) : HE h (x_new h k l) b := fun a ha => ⟨by rw [hK_new, if_neg (by omega)], by rw [hL_new, if_neg (by omega)], fun i => by rw [hP_new, if_neg (by omega)]⟩
theorem HE.le {b c : Nat} (H : HE h h' b) (hc : c ≤ b) : HE h h' c := fun a ha => H a (by omega)
theorem cH_init (hr : hn h = 38) (hk : hK h 37 = 0) (k : ∀ M' h', (∀ a j, a < 37 → M' a j = M a j) → HE h h' 37 → hn h' = 39 → (M' 37 1 = 0 ∧ M' 37 2 = 0) → (hK h' 37 = 0 ∧ hK h' 38 = 24 ∧ hL h' 38 = 10 ∧ hP h' 37 0 = 38 ∧ ∀ i, hP h' 38 i = 0) → Φ (.inl none) M' h') : x_Cal zH_init [xA 37] M h Φ := by
  refine x_met0 kH_init (Nat.le_of_ble_eq_true rfl) ?_
  simp only [wq_g3, wq_gc, wq_g, wq_g1, wq_g2, eH_init, iH_init_0, vH_init, wps, x_cnd, reduceIte, Nat.reduceAdd, Nat.reduceSub, Nat.reduceEqDiff, Nat.reduceLeDiff, Nat.lt_irrefl, Nat.reduceLT, Int.cast_ofNat_Int, wq_c0, wq_c1, true_and, and_true, and_self, true_implies, forall_const, ne_eq, Decidable.not_not, not_true_eq_false, not_false_eq_true, List.map_nil, List.map_cons, List.sum_nil, List.sum_cons, List.length_cons, List.length_nil, Nat.le_refl, Nat.zero_le, reduceCtorEq, true_or, or_true, false_or, or_false, false_and, and_false, false_implies, Nat.zero_add, Nat.add_zero, Int.reduceEq, Int.reduceNe, Int.reduceLT, Int.reduceLE, Int.reduceNeg, Int.reduceToNat, Nat.not_lt_zero, Int.reduceAdd, hk, hn_new, hn_pw, hr, hK_new, hK_pw, Nat.reduceAdd]
  refine k _ _ (fun a j ha => by rw [w_ne (by omega), w_ne (by omega), x_z_at, hr, if_neg (by omega)]) (HE_pn (by omega) (by omega)) (by rw [hn_pw, hn_new, hr]) ⟨by rw [w_nj (by decide), w_eq], w_eq⟩ ⟨?_, ?_, ?_, ?_, fun i => ?_⟩
  · rw [hK_pw, hK_new, hr, if_neg (by decide)]
    exact hk
  · rw [hK_pw, hK_new, hr, if_pos rfl]
  · rw [hL_pw, hL_new, hr, if_pos rfl]
  · rw [hP_pw, if_pos ⟨rfl, rfl⟩]
  · rw [hP_pw, if_neg (by omega), hP_new, hr, if_pos rfl]
theorem cE_init (hr : hn h = 37) (hk : hK h 36 = 3) (k : ∀ M', (∀ a j, a < 36 → M' a j = M a j) → Φ (.inl none) M' h) : x_Cal zE_init [xA 36] M h Φ := by
  refine x_met0 kE_init (Nat.le_of_ble_eq_true rfl) ?_
  simp only [wq_g3, wq_gc, wq_g, wq_g1, wq_g2, eE_init, iE_init_0, vE_init, wps, x_cnd, reduceIte, Nat.reduceAdd, Nat.reduceSub, Nat.reduceEqDiff, Nat.reduceLeDiff, Nat.lt_irrefl, Nat.reduceLT, Int.cast_ofNat_Int, wq_c0, wq_c1, true_and, and_true, and_self, true_implies, forall_const, ne_eq, Decidable.not_not, not_true_eq_false, not_false_eq_true, List.map_nil, List.map_cons, List.sum_nil, List.sum_cons, List.length_cons, List.length_nil, Nat.le_refl, Nat.zero_le, reduceCtorEq, true_or, or_true, false_or, or_false, false_and, and_false, false_implies, Nat.zero_add, Nat.add_zero, Int.reduceEq, Int.reduceNe, Int.reduceLT, Int.reduceLE, Int.reduceNeg, Int.reduceToNat, Nat.not_lt_zero, Int.reduceAdd, hk, hr]
  exact k _ (fun a j ha => by rw [w_ne (by omega), w_ne (by omega), w_ne (by omega)])
theorem cW_init (hr : hn h = 40) (hk : hK h 39 = 2) (k : ∀ M' h', (∀ a j, a < 39 → M' a j = M a j) → HE h h' 39 → hn h' = 41 → M' 39 1 = 0 → (hK h' 39 = 2 ∧ hK h' 40 = 21 ∧ hL h' 40 = 2550 ∧ hP h' 39 0 = 40) → Φ (.inl none) M' h') : x_Cal zW_init [xA 39] M h Φ := by
  refine x_met0 kW_init (Nat.le_of_ble_eq_true rfl) ?_
  simp only [wq_g3, wq_gc, wq_g, wq_g1, wq_g2, eW_init, iW_init_0, vW_init, wps, x_cnd, reduceIte, Nat.reduceAdd, Nat.reduceSub, Nat.reduceEqDiff, Nat.reduceLeDiff, Nat.lt_irrefl, Nat.reduceLT, Int.cast_ofNat_Int, wq_c0, wq_c1, true_and, and_true, and_self, true_implies, forall_const, ne_eq, Decidable.not_not, not_true_eq_false, not_false_eq_true, List.map_nil, List.map_cons, List.sum_nil, List.sum_cons, List.length_cons, List.length_nil, Nat.le_refl, Nat.zero_le, reduceCtorEq, true_or, or_true, false_or, or_false, false_and, and_false, false_implies, Nat.zero_add, Nat.add_zero, Int.reduceEq, Int.reduceNe, Int.reduceLT, Int.reduceLE, Int.reduceNeg, Int.reduceToNat, Nat.not_lt_zero, Int.reduceAdd, hk, hn_new, hn_pw, hr, hK_new, hK_pw, Nat.reduceAdd]
  refine k _ _ (fun a j ha => by rw [w_ne (by omega), x_z_at, hr, if_neg (by omega)]) (HE_pn (by omega) (by omega)) (by rw [hn_pw, hn_new, hr]) w_eq ⟨?_, ?_, ?_, ?_⟩
  · rw [hK_pw, hK_new, hr, if_neg (by decide)]
    exact hk
  · rw [hK_pw, hK_new, hr, if_pos rfl]
  · rw [hL_pw, hL_new, hr, if_pos rfl]
  · rw [hP_pw, if_pos ⟨rfl, rfl⟩]
def HE1 (h h' : xH) (b : Nat) : Prop := ∀ a, a < b → a ≠ 1 → hK h' a = hK h a ∧ hL h' a = hL h a ∧ ∀ i, hP h' a i = hP h a i
theorem HE1.t {h1 h2 : xH} {b : Nat} (H : HE1 h h1 b) (H2 : HE1 h1 h2 b) : HE1 h h2 b := fun a ha h1 => ⟨(H2 a ha h1).1.trans (H a ha h1).1, (H2 a ha h1).2.1.trans (H a ha h1).2.1, fun i => ((H2 a ha h1).2.2 i).trans ((H a ha h1).2.2 i)⟩
theorem HE1.le {b c : Nat} (H : HE1 h h' b) (hc : c ≤ b) : HE1 h h' c := fun a ha => H a (by omega)
theorem HE.one {b : Nat} (H : HE h h' b) : HE1 h h' b := fun a ha _ => H a ha
theorem HE1_pw {b q : Nat} {j : Int} : HE1 h (x_pw h 1 j q) b := fun a ha h1 => ⟨by rw [hK_pw], by rw [hL_pw], fun i => by rw [hP_pw, if_neg (by omega)]⟩
theorem HE1.sc {b c : Nat} (H : HE1 h h' b) (A : scA h c) (h2 : 2 ≤ c) (hc : c + 11 ≤ b) : scA h' c := by
  have L2 : ∀ a, 2 ≤ a → a < b → hK h' a = hK h a ∧ hL h' a = hL h a := fun a h1 ha => ⟨(H a ha (by omega)).1, (H a ha (by omega)).2.1⟩
  unfold scA at A ⊢
  rw [(L2 c (by omega) (by omega)).1, (L2 (c + 1) (by omega) (by omega)).1, (L2 (c + 2) (by omega) (by omega)).1, (L2 (c + 3) (by omega) (by omega)).1, (L2 (c + 4) (by omega) (by omega)).1, (L2 (c + 5) (by omega) (by omega)).1, (L2 (c + 6) (by omega) (by omega)).1, (L2 (c + 7) (by omega) (by omega)).1, (L2 (c + 8) (by omega) (by omega)).1, (L2 (c + 9) (by omega) (by omega)).1, (L2 (c + 10) (by omega) (by omega)).1, (L2 (c + 1) (by omega) (by omega)).2, (L2 (c + 2) (by omega) (by omega)).2, (L2 (c + 3) (by omega) (by omega)).2, (L2 (c + 4) (by omega) (by omega)).2, (L2 (c + 5) (by omega) (by omega)).2, (L2 (c + 6) (by omega) (by omega)).2, (L2 (c + 7) (by omega) (by omega)).2, (L2 (c + 8) (by omega) (by omega)).2, (L2 (c + 9) (by omega) (by omega)).2, (L2 (c + 10) (by omega) (by omega)).2]
  simp only [(H c (by omega) (by omega)).2.2]
  exact A
/-- the class's objects as they are made -/
def PI (M : xM) (h : xH) : Prop := (scA h 3 ∧ scA h 17) ∧
  (hK h 1 = 7 ∧ hP h 1 0 = 2 ∧ hP h 1 1 = 16 ∧ hP h 1 2 = 17 ∧ hP h 1 3 = 36 ∧ hP h 1 4 = 37 ∧ hP h 1 5 = 39) ∧
  (hK h 2 = 5 ∧ hK h 14 = 21 ∧ hK h 15 = 20 ∧ hL h 14 = 800 ∧ hL h 15 = 6 ∧ hP h 2 0 = 3 ∧ hP h 2 4 = 14 ∧ hP h 2 7 = 15) ∧
  ((∀ a, 28 ≤ a → a < 36 → hK h a = 20 ∧ hL h a = 150 ∧ hP h 16 ((a : Int) - 26) = a) ∧ hK h 16 = 6 ∧ hP h 16 0 = 17) ∧
  (hK h 36 = 3 ∧ hK h 37 = 0 ∧ hK h 38 = 24 ∧ hL h 38 = 10 ∧ hP h 37 0 = 38 ∧ hK h 39 = 2 ∧ hK h 40 = 21 ∧ hL h 40 = 2550 ∧ hP h 39 0 = 40) ∧
  (∀ i, hP h 13 i = 0 ∧ hP h 27 i = 0 ∧ hP h 38 i = 0) ∧
  (M 1 6 = 0 ∧ M 2 1 = 0 ∧ M 2 2 = -1 ∧ M 2 3 = 0 ∧ M 16 1 = 0 ∧ (M 17 0 = 0 ∧ M 17 1 = 0 ∧ M 17 2 = 0) ∧ M 37 1 = 0 ∧ M 37 2 = 0 ∧ M 39 1 = 0) ∧
  (∀ j, 0 ≤ j → j < 41 → M 24 j = -1) ∧ (∀ j, 0 ≤ j → j < 10 → M 25 j = -1 ∧ M 26 j = -1)
theorem PI.mv (P : PI M h) (H : HE h h' 41) (f : ∀ a j, a < 41 → M' a j = M a j) : PI M' h' := by
  have L2 : ∀ a, a < 41 → hK h' a = hK h a ∧ hL h' a = hL h a := fun a ha => ⟨(H a ha).1, (H a ha).2.1⟩
  have P2 : ∀ a i, a < 41 → hP h' a i = hP h a i := fun a i ha => (H a ha).2.2 i
  obtain ⟨⟨a1, a2⟩, b, c, ⟨d1, d2, d3⟩, e, g, m, m1, m2⟩ := P
  refine ⟨⟨H.sc a1 (by decide), H.sc a2 (by decide)⟩, ?_, ?_, ⟨fun a h1 h2 => ?_, ?_, ?_⟩, ?_, fun i => ?_, ?_, fun j h1 h2 => ?_, fun j h1 h2 => ?_⟩
  · rw [(L2 1 (by decide)).1]
    simp only [P2 1 _ (by decide)]
    exact b
  · rw [(L2 2 (by decide)).1, (L2 14 (by decide)).1, (L2 15 (by decide)).1, (L2 14 (by decide)).2, (L2 15 (by decide)).2]
    simp only [P2 2 _ (by decide)]
    exact c
  · rw [(L2 a (by omega)).1, (L2 a (by omega)).2, P2 16 _ (by decide)]
    exact d1 a h1 h2
  · rw [(L2 16 (by decide)).1]
    exact d2
  · rw [P2 16 _ (by decide)]
    exact d3
  · rw [(L2 36 (by decide)).1, (L2 37 (by decide)).1, (L2 38 (by decide)).1, (L2 38 (by decide)).2, (L2 39 (by decide)).1, (L2 40 (by decide)).1, (L2 40 (by decide)).2, P2 37 _ (by decide), P2 39 _ (by decide)]
    exact e
  · rw [P2 13 i (by decide), P2 27 i (by decide), P2 38 i (by decide)]
    exact g i
  · rw [f 1 6 (by decide), f 2 1 (by decide), f 2 2 (by decide), f 2 3 (by decide), f 16 1 (by decide), f 17 0 (by decide), f 17 1 (by decide), f 17 2 (by decide), f 37 1 (by decide), f 37 2 (by decide), f 39 1 (by decide)]
    exact m
  · rw [f 24 j (by decide)]
    exact m1 j h1 h2
  · rw [f 25 j (by decide), f 26 j (by decide)]
    exact m2 j h1 h2
theorem cP_init (hr : hn h = 2) (hk : hK h 1 = 7) (k : ∀ M' h', PI M' h' → hn h' = 41 → Φ (.inl none) M' h') : x_Cal zP_init [xA 1] M h Φ := by
  refine x_met0 kP_init (Nat.le_of_ble_eq_true rfl) ?_
  simp only [wq_g3, wq_gc, wq_g, wq_g1, wq_g2, eP_init, iP_init_0, vP_init, wps, x_cnd, reduceIte, Nat.reduceAdd, Nat.reduceSub, Nat.reduceEqDiff, Nat.reduceLeDiff, Nat.lt_irrefl, Nat.reduceLT, Int.cast_ofNat_Int, wq_c0, wq_c1, true_and, and_true, and_self, true_implies, forall_const, ne_eq, Decidable.not_not, not_true_eq_false, not_false_eq_true, List.map_nil, List.map_cons, List.sum_nil, List.sum_cons, List.length_cons, List.length_nil, Nat.le_refl, Nat.zero_le, reduceCtorEq, true_or, or_true, false_or, or_false, false_and, and_false, false_implies, Nat.zero_add, Nat.add_zero, Int.reduceEq, Int.reduceNe, Int.reduceLT, Int.reduceLE, Int.reduceNeg, Int.reduceToNat, Nat.not_lt_zero, Int.reduceAdd, hk, hn_new, hn_pw, hr, hK_new, hK_pw, Nat.reduceAdd]
  refine ⟨by decide, by decide, cR_init (by rw [hn_new, hr]) (by rw [hK_new, hr, if_pos rfl]) (fun M1 h1 f1 e1 n1 z1 A1 t1 p1 => ?_)⟩
  have k1 : hK h1 1 = 7 := (e1 1 (by decide)).1.trans (by rw [hK_new, hr, if_neg (by decide)]; exact hk)
  simp only [wq_g3, wq_gc, wq_g, wq_g1, wq_g2, eP_init, iP_init_0, vP_init, wps, x_cnd, reduceIte, Nat.reduceAdd, Nat.reduceSub, Nat.reduceEqDiff, Nat.reduceLeDiff, Nat.lt_irrefl, Nat.reduceLT, Int.cast_ofNat_Int, wq_c0, wq_c1, true_and, and_true, and_self, true_implies, forall_const, ne_eq, Decidable.not_not, not_true_eq_false, not_false_eq_true, List.map_nil, List.map_cons, List.sum_nil, List.sum_cons, List.length_cons, List.length_nil, Nat.le_refl, Nat.zero_le, reduceCtorEq, true_or, or_true, false_or, or_false, false_and, and_false, false_implies, Nat.zero_add, Nat.add_zero, Int.reduceEq, Int.reduceNe, Int.reduceLT, Int.reduceLE, Int.reduceNeg, Int.reduceToNat, Nat.not_lt_zero, Int.reduceAdd, k1, hn_new, hn_pw, n1, hK_new, hK_pw, Nat.reduceAdd]
  refine ⟨by decide, by decide, cV_init (by rw [hn_new, hn_pw, n1]) (by rw [hK_new, hn_pw, n1, if_pos rfl]) (fun M2 h2 f2 e2 n2 z2 z3 z4 z5 A2 t2 t3 p2 => ?_)⟩
  have k2 : hK h2 1 = 7 := (e2 1 (by decide)).1.trans (by rw [hK_new, hn_pw, n1, if_neg (by decide), hK_pw]; exact k1)
  have g2 : hP h2 1 0 = 2 := ((e2 1 (by decide)).2.2 0).trans (by rw [hP_new, hn_pw, n1, if_neg (by decide), hP_pw, if_pos ⟨rfl, rfl⟩])
  simp only [wq_g3, wq_gc, wq_g, wq_g1, wq_g2, eP_init, iP_init_0, vP_init, wps, x_cnd, reduceIte, Nat.reduceAdd, Nat.reduceSub, Nat.reduceEqDiff, Nat.reduceLeDiff, Nat.lt_irrefl, Nat.reduceLT, Int.cast_ofNat_Int, wq_c0, wq_c1, true_and, and_true, and_self, true_implies, forall_const, ne_eq, Decidable.not_not, not_true_eq_false, not_false_eq_true, List.map_nil, List.map_cons, List.sum_nil, List.sum_cons, List.length_cons, List.length_nil, Nat.le_refl, Nat.zero_le, reduceCtorEq, true_or, or_true, false_or, or_false, false_and, and_false, false_implies, Nat.zero_add, Nat.add_zero, Int.reduceEq, Int.reduceNe, Int.reduceLT, Int.reduceLE, Int.reduceNeg, Int.reduceToNat, Nat.not_lt_zero, Int.reduceAdd, k2, hn_new, hn_pw, n2, hK_new, hK_pw, hP_pw, t3, Nat.reduceAdd]
  have E2 : HE1 h2 (x_new (x_pw (x_pw h2 1 1 16) 1 2 17) 3 0) 36 := (HE1_pw.t HE1_pw).t (HE_n (by rw [hn_pw, hn_pw, n2]; decide)).one
  have G2 : ∀ i, hP (x_new (x_pw (x_pw h2 1 1 16) 1 2 17) 3 0) 1 i = if i = 2 then 17 else if i = 1 then 16 else hP h2 1 i := fun i => by
    rw [hP_new, hn_pw, hn_pw, n2, if_neg (by decide), hP_pw, hP_pw]
    simp only [true_and]
  have K2 : hK (x_new (x_pw (x_pw h2 1 1 16) 1 2 17) 3 0) 1 = 7 ∧ hK (x_new (x_pw (x_pw h2 1 1 16) 1 2 17) 3 0) 36 = 3 := by
    rw [hK_new, hK_new, hn_pw, hn_pw, n2, if_neg (by decide), if_pos rfl]
    exact ⟨k2, rfl⟩
  have N2 : hn (x_new (x_pw (x_pw h2 1 1 16) 1 2 17) 3 0) = 37 := by rw [hn_new, hn_pw, hn_pw, n2]
  have Z2 : ∀ a j, a < 36 → x_z M2 (x_pw (x_pw h2 1 1 16) 1 2 17) a j = M2 a j := fun a j ha => by rw [x_z_at, hn_pw, hn_pw, n2, if_neg (by omega)]
  refine ⟨by decide, by decide, ?_⟩
  generalize x_new (x_pw (x_pw h2 1 1 16) 1 2 17) 3 0 = hB at E2 G2 K2 N2
  refine cE_init N2 K2.2 (fun M3 f3 => ?_)
  simp only [wq_g3, wq_gc, wq_g, wq_g1, wq_g2, eP_init, iP_init_0, vP_init, wps, x_cnd, reduceIte, Nat.reduceAdd, Nat.reduceSub, Nat.reduceEqDiff, Nat.reduceLeDiff, Nat.lt_irrefl, Nat.reduceLT, Int.cast_ofNat_Int, wq_c0, wq_c1, true_and, and_true, and_self, true_implies, forall_const, ne_eq, Decidable.not_not, not_true_eq_false, not_false_eq_true, List.map_nil, List.map_cons, List.sum_nil, List.sum_cons, List.length_cons, List.length_nil, Nat.le_refl, Nat.zero_le, reduceCtorEq, true_or, or_true, false_or, or_false, false_and, and_false, false_implies, Nat.zero_add, Nat.add_zero, Int.reduceEq, Int.reduceNe, Int.reduceLT, Int.reduceLE, Int.reduceNeg, Int.reduceToNat, Nat.not_lt_zero, Int.reduceAdd, K2, hn_new, hn_pw, N2, hK_new, hK_pw, Nat.reduceAdd]
  refine ⟨by decide, by decide, cH_init (by rw [hn_new, hn_pw, N2]) (by rw [hK_new, hn_pw, N2, if_pos rfl]) (fun M4 h4 f4 e4 n4 z6 t4 => ?_)⟩
  have k4 : hK h4 1 = 7 := (e4 1 (by decide)).1.trans (by rw [hK_new, hn_pw, N2, if_neg (by decide), hK_pw]; exact K2.1)
  simp only [wq_g3, wq_gc, wq_g, wq_g1, wq_g2, eP_init, iP_init_0, vP_init, wps, x_cnd, reduceIte, Nat.reduceAdd, Nat.reduceSub, Nat.reduceEqDiff, Nat.reduceLeDiff, Nat.lt_irrefl, Nat.reduceLT, Int.cast_ofNat_Int, wq_c0, wq_c1, true_and, and_true, and_self, true_implies, forall_const, ne_eq, Decidable.not_not, not_true_eq_false, not_false_eq_true, List.map_nil, List.map_cons, List.sum_nil, List.sum_cons, List.length_cons, List.length_nil, Nat.le_refl, Nat.zero_le, reduceCtorEq, true_or, or_true, false_or, or_false, false_and, and_false, false_implies, Nat.zero_add, Nat.add_zero, Int.reduceEq, Int.reduceNe, Int.reduceLT, Int.reduceLE, Int.reduceNeg, Int.reduceToNat, Nat.not_lt_zero, Int.reduceAdd, k4, hn_new, hn_pw, n4, hK_new, hK_pw, Nat.reduceAdd]
  refine ⟨by decide, by decide, cW_init (by rw [hn_new, hn_pw, n4]) (by rw [hK_new, hn_pw, n4, if_pos rfl]) (fun M5 h5 f5 e5 n5 z7 t5 => ?_)⟩
  have k5 : hK h5 1 = 7 := (e5 1 (by decide)).1.trans (by rw [hK_new, hn_pw, n4, if_neg (by decide), hK_pw]; exact k4)
  simp only [wq_g3, wq_gc, wq_g, wq_g1, wq_g2, eP_init, iP_init_0, vP_init, wps, x_cnd, reduceIte, Nat.reduceAdd, Nat.reduceSub, Nat.reduceEqDiff, Nat.reduceLeDiff, Nat.lt_irrefl, Nat.reduceLT, Int.cast_ofNat_Int, wq_c0, wq_c1, true_and, and_true, and_self, true_implies, forall_const, ne_eq, Decidable.not_not, not_true_eq_false, not_false_eq_true, List.map_nil, List.map_cons, List.sum_nil, List.sum_cons, List.length_cons, List.length_nil, Nat.le_refl, Nat.zero_le, reduceCtorEq, true_or, or_true, false_or, or_false, false_and, and_false, false_implies, Nat.zero_add, Nat.add_zero, Int.reduceEq, Int.reduceNe, Int.reduceLT, Int.reduceLE, Int.reduceNeg, Int.reduceToNat, Nat.not_lt_zero, Int.reduceAdd, k5, hn_new, hn_pw, n5, hK_new, hK_pw, Nat.reduceAdd]
  have E5 : HE1 h5 (x_pw h5 1 5 39) 41 := HE1_pw
  have E4 : HE1 h4 (x_pw h5 1 5 39) 39 := ((HE1_pw.t (HE_n (by rw [hn_pw, n4]; decide)).one).t e5.one).t (E5.le (by decide))
  have EB : HE1 hB (x_pw h5 1 5 39) 37 := ((HE1_pw.t (HE_n (by rw [hn_pw, N2]; decide)).one).t e4.one).t (E4.le (by decide))
  have F2 : HE1 h2 (x_pw h5 1 5 39) 36 := E2.t (EB.le (by decide))
  have F1 : HE1 h1 (x_pw h5 1 5 39) 16 := ((HE1_pw.t (HE_n (by rw [hn_pw, n1]; decide)).one).t e2.one).t (F2.le (by decide))
  have g1 : ∀ i, hP (x_pw h5 1 5 39) 1 i = if i = 5 then 39 else if i = 4 then 37 else if i = 3 then 36 else if i = 2 then 17 else if i = 1 then 16 else hP h2 1 i := fun i => by
    rw [hP_pw, (e5 1 (by decide)).2.2 i, hP_new, hn_pw, n4, if_neg (show ¬ (1 : Nat) = 39 by decide), hP_pw, (e4 1 (by decide)).2.2 i, hP_new, hn_pw, N2, if_neg (show ¬ (1 : Nat) = 37 by decide), hP_pw, G2 i]
    simp only [true_and]
  have m4 : ∀ a j, a < 39 → x_w M5 1 6 0 a j = x_w M4 1 6 0 a j := fun a j ha => by
    simp only [x_w]
    split
    · rfl
    · rw [f5 a j ha, x_z_at, hn_pw, n4, if_neg (by omega)]
  have m3 : ∀ a j, a < 36 → x_w M5 1 6 0 a j = x_w M2 1 6 0 a j := fun a j ha => by
    rw [m4 a j (by omega)]
    simp only [x_w]
    split
    · rfl
    · rw [f4 a j (by omega), x_z_at, hn_pw, N2, if_neg (by omega), f3 a j ha, Z2 a j ha]
  have m1 : ∀ a j, a < 16 → a ≠ 1 → x_w M5 1 6 0 a j = M1 a j := fun a j ha h1 => by
    rw [m3 a j (by omega), w_ne h1, f2 a j ha, x_z_at, hn_pw, n1, if_neg (by omega)]
  refine k _ _ ⟨⟨F1.sc A1 (by decide) (by decide), F2.sc A2 (by decide) (by decide)⟩, ⟨?_, ?_, ?_, ?_, ?_, ?_, ?_⟩, ?_, ⟨fun a h1 h2 => ?_, ?_, ?_⟩, ⟨?_, ?_, ?_, ?_, ?_, ?_, ?_, ?_, ?_⟩, fun i => ⟨?_, ?_, ?_⟩, ⟨w_eq, ?_, ?_, ?_, ?_, ⟨?_, ?_, ?_⟩, ?_, ?_, ?_⟩, fun j h1 h2 => ?_, fun j h1 h2 => ?_⟩ (by rw [hn_pw, n5])
  · rw [hK_pw]
    exact k5
  · rw [g1]
    exact g2
  · exact g1 1
  · exact g1 2
  · exact g1 3
  · exact g1 4
  · exact g1 5
  · rw [(F1 2 (by decide) (by decide)).1, (F1 14 (by decide) (by decide)).1, (F1 15 (by decide) (by decide)).1, (F1 14 (by decide) (by decide)).2.1, (F1 15 (by decide) (by decide)).2.1, (F1 2 (by decide) (by decide)).2.2 0, (F1 2 (by decide) (by decide)).2.2 4, (F1 2 (by decide) (by decide)).2.2 7]
    exact t1
  · rw [(F2 a h2 (by omega)).1, (F2 a h2 (by omega)).2.1, (F2 16 (by decide) (by decide)).2.2]
    exact t2 a h1 h2
  · rw [(F2 16 (by decide) (by decide)).1]
    exact t3.1
  · rw [(F2 16 (by decide) (by decide)).2.2]
    exact t3.2
  · rw [(EB 36 (by decide) (by decide)).1]
    exact K2.2
  · rw [(E4 37 (by decide) (by decide)).1]
    exact t4.1
  · rw [(E4 38 (by decide) (by decide)).1]
    exact t4.2.1
  · rw [(E4 38 (by decide) (by decide)).2.1]
    exact t4.2.2.1
  · rw [(E4 37 (by decide) (by decide)).2.2]
    exact t4.2.2.2.1
  · rw [(E5 39 (by decide) (by decide)).1]
    exact t5.1
  · rw [(E5 40 (by decide) (by decide)).1]
    exact t5.2.1
  · rw [(E5 40 (by decide) (by decide)).2.1]
    exact t5.2.2.1
  · rw [(E5 39 (by decide) (by decide)).2.2]
    exact t5.2.2.2
  · rw [(F1 13 (by decide) (by decide)).2.2]
    exact p1 i
  · rw [(F2 27 (by decide) (by decide)).2.2]
    exact p2 i
  · rw [(E4 38 (by decide) (by decide)).2.2]
    exact t4.2.2.2.2 i
  · rw [m1 2 1 (by decide) (by decide)]
    exact z1.1
  · rw [m1 2 2 (by decide) (by decide)]
    exact z1.2.1
  · rw [m1 2 3 (by decide) (by decide)]
    exact z1.2.2
  · rw [m3 16 1 (by decide), w_ne (by decide)]
    exact z2
  · rw [m3 17 0 (by decide), w_ne (by decide)]
    exact z3.1
  · rw [m3 17 1 (by decide), w_ne (by decide)]
    exact z3.2.1
  · rw [m3 17 2 (by decide), w_ne (by decide)]
    exact z3.2.2
  · rw [m4 37 1 (by decide), w_ne (by decide)]
    exact z6.1
  · rw [m4 37 2 (by decide), w_ne (by decide)]
    exact z6.2
  · rw [w_ne (by decide)]
    exact z7
  · rw [m3 24 j (by decide), w_ne (by decide)]
    exact z4 j h1 h2
  · rw [m3 25 j (by decide), m3 26 j (by decide), w_ne (by decide), w_ne (by decide)]
    exact z5 j h1 h2
end INITP
