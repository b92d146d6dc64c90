/-! the drawn score's text -/
/-- what stands while the text is made: all below hn h but row 41's one number -/
def grF (M : xM) (h : xH) (M' : xM) (h' : xH) : Prop := hn h ≤ hn h' ∧ ∀ a, a < hn h → (a ≠ 41 → ∀ j, M' a j = M a j) ∧ hK h' a = hK h a ∧ hL h' a = hL h a ∧ ∀ j, hP h' a j = hP h a j
/-- the builder b, made since, holds L -/
def BI (L : List Int) (M : xM) (h : xH) (M' : xM) (h' : xH) (b : Nat) : Prop := sbR L M' h' b ∧ grF M h M' h' ∧ 42 ≤ hn h ∧ hn h ≤ b ∧ hn h ≤ hP h' b 0 ∧ hK h 41 = 20 ∧ hL h 41 = 1
theorem remv {v k : Int} (h1 : 0 ≤ v) (h2 : v < 8388608) (hk : 0 < k ∧ k < 2147483648) : ∃ d, x_rem v k = d ∧ 0 ≤ d ∧ d < k :=
  ⟨v % k, x_rem_of ⟨⟨h1, by omega⟩, hk⟩, Int.emod_nonneg v (by omega), Int.emod_lt_of_pos v hk.1⟩
section SCO
variable {M M' : xM} {h h' : xH} {Φ : xO → xM → xH → Prop} {L : List Int} {b : Nat}
set_option maxHeartbeats 2000000
theorem sbR.y (R : sbR L M h b) (h1 : b ≠ 41) (h2 : hP h b 0 ≠ 41) (y : Int) : sbR L (x_w M 41 0 y) h b := by
  obtain ⟨r1, ⟨r3, r4⟩, r5, r7, r8, r9⟩ := R
  exact ⟨r1, ⟨by rw [w_ne h1]; exact r3, by rw [w_ne h1]; exact r4⟩, r5, fun i hi => by rw [w_ne h2]; exact r7 i hi, fun j j1 j2 => by rw [w_ne h2]; exact r8 j j1 j2, r9⟩
theorem grF.y (G : grF M h M' h') (y : Int) : grF M h (x_w M' 41 0 y) h' := ⟨G.1, fun a ha => ⟨fun h41 j => (w_ne h41).trans ((G.2 a ha).1 h41 j), (G.2 a ha).2⟩⟩
theorem BI.y (I : BI L M h M' h' b) (y : Int) : BI L M h (x_w M' 41 0 y) h' b := by
  obtain ⟨R, G, n, b1, b2, k⟩ := I
  exact ⟨R.y (by omega) (by omega) y, G.y y, n, b1, b2, k⟩
theorem BI.put {L2 : List Int} {M2 : xM} {h2 : xH} (I : BI L M h M' h' b) (R2 : sbR L2 M2 h2 b) (F : sbF b M' h' M2 h2) : BI L2 M h M2 h2 b := by
  obtain ⟨R, ⟨g1, g2⟩, n, b1, b2, k⟩ := I
  obtain ⟨f1, f2, f3, f4, f5⟩ := F
  refine ⟨R2, ⟨by omega, fun a ha => ?_⟩, n, b1, by rcases f5 with f5 | f5 <;> omega, k⟩
  obtain ⟨e1, e2, e3, e4⟩ := g2 a ha
  refine ⟨fun h41 j => ?_, ?_, ?_, fun j => ?_⟩
  · rw [f2 a (by omega) (by omega) (by omega) j]
    exact e1 h41 j
  · rw [(f3 a (by omega)).1, e2]
  · rw [(f3 a (by omega)).2, e3]
  · rw [f4 a (by omega) (by omega) j, e4 j]
theorem bS {i : Nat} (I : BI L M h M' h' b) (hi : i < 22) (hl : L.length < 950) (k : ∀ M2 h2, BI (L ++ x_cs i) M h M2 h2 b → Φ (.inl (some (xA b))) M2 h2) : x_Cal zQ_appendS [xA b, xS i] M' h' Φ := cQ_appendS hi I.1 hl (fun M2 h2 R F => k M2 h2 (I.put R F))
theorem bI {v : Int} (I : BI L M h M' h' b) (hv : 0 ≤ v ∧ v < 100) (hl : L.length < 950) (k : ∀ M2 h2, BI (L ++ dgL v) M h M2 h2 b → Φ (.inl (some (xA b))) M2 h2) : x_Cal zQ_appendI [xA b, xI v] M' h' Φ := cQ_appendI I.1 hv (by omega) (fun M2 h2 R F => k M2 h2 (I.put R F))
theorem bC {v : Int} (I : BI L M h M' h' b) (hv : 0 ≤ v ∧ v < 128) (hl : L.length < 950) (k : ∀ M2 h2, BI (L ++ [v]) M h M2 h2 b → Φ (.inl (some (xA b))) M2 h2) : x_Cal zQ_appendC [xA b, xI v] M' h' Φ := cQ_appendC I.1 hv (by omega) (fun M2 h2 R F => k M2 h2 (I.put R F))
theorem bN (I : BI L M h M' h' b) (k : ∀ y v : Int, 0 ≤ v → v < 8388608 → BI L M h (x_w M' 41 0 y) h' b → Φ (.inl (some (xI v))) (x_w M' 41 0 y) h') : x_Cal zL_next [xA 41] M' h' Φ := by
  obtain ⟨e1, e2, e3, e4⟩ := I.2.1.2 41 (by have := I.2.2.1; omega)
  exact cl_next (e2.trans I.2.2.2.2.2.1) (e3.trans I.2.2.2.2.2.2) (fun y v v1 v2 => k y v v1 v2 (I.y y))
theorem x_cs9 : x_cs 9 = [98, 97, 114, 115, 32] ∧ x_cs 10 = [59, 98, 97, 114, 115, 32] ∧ x_cs 11 = [32] ∧ x_cs 12 = [59] ∧ x_cs 13 = [109, 97, 114, 107, 32] ∧ x_cs 14 = [116, 101, 120, 116, 32] ∧ x_cs 15 = [59, 100, 111, 117, 98, 108, 101, 32] ∧ x_cs 16 = [99, 117, 116, 32] ∧ x_cs 17 = [112, 97, 114, 116, 32] ∧ x_cs 18 = [32, 112, 108, 97, 121, 32] ∧ x_cs 19 = [32, 99, 117, 101, 32] ∧ x_cs 20 = [32, 114, 101, 115, 116, 32] := by decide +kernel
/-- a score of more bars than told, p parts so far, nothing inserted -/
def SK (bars : Int) (S : xSr) (p : Nat) : Prop := bars < (sN S : Int) ∧ sN S ≤ 22 ∧ sP S = p ∧ ∀ q : Nat, q < sN S → sX S q = 0
/-- the head of the text -/
def hdL (bars d e : Int) : List Int := [98, 97, 114, 115] ++ (32 :: dgL bars ++ [59]) ++ ([98, 97, 114, 115] ++ (32 :: dgL d ++ (32 :: dgL e ++ [59])))
theorem hd_len {bars d e : Int} : (hdL bars d e).length ≤ 19 := by
  have h1 := dg_len (v := bars)
  have h2 := dg_len (v := d)
  have h3 := dg_len (v := e)
  unfold hdL
  simp
  omega
theorem hd_PS {bars d e : Int} (hb : 6 ≤ bars ∧ bars ≤ 17) (hd : 1 ≤ d ∧ d ≤ 5) (he : 1 ≤ e ∧ e ≤ 12) : ∃ S, PS (hdL bars d e) S 0 0 (fun _ => 0) ∧ SK bars S 0 ∧ ∀ l : Int, sM S l = -1 := by
  have P1 := PS.nil.bars1 (v := bars) (by omega) (by show (0 : Int) + bars ≤ 150; omega)
  have e1 : sN (addS S0 bars.toNat 4) = bars.toNat := by show 0 + bars.toNat = _; omega
  have P2 := P1.bars2 (v := d) (b := e) (by omega) he (by rw [e1]; omega)
  refine ⟨_, P2, ⟨?_, ?_, rfl, fun q hq => ?_⟩, fun l => rfl⟩
  · show bars < (((0 + bars.toNat + d.toNat : Nat)) : Int)
    omega
  · show 0 + bars.toNat + d.toNat ≤ 22
    omega
  · show (if (q : Int) < ((0 + bars.toNat : Nat) : Int) then (if (q : Int) < ((0 : Nat) : Int) then (0 : Int) else 0) else 0) = 0
    split <;> (try split) <;> rfl
theorem cl_score {bars : Int} (hb : 6 ≤ bars ∧ bars ≤ 17) (n42 : 42 ≤ hn h) (k20 : hK h 41 = 20) (k1 : hL h 41 = 1) (k : ∀ M' h' s L S m c N, stR L M' h' s → hn h ≤ s → hn h ≤ hP h' s 0 → L.length ≤ 780 → PS L S m c N → SK bars S 3 → grF M h M' h' → Φ (.inl (some (xA s))) M' h') : x_Cal zL_score [xA 41, xI bars] M h Φ := by
  have ne41 : ¬ (41 = hn h) := by omega
  have ne41b : ¬ (41 = hn h + 1) := by omega
  have n9 : x_N 9 ≤ 20 := by decide
  have hb0 : ¬ (bars = 0) := by omega
  obtain ⟨s9, s10, s11, s12, s13, s14, s15, s16, s17, s18, s19, s20⟩ := x_cs9
  refine x_metI kL_score (Nat.le_of_ble_eq_true rfl) (fun t m ls st M' h' c n => st = [] ∧ ls 0 = some (xA 41) ∧ ls 1 = some (xI bars) ∧ ls 2 = some (xA (hn h)) ∧ ∃ (L : List Int) (S : xSr) (mm cc : Nat) (N : Int → Int), (
    (t = 70 ∧ ∃ (k : Nat) (mk : Int), m = 1000 - k ∧ k ≤ 4 ∧ ls 3 = some (xI mk) ∧ ls 4 = some (xI k) ∧ BI L M h M' h' (hn h) ∧ PS L S mm 0 (fun _ => 0) ∧ SK bars S 0 ∧ mm ≤ k ∧ (∀ q : Nat, q < mm → sM S ((q : Int) + 1) + 1 ≤ mk) ∧ 1 ≤ mk ∧ mk ≤ 1 + 4 * k ∧ L.length ≤ 19 + 8 * k ∧ c ≤ 14 + 3 * k ∧ n ≤ 17100 + 6000 * k)
    ∨ (t = 161 ∧ ∃ (j : Nat), m = 800 + j ∧ j ≤ 2 ∧ ls 4 = some (xI j) ∧ BI L M h M' h' (hn h) ∧ PS L S mm cc (fun _ => 0) ∧ SK bars S 0 ∧ cc + j ≤ 2 ∧ L.length + 10 * j ≤ 91 ∧ c + 5 * j ≤ 41 ∧ n + 10000 * j ≤ 71200)
    ∨ (t = 223 ∧ ∃ (p : Nat), m = 100 * (3 - p) + 50 ∧ p ≤ 3 ∧ ls 4 = some (xI p) ∧ BI L M h M' h' (hn h) ∧ PS L S mm cc N ∧ SK bars S p ∧ (∀ q : Nat, q < p → N q = q + 1) ∧ L.length ≤ 91 + 126 * p ∧ c ≤ 41 + 37 * p ∧ n ≤ 71200 + 74000 * p)
    ∨ (t = 248 ∧ ∃ (p : Nat) (told : Nat) (K : List Int) (S' : xSr) (N' : Int → Int), m + told = 100 * (3 - p) + bars.toNat ∧ (told : Int) ≤ bars ∧ p < 3 ∧ ls 4 = some (xI p) ∧ ls 5 = some (xI (bars - told)) ∧ BI (L ++ K) M h M' h' (hn h) ∧ PP L S mm cc N K told S' N' ∧ SK bars S' p ∧ (∀ q : Nat, q < p + 1 → N' q = q + 1) ∧ L.length ≤ 91 + 126 * p ∧ K.length ≤ 6 + 7 * told ∧ c ≤ 43 + 37 * p + 2 * told ∧ n ≤ 75200 + 74000 * p + 4000 * told))) 20 ?_ ?_
  · simp only [wq_g3, wq_gc, wq_g, wq_g1, wq_g2, eL_score, iL_score_0, iL_score_70, iL_score_108, iL_score_114, iL_score_161, iL_score_220, iL_score_223, iL_score_248, iL_score_297, iL_score_308, iL_score_310, iL_score_329, iL_score_342, vL_score, wps, x_cnd, reduceIte, Nat.reduceAdd, Nat.reduceSub, Nat.reduceEqDiff, Nat.reduceLeDiff, Nat.lt_irrefl, Nat.reduceLT, Int.cast_ofNat_Int, wq_c0, wq_c1, true_and, and_true, and_self, true_implies, forall_const, ne_eq, Decidable.not_not, not_true_eq_false, not_false_eq_true, List.map_nil, List.map_cons, List.sum_nil, List.sum_cons, List.length_cons, List.length_nil, Nat.le_refl, Nat.zero_le, reduceCtorEq, true_or, or_true, false_or, or_false, false_and, and_false, false_implies, Nat.zero_add, Nat.add_zero, Int.reduceEq, Int.reduceNe, Int.reduceLT, Int.reduceLE, Int.reduceNeg, Int.reduceToNat, Nat.not_lt_zero, Int.reduceAdd, hK_new, hL_new, hn_new, ne41, ne41b, k20, k1]
    (repeat refine ⟨by omega, ?_⟩)
    refine cQ_init (by simp only [hK_new, hn_new, if_pos]) (by simp only [hn_new]; omega) (by simp only [x_z_at, hn_new, if_pos]) (fun M1 h1 R1 F1 g1 => ?_)
    have I1 : BI [] (x_z M h) (x_new h 9 0) M1 h1 (hn h + 1) := by
      have f2 := F1.1
      simp only [hn_new] at f2
      refine ⟨R1, ⟨by rw [hn_new]; omega, fun a ha => ⟨fun _ j => ?_, ?_, ?_, fun j => ?_⟩⟩, by rw [hn_new]; omega, by rw [hn_new]; omega, ?_, ?_, ?_⟩
      · have := g1.2 a j (by simp only [hn_new] at ha ⊢; omega) (by simp only [hn_new] at ha; omega)
        rw [this, x_z_at, if_neg (by omega)]
      · simp only [hn_new] at ha
        rw [(F1.2.2.1 a (by simp only [hn_new]; omega)).1, hK_new, if_neg (by simp only [hn_new]; omega)]
      · simp only [hn_new] at ha
        rw [(F1.2.2.1 a (by simp only [hn_new]; omega)).2, hL_new, if_neg (by simp only [hn_new]; omega)]
      · simp only [hn_new] at ha
        rw [F1.2.2.2.1 a (by simp only [hn_new]; omega) (by omega) j, hP_new, if_neg (by simp only [hn_new]; omega)]
      · have := g1.1
        simp only [hn_new] at this ⊢
        omega
      · rw [hK_new, if_neg ne41]; exact k20
      · rw [hL_new, if_neg ne41]; exact k1
    simp only [wq_g3, wq_gc, wq_g, wq_g1, wq_g2, eL_score, iL_score_0, iL_score_70, iL_score_108, iL_score_114, iL_score_161, iL_score_220, iL_score_223, iL_score_248, iL_score_297, iL_score_308, iL_score_310, iL_score_329, iL_score_342, vL_score, wps, x_cnd, reduceIte, Nat.reduceAdd, Nat.reduceSub, Nat.reduceEqDiff, Nat.reduceLeDiff, Nat.lt_irrefl, Nat.reduceLT, Int.cast_ofNat_Int, wq_c0, wq_c1, true_and, and_true, and_self, true_implies, forall_const, ne_eq, Decidable.not_not, not_true_eq_false, not_false_eq_true, List.map_nil, List.map_cons, List.sum_nil, List.sum_cons, List.length_cons, List.length_nil, Nat.le_refl, Nat.zero_le, reduceCtorEq, true_or, or_true, false_or, or_false, false_and, and_false, false_implies, Nat.zero_add, Nat.add_zero, Int.reduceEq, Int.reduceNe, Int.reduceLT, Int.reduceLE, Int.reduceNeg, Int.reduceToNat, Nat.not_lt_zero, Int.reduceAdd, I1.1.1.1]
    (repeat refine ⟨by omega, ?_⟩)
    refine bS I1 (by decide) (by simp) (fun M2 h2 I2 => ?_)
    rw [s9] at I2
    simp only [wq_g3, wq_gc, wq_g, wq_g1, wq_g2, eL_score, iL_score_0, iL_score_70, iL_score_108, iL_score_114, iL_score_161, iL_score_220, iL_score_223, iL_score_248, iL_score_297, iL_score_308, iL_score_310, iL_score_329, iL_score_342, vL_score, wps, x_cnd, reduceIte, Nat.reduceAdd, Nat.reduceSub, Nat.reduceEqDiff, Nat.reduceLeDiff, Nat.lt_irrefl, Nat.reduceLT, Int.cast_ofNat_Int, wq_c0, wq_c1, true_and, and_true, and_self, true_implies, forall_const, ne_eq, Decidable.not_not, not_true_eq_false, not_false_eq_true, List.map_nil, List.map_cons, List.sum_nil, List.sum_cons, List.length_cons, List.length_nil, Nat.le_refl, Nat.zero_le, reduceCtorEq, true_or, or_true, false_or, or_false, false_and, and_false, false_implies, Nat.zero_add, Nat.add_zero, Int.reduceEq, Int.reduceNe, Int.reduceLT, Int.reduceLE, Int.reduceNeg, Int.reduceToNat, Nat.not_lt_zero, Int.reduceAdd, I2.1.1.1]
    (repeat refine ⟨by omega, ?_⟩)
    refine bI I2 (by omega) (by simp) (fun M3 h3 I3 => ?_)
    simp only [wq_g3, wq_gc, wq_g, wq_g1, wq_g2, eL_score, iL_score_0, iL_score_70, iL_score_108, iL_score_114, iL_score_161, iL_score_220, iL_score_223, iL_score_248, iL_score_297, iL_score_308, iL_score_310, iL_score_329, iL_score_342, vL_score, wps, x_cnd, reduceIte, Nat.reduceAdd, Nat.reduceSub, Nat.reduceEqDiff, Nat.reduceLeDiff, Nat.lt_irrefl, Nat.reduceLT, Int.cast_ofNat_Int, wq_c0, wq_c1, true_and, and_true, and_self, true_implies, forall_const, ne_eq, Decidable.not_not, not_true_eq_false, not_false_eq_true, List.map_nil, List.map_cons, List.sum_nil, List.sum_cons, List.length_cons, List.length_nil, Nat.le_refl, Nat.zero_le, reduceCtorEq, true_or, or_true, false_or, or_false, false_and, and_false, false_implies, Nat.zero_add, Nat.add_zero, Int.reduceEq, Int.reduceNe, Int.reduceLT, Int.reduceLE, Int.reduceNeg, Int.reduceToNat, Nat.not_lt_zero, Int.reduceAdd, I3.1.1.1]
    have dl1 := dg_len (v := bars)
    (repeat refine ⟨by omega, ?_⟩)
    refine bS I3 (by decide) (by simp; omega) (fun M4 h4 I4 => ?_)
    rw [s10] at I4
    simp only [wq_g3, wq_gc, wq_g, wq_g1, wq_g2, eL_score, iL_score_0, iL_score_70, iL_score_108, iL_score_114, iL_score_161, iL_score_220, iL_score_223, iL_score_248, iL_score_297, iL_score_308, iL_score_310, iL_score_329, iL_score_342, vL_score, wps, x_cnd, reduceIte, Nat.reduceAdd, Nat.reduceSub, Nat.reduceEqDiff, Nat.reduceLeDiff, Nat.lt_irrefl, Nat.reduceLT, Int.cast_ofNat_Int, wq_c0, wq_c1, true_and, and_true, and_self, true_implies, forall_const, ne_eq, Decidable.not_not, not_true_eq_false, not_false_eq_true, List.map_nil, List.map_cons, List.sum_nil, List.sum_cons, List.length_cons, List.length_nil, Nat.le_refl, Nat.zero_le, reduceCtorEq, true_or, or_true, false_or, or_false, false_and, and_false, false_implies, Nat.zero_add, Nat.add_zero, Int.reduceEq, Int.reduceNe, Int.reduceLT, Int.reduceLE, Int.reduceNeg, Int.reduceToNat, Nat.not_lt_zero, Int.reduceAdd, I4.1.1.1]
    (repeat refine ⟨by omega, ?_⟩)
    refine bN I4 (fun y v v1 v2 I5 => ?_)
    obtain ⟨d, ed, d1, d2⟩ := remv (k := 5) v1 v2 (by decide)
    simp only [wq_g3, wq_gc, wq_g, wq_g1, wq_g2, eL_score, iL_score_0, iL_score_70, iL_score_108, iL_score_114, iL_score_161, iL_score_220, iL_score_223, iL_score_248, iL_score_297, iL_score_308, iL_score_310, iL_score_329, iL_score_342, vL_score, wps, x_cnd, reduceIte, Nat.reduceAdd, Nat.reduceSub, Nat.reduceEqDiff, Nat.reduceLeDiff, Nat.lt_irrefl, Nat.reduceLT, Int.cast_ofNat_Int, wq_c0, wq_c1, true_and, and_true, and_self, true_implies, forall_const, ne_eq, Decidable.not_not, not_true_eq_false, not_false_eq_true, List.map_nil, List.map_cons, List.sum_nil, List.sum_cons, List.length_cons, List.length_nil, Nat.le_refl, Nat.zero_le, reduceCtorEq, true_or, or_true, false_or, or_false, false_and, and_false, false_implies, Nat.zero_add, Nat.add_zero, Int.reduceEq, Int.reduceNe, Int.reduceLT, Int.reduceLE, Int.reduceNeg, Int.reduceToNat, Nat.not_lt_zero, Int.reduceAdd, I5.1.1.1, ed]
    simp (disch := omega) only [w32_of]
    have dl2 := dg_len (v := 1 + d)
    (repeat refine ⟨by omega, ?_⟩)
    refine bI I5 (by omega) (by simp; omega) (fun M6 h6 I6 => ?_)
    simp only [wq_g3, wq_gc, wq_g, wq_g1, wq_g2, eL_score, iL_score_0, iL_score_70, iL_score_108, iL_score_114, iL_score_161, iL_score_220, iL_score_223, iL_score_248, iL_score_297, iL_score_308, iL_score_310, iL_score_329, iL_score_342, vL_score, wps, x_cnd, reduceIte, Nat.reduceAdd, Nat.reduceSub, Nat.reduceEqDiff, Nat.reduceLeDiff, Nat.lt_irrefl, Nat.reduceLT, Int.cast_ofNat_Int, wq_c0, wq_c1, true_and, and_true, and_self, true_implies, forall_const, ne_eq, Decidable.not_not, not_true_eq_false, not_false_eq_true, List.map_nil, List.map_cons, List.sum_nil, List.sum_cons, List.length_cons, List.length_nil, Nat.le_refl, Nat.zero_le, reduceCtorEq, true_or, or_true, false_or, or_false, false_and, and_false, false_implies, Nat.zero_add, Nat.add_zero, Int.reduceEq, Int.reduceNe, Int.reduceLT, Int.reduceLE, Int.reduceNeg, Int.reduceToNat, Nat.not_lt_zero, Int.reduceAdd, I6.1.1.1]
    (repeat refine ⟨by omega, ?_⟩)
    refine bS I6 (by decide) (by simp; omega) (fun M7 h7 I7 => ?_)
    rw [s11] at I7
    simp only [wq_g3, wq_gc, wq_g, wq_g1, wq_g2, eL_score, iL_score_0, iL_score_70, iL_score_108, iL_score_114, iL_score_161, iL_score_220, iL_score_223, iL_score_248, iL_score_297, iL_score_308, iL_score_310, iL_score_329, iL_score_342, vL_score, wps, x_cnd, reduceIte, Nat.reduceAdd, Nat.reduceSub, Nat.reduceEqDiff, Nat.reduceLeDiff, Nat.lt_irrefl, Nat.reduceLT, Int.cast_ofNat_Int, wq_c0, wq_c1, true_and, and_true, and_self, true_implies, forall_const, ne_eq, Decidable.not_not, not_true_eq_false, not_false_eq_true, List.map_nil, List.map_cons, List.sum_nil, List.sum_cons, List.length_cons, List.length_nil, Nat.le_refl, Nat.zero_le, reduceCtorEq, true_or, or_true, false_or, or_false, false_and, and_false, false_implies, Nat.zero_add, Nat.add_zero, Int.reduceEq, Int.reduceNe, Int.reduceLT, Int.reduceLE, Int.reduceNeg, Int.reduceToNat, Nat.not_lt_zero, Int.reduceAdd, I7.1.1.1]
    (repeat refine ⟨by omega, ?_⟩)
    refine bN I7 (fun y2 v' v3 v4 I8 => ?_)
    obtain ⟨e, ee, e1, e2⟩ := remv (k := 12) v3 v4 (by decide)
    simp only [wq_g3, wq_gc, wq_g, wq_g1, wq_g2, eL_score, iL_score_0, iL_score_70, iL_score_108, iL_score_114, iL_score_161, iL_score_220, iL_score_223, iL_score_248, iL_score_297, iL_score_308, iL_score_310, iL_score_329, iL_score_342, vL_score, wps, x_cnd, reduceIte, Nat.reduceAdd, Nat.reduceSub, Nat.reduceEqDiff, Nat.reduceLeDiff, Nat.lt_irrefl, Nat.reduceLT, Int.cast_ofNat_Int, wq_c0, wq_c1, true_and, and_true, and_self, true_implies, forall_const, ne_eq, Decidable.not_not, not_true_eq_false, not_false_eq_true, List.map_nil, List.map_cons, List.sum_nil, List.sum_cons, List.length_cons, List.length_nil, Nat.le_refl, Nat.zero_le, reduceCtorEq, true_or, or_true, false_or, or_false, false_and, and_false, false_implies, Nat.zero_add, Nat.add_zero, Int.reduceEq, Int.reduceNe, Int.reduceLT, Int.reduceLE, Int.reduceNeg, Int.reduceToNat, Nat.not_lt_zero, Int.reduceAdd, I8.1.1.1, ee]
    simp (disch := omega) only [w32_of]
    have dl3 := dg_len (v := 1 + e)
    (repeat refine ⟨by omega, ?_⟩)
    refine bI I8 (by omega) (by simp; omega) (fun M9 h9 I9 => ?_)
    simp only [wq_g3, wq_gc, wq_g, wq_g1, wq_g2, eL_score, iL_score_0, iL_score_70, iL_score_108, iL_score_114, iL_score_161, iL_score_220, iL_score_223, iL_score_248, iL_score_297, iL_score_308, iL_score_310, iL_score_329, iL_score_342, vL_score, wps, x_cnd, reduceIte, Nat.reduceAdd, Nat.reduceSub, Nat.reduceEqDiff, Nat.reduceLeDiff, Nat.lt_irrefl, Nat.reduceLT, Int.cast_ofNat_Int, wq_c0, wq_c1, true_and, and_true, and_self, true_implies, forall_const, ne_eq, Decidable.not_not, not_true_eq_false, not_false_eq_true, List.map_nil, List.map_cons, List.sum_nil, List.sum_cons, List.length_cons, List.length_nil, Nat.le_refl, Nat.zero_le, reduceCtorEq, true_or, or_true, false_or, or_false, false_and, and_false, false_implies, Nat.zero_add, Nat.add_zero, Int.reduceEq, Int.reduceNe, Int.reduceLT, Int.reduceLE, Int.reduceNeg, Int.reduceToNat, Nat.not_lt_zero, Int.reduceAdd, I9.1.1.1]
    (repeat refine ⟨by omega, ?_⟩)
    refine bS I9 (by decide) (by simp; omega) (fun M10 h10 I10 => ?_)
    rw [s12] at I10
    simp only [wq_g3, wq_gc, wq_g, wq_g1, wq_g2, eL_score, iL_score_0, iL_score_70, iL_score_108, iL_score_114, iL_score_161, iL_score_220, iL_score_223, iL_score_248, iL_score_297, iL_score_308, iL_score_310, iL_score_329, iL_score_342, vL_score, wps, x_cnd, reduceIte, Nat.reduceAdd, Nat.reduceSub, Nat.reduceEqDiff, Nat.reduceLeDiff, Nat.lt_irrefl, Nat.reduceLT, Int.cast_ofNat_Int, wq_c0, wq_c1, true_and, and_true, and_self, true_implies, forall_const, ne_eq, Decidable.not_not, not_true_eq_false, not_false_eq_true, List.map_nil, List.map_cons, List.sum_nil, List.sum_cons, List.length_cons, List.length_nil, Nat.le_refl, Nat.zero_le, reduceCtorEq, true_or, or_true, false_or, or_false, false_and, and_false, false_implies, Nat.zero_add, Nat.add_zero, Int.reduceEq, Int.reduceNe, Int.reduceLT, Int.reduceLE, Int.reduceNeg, Int.reduceToNat, Nat.not_lt_zero, Int.reduceAdd, I10.1.1.1]
    (repeat refine ⟨by omega, ?_⟩)
    have eL : ([] ++ [98, 97, 114, 115, 32] ++ dgL bars ++ [59, 98, 97, 114, 115, 32] ++ dgL (1 + d) ++ [32] ++ dgL (1 + e) ++ [59] : List Int) = hdL bars (1 + d) (1 + e) := by
      unfold hdL
      simp
    rw [eL] at I10
    have hl := hd_len (bars := bars) (d := 1 + d) (e := 1 + e)
    refine cQ_toString I10.1 (by omega) (fun M11 h11 T1 f1 _ => ?_)
    have kb : hK h11 (hn h) = 9 := by
      rw [(f1.2 (hn h) (by have := I10.2.1.1; rw [hn_new] at this; omega)).2.1, (I10.2.1.2 (hn h) (by rw [hn_new]; omega)).2.1, hK_new, if_pos rfl]
    have hb1 : hn h < hn h10 := by have := I10.2.1.1; rw [hn_new] at this; omega
    simp only [wq_g3, wq_gc, wq_g, wq_g1, wq_g2, eL_score, iL_score_0, iL_score_70, iL_score_108, iL_score_114, iL_score_161, iL_score_220, iL_score_223, iL_score_248, iL_score_297, iL_score_308, iL_score_310, iL_score_329, iL_score_342, vL_score, wps, x_cnd, reduceIte, Nat.reduceAdd, Nat.reduceSub, Nat.reduceEqDiff, Nat.reduceLeDiff, Nat.lt_irrefl, Nat.reduceLT, Int.cast_ofNat_Int, wq_c0, wq_c1, true_and, and_true, and_self, true_implies, forall_const, ne_eq, Decidable.not_not, not_true_eq_false, not_false_eq_true, List.map_nil, List.map_cons, List.sum_nil, List.sum_cons, List.length_cons, List.length_nil, Nat.le_refl, Nat.zero_le, reduceCtorEq, true_or, or_true, false_or, or_false, false_and, and_false, false_implies, Nat.zero_add, Nat.add_zero, Int.reduceEq, Int.reduceNe, Int.reduceLT, Int.reduceLE, Int.reduceNeg, Int.reduceToNat, Nat.not_lt_zero, Int.reduceAdd, kb, T1.1.1, wrc]
    (repeat refine ⟨by omega, ?_⟩)
    refine cQ_initS kb (by have := f1.1; omega) ?_ T1 (by omega) (fun M12 h12 R12 F12 g12 => ?_)
    · rw [(f1.2 (hn h) hb1).1 3, (I10.2.1.2 (hn h) (by rw [hn_new]; omega)).1 (by omega) 3, x_z_at, if_pos rfl]
    simp only [wq_g3, wq_gc, wq_g, wq_g1, wq_g2, eL_score, iL_score_0, iL_score_70, iL_score_108, iL_score_114, iL_score_161, iL_score_220, iL_score_223, iL_score_248, iL_score_297, iL_score_308, iL_score_310, iL_score_329, iL_score_342, vL_score, wps, x_cnd, reduceIte, Nat.reduceAdd, Nat.reduceSub, Nat.reduceEqDiff, Nat.reduceLeDiff, Nat.lt_irrefl, Nat.reduceLT, Int.cast_ofNat_Int, wq_c0, wq_c1, true_and, and_true, and_self, true_implies, forall_const, ne_eq, Decidable.not_not, not_true_eq_false, not_false_eq_true, List.map_nil, List.map_cons, List.sum_nil, List.sum_cons, List.length_cons, List.length_nil, Nat.le_refl, Nat.zero_le, reduceCtorEq, true_or, or_true, false_or, or_false, false_and, and_false, false_implies, Nat.zero_add, Nat.add_zero, Int.reduceEq, Int.reduceNe, Int.reduceLT, Int.reduceLE, Int.reduceNeg, Int.reduceToNat, Nat.not_lt_zero, Int.reduceAdd]
    obtain ⟨S, P, K, sm⟩ := hd_PS (d := 1 + d) (e := 1 + e) hb (by omega) (by omega)
    have G : grF M h M12 h12 := by
      have q0 := I10.2.1.1
      rw [hn_new] at q0
      have q1 := f1.1
      refine ⟨by have := F12.1; omega, fun a ha => ?_⟩
      obtain ⟨a1, a2, a3, a4⟩ := I10.2.1.2 a (by rw [hn_new]; omega)
      obtain ⟨b1, b2, b3, b4⟩ := f1.2 a (by omega)
      refine ⟨fun h41 j => ?_, ?_, ?_, fun j => ?_⟩
      · rw [g12.2 a j (by omega) (by omega), b1 j, a1 h41 j, x_z_at, if_neg (by omega)]
      · rw [(F12.2.2.1 a (by omega)).1, b2, a2, hK_new, if_neg (by omega)]
      · rw [(F12.2.2.1 a (by omega)).2, b3, a3, hL_new, if_neg (by omega)]
      · rw [F12.2.2.2.1 a (by omega) (by omega) j, b4 j, a4 j, hP_new, if_neg (by omega)]
    generalize x_N 9 = n9' at n9 ⊢
    have u9 : n9' + n9' ≤ 40 := by omega
    refine ⟨_, hdL bars (1 + d) (1 + e), S, 0, 0, fun _ => 0, 0, 1, rfl, by omega, rfl, rfl, ⟨R12, G, n42, Nat.le_refl _, by have := g12.1; have := f1.1; omega, k20, k1⟩, P, K, by omega, fun q hq => absurd hq (by omega), by omega, by omega, by omega, ?_, ?_⟩
    · omega
    · omega
  · rintro t m ls st M' h' c n ⟨rfl, l0, l1, l2, L, S, mm, cc, N, (⟨rfl, k', mk, m1, k1', l3, l4, I, P, K, q1, q2, q3, q4, q5, q6, q7⟩ | ⟨rfl, j, m1, j1, l4, I, P, K, q1, q5, q6, q7⟩ | ⟨rfl, p, m1, p1, l4, I, P, K, q1, q5, q6, q7⟩ | ⟨rfl, p, told, K0, S', N', m1, p1, p2, l4, l5, I, P, K, q1, q2, q5, q6, q7⟩)⟩
    · have kb := I.1.1.1
      simp only [wq_g3, wq_gc, wq_g, wq_g1, wq_g2, eL_score, iL_score_0, iL_score_70, iL_score_108, iL_score_114, iL_score_161, iL_score_220, iL_score_223, iL_score_248, iL_score_297, iL_score_308, iL_score_310, iL_score_329, iL_score_342, vL_score, wps, x_cnd, reduceIte, Nat.reduceAdd, Nat.reduceSub, Nat.reduceEqDiff, Nat.reduceLeDiff, Nat.lt_irrefl, Nat.reduceLT, Int.cast_ofNat_Int, wq_c0, wq_c1, true_and, and_true, and_self, true_implies, forall_const, ne_eq, Decidable.not_not, not_true_eq_false, not_false_eq_true, List.map_nil, List.map_cons, List.sum_nil, List.sum_cons, List.length_cons, List.length_nil, Nat.le_refl, Nat.zero_le, reduceCtorEq, true_or, or_true, false_or, or_false, false_and, and_false, false_implies, Nat.zero_add, Nat.add_zero, Int.reduceEq, Int.reduceNe, Int.reduceLT, Int.reduceLE, Int.reduceNeg, Int.reduceToNat, Nat.not_lt_zero, Int.reduceAdd, l0, l1, l2, l3, l4, kb]
      refine ⟨fun c0 => ?_, fun c0 => ?_⟩
      · have hk4 : k' = 4 := by omega
        subst hk4
        (repeat refine ⟨by omega, ?_⟩)
        refine bS I (by decide) (by omega) (fun M2 h2 I2 => ?_)
        rw [s14] at I2
        simp only [wq_g3, wq_gc, wq_g, wq_g1, wq_g2, eL_score, iL_score_0, iL_score_70, iL_score_108, iL_score_114, iL_score_161, iL_score_220, iL_score_223, iL_score_248, iL_score_297, iL_score_308, iL_score_310, iL_score_329, iL_score_342, vL_score, wps, x_cnd, reduceIte, Nat.reduceAdd, Nat.reduceSub, Nat.reduceEqDiff, Nat.reduceLeDiff, Nat.lt_irrefl, Nat.reduceLT, Int.cast_ofNat_Int, wq_c0, wq_c1, true_and, and_true, and_self, true_implies, forall_const, ne_eq, Decidable.not_not, not_true_eq_false, not_false_eq_true, List.map_nil, List.map_cons, List.sum_nil, List.sum_cons, List.length_cons, List.length_nil, Nat.le_refl, Nat.zero_le, reduceCtorEq, true_or, or_true, false_or, or_false, false_and, and_false, false_implies, Nat.zero_add, Nat.add_zero, Int.reduceEq, Int.reduceNe, Int.reduceLT, Int.reduceLE, Int.reduceNeg, Int.reduceToNat, Nat.not_lt_zero, Int.reduceAdd, l0, l1, l2, I2.1.1.1]
        (repeat refine ⟨by omega, ?_⟩)
        refine bN I2 (fun y v v1 v2 I3 => ?_)
        obtain ⟨d, ed, d1, d2⟩ := remv (k := bars) v1 v2 (by omega)
        simp only [wq_g3, wq_gc, wq_g, wq_g1, wq_g2, eL_score, iL_score_0, iL_score_70, iL_score_108, iL_score_114, iL_score_161, iL_score_220, iL_score_223, iL_score_248, iL_score_297, iL_score_308, iL_score_310, iL_score_329, iL_score_342, vL_score, wps, x_cnd, reduceIte, Nat.reduceAdd, Nat.reduceSub, Nat.reduceEqDiff, Nat.reduceLeDiff, Nat.lt_irrefl, Nat.reduceLT, Int.cast_ofNat_Int, wq_c0, wq_c1, true_and, and_true, and_self, true_implies, forall_const, ne_eq, Decidable.not_not, not_true_eq_false, not_false_eq_true, List.map_nil, List.map_cons, List.sum_nil, List.sum_cons, List.length_cons, List.length_nil, Nat.le_refl, Nat.zero_le, reduceCtorEq, true_or, or_true, false_or, or_false, false_and, and_false, false_implies, Nat.zero_add, Nat.add_zero, Int.reduceEq, Int.reduceNe, Int.reduceLT, Int.reduceLE, Int.reduceNeg, Int.reduceToNat, Nat.not_lt_zero, Int.reduceAdd, l0, l1, l2, I3.1.1.1, ed, hb0]
        simp (disch := omega) only [w32_of]
        have dl1 := dg_len (v := 1 + d)
        (repeat refine ⟨by omega, ?_⟩)
        refine bI I3 (by omega) (by simp; omega) (fun M4 h4 I4 => ?_)
        simp only [wq_g3, wq_gc, wq_g, wq_g1, wq_g2, eL_score, iL_score_0, iL_score_70, iL_score_108, iL_score_114, iL_score_161, iL_score_220, iL_score_223, iL_score_248, iL_score_297, iL_score_308, iL_score_310, iL_score_329, iL_score_342, vL_score, wps, x_cnd, reduceIte, Nat.reduceAdd, Nat.reduceSub, Nat.reduceEqDiff, Nat.reduceLeDiff, Nat.lt_irrefl, Nat.reduceLT, Int.cast_ofNat_Int, wq_c0, wq_c1, true_and, and_true, and_self, true_implies, forall_const, ne_eq, Decidable.not_not, not_true_eq_false, not_false_eq_true, List.map_nil, List.map_cons, List.sum_nil, List.sum_cons, List.length_cons, List.length_nil, Nat.le_refl, Nat.zero_le, reduceCtorEq, true_or, or_true, false_or, or_false, false_and, and_false, false_implies, Nat.zero_add, Nat.add_zero, Int.reduceEq, Int.reduceNe, Int.reduceLT, Int.reduceLE, Int.reduceNeg, Int.reduceToNat, Nat.not_lt_zero, Int.reduceAdd, l0, l1, l2, I4.1.1.1]
        (repeat refine ⟨by omega, ?_⟩)
        refine bS I4 (by decide) (by simp; omega) (fun M5 h5 I5 => ?_)
        rw [s15] at I5
        simp only [wq_g3, wq_gc, wq_g, wq_g1, wq_g2, eL_score, iL_score_0, iL_score_70, iL_score_108, iL_score_114, iL_score_161, iL_score_220, iL_score_223, iL_score_248, iL_score_297, iL_score_308, iL_score_310, iL_score_329, iL_score_342, vL_score, wps, x_cnd, reduceIte, Nat.reduceAdd, Nat.reduceSub, Nat.reduceEqDiff, Nat.reduceLeDiff, Nat.lt_irrefl, Nat.reduceLT, Int.cast_ofNat_Int, wq_c0, wq_c1, true_and, and_true, and_self, true_implies, forall_const, ne_eq, Decidable.not_not, not_true_eq_false, not_false_eq_true, List.map_nil, List.map_cons, List.sum_nil, List.sum_cons, List.length_cons, List.length_nil, Nat.le_refl, Nat.zero_le, reduceCtorEq, true_or, or_true, false_or, or_false, false_and, and_false, false_implies, Nat.zero_add, Nat.add_zero, Int.reduceEq, Int.reduceNe, Int.reduceLT, Int.reduceLE, Int.reduceNeg, Int.reduceToNat, Nat.not_lt_zero, Int.reduceAdd, l0, l1, l2, I5.1.1.1]
        (repeat refine ⟨by omega, ?_⟩)
        refine bN I5 (fun y2 v' v3 v4 I6 => ?_)
        obtain ⟨e, ee, e1, e2⟩ := remv (k := bars) v3 v4 (by omega)
        simp only [wq_g3, wq_gc, wq_g, wq_g1, wq_g2, eL_score, iL_score_0, iL_score_70, iL_score_108, iL_score_114, iL_score_161, iL_score_220, iL_score_223, iL_score_248, iL_score_297, iL_score_308, iL_score_310, iL_score_329, iL_score_342, vL_score, wps, x_cnd, reduceIte, Nat.reduceAdd, Nat.reduceSub, Nat.reduceEqDiff, Nat.reduceLeDiff, Nat.lt_irrefl, Nat.reduceLT, Int.cast_ofNat_Int, wq_c0, wq_c1, true_and, and_true, and_self, true_implies, forall_const, ne_eq, Decidable.not_not, not_true_eq_false, not_false_eq_true, List.map_nil, List.map_cons, List.sum_nil, List.sum_cons, List.length_cons, List.length_nil, Nat.le_refl, Nat.zero_le, reduceCtorEq, true_or, or_true, false_or, or_false, false_and, and_false, false_implies, Nat.zero_add, Nat.add_zero, Int.reduceEq, Int.reduceNe, Int.reduceLT, Int.reduceLE, Int.reduceNeg, Int.reduceToNat, Nat.not_lt_zero, Int.reduceAdd, l0, l1, l2, I6.1.1.1, ee, hb0]
        simp (disch := omega) only [w32_of]
        have dl2 := dg_len (v := 1 + e)
        (repeat refine ⟨by omega, ?_⟩)
        refine bI I6 (by omega) (by simp; omega) (fun M7 h7 I7 => ?_)
        simp only [wq_g3, wq_gc, wq_g, wq_g1, wq_g2, eL_score, iL_score_0, iL_score_70, iL_score_108, iL_score_114, iL_score_161, iL_score_220, iL_score_223, iL_score_248, iL_score_297, iL_score_308, iL_score_310, iL_score_329, iL_score_342, vL_score, wps, x_cnd, reduceIte, Nat.reduceAdd, Nat.reduceSub, Nat.reduceEqDiff, Nat.reduceLeDiff, Nat.lt_irrefl, Nat.reduceLT, Int.cast_ofNat_Int, wq_c0, wq_c1, true_and, and_true, and_self, true_implies, forall_const, ne_eq, Decidable.not_not, not_true_eq_false, not_false_eq_true, List.map_nil, List.map_cons, List.sum_nil, List.sum_cons, List.length_cons, List.length_nil, Nat.le_refl, Nat.zero_le, reduceCtorEq, true_or, or_true, false_or, or_false, false_and, and_false, false_implies, Nat.zero_add, Nat.add_zero, Int.reduceEq, Int.reduceNe, Int.reduceLT, Int.reduceLE, Int.reduceNeg, Int.reduceToNat, Nat.not_lt_zero, Int.reduceAdd, l0, l1, l2, I7.1.1.1]
        (repeat refine ⟨by omega, ?_⟩)
        refine bC I7 (by decide) (by simp; omega) (fun M8 h8 I8 => ?_)
        simp only [wq_g3, wq_gc, wq_g, wq_g1, wq_g2, eL_score, iL_score_0, iL_score_70, iL_score_108, iL_score_114, iL_score_161, iL_score_220, iL_score_223, iL_score_248, iL_score_297, iL_score_308, iL_score_310, iL_score_329, iL_score_342, vL_score, wps, x_cnd, reduceIte, Nat.reduceAdd, Nat.reduceSub, Nat.reduceEqDiff, Nat.reduceLeDiff, Nat.lt_irrefl, Nat.reduceLT, Int.cast_ofNat_Int, wq_c0, wq_c1, true_and, and_true, and_self, true_implies, forall_const, ne_eq, Decidable.not_not, not_true_eq_false, not_false_eq_true, List.map_nil, List.map_cons, List.sum_nil, List.sum_cons, List.length_cons, List.length_nil, Nat.le_refl, Nat.zero_le, reduceCtorEq, true_or, or_true, false_or, or_false, false_and, and_false, false_implies, Nat.zero_add, Nat.add_zero, Int.reduceEq, Int.reduceNe, Int.reduceLT, Int.reduceLE, Int.reduceNeg, Int.reduceToNat, Nat.not_lt_zero, Int.reduceAdd, l0, l1, l2, I8.1.1.1]
        (repeat refine ⟨by omega, ?_⟩)
        refine bN I8 (fun y3 v'' v5 v6 I9 => ?_)
        obtain ⟨j, ej, j1, j2⟩ := remv (k := 3) v5 v6 (by decide)
        simp only [wq_g3, wq_gc, wq_g, wq_g1, wq_g2, eL_score, iL_score_0, iL_score_70, iL_score_108, iL_score_114, iL_score_161, iL_score_220, iL_score_223, iL_score_248, iL_score_297, iL_score_308, iL_score_310, iL_score_329, iL_score_342, vL_score, wps, x_cnd, reduceIte, Nat.reduceAdd, Nat.reduceSub, Nat.reduceEqDiff, Nat.reduceLeDiff, Nat.lt_irrefl, Nat.reduceLT, Int.cast_ofNat_Int, wq_c0, wq_c1, true_and, and_true, and_self, true_implies, forall_const, ne_eq, Decidable.not_not, not_true_eq_false, not_false_eq_true, List.map_nil, List.map_cons, List.sum_nil, List.sum_cons, List.length_cons, List.length_nil, Nat.le_refl, Nat.zero_le, reduceCtorEq, true_or, or_true, false_or, or_false, false_and, and_false, false_implies, Nat.zero_add, Nat.add_zero, Int.reduceEq, Int.reduceNe, Int.reduceLT, Int.reduceLE, Int.reduceNeg, Int.reduceToNat, Nat.not_lt_zero, Int.reduceAdd, l0, l1, l2, ej]
        obtain ⟨j, rfl⟩ := Int.eq_ofNat_of_zero_le j1
        have P2 := (P.text (v := 1 + d) (by omega) (by have := K.1; omega)).double (v := 1 + e) (by omega) (by have := K.1; show 1 + e ≤ ((sN S : Nat) : Int); omega)
        have eL : L ++ [116, 101, 120, 116, 32] ++ dgL (1 + d) ++ [59, 100, 111, 117, 98, 108, 101, 32] ++ dgL (1 + e) ++ [59] = L ++ ([116, 101, 120, 116] ++ (32 :: dgL (1 + d) ++ [59])) ++ ([100, 111, 117, 98, 108, 101] ++ (32 :: dgL (1 + e) ++ [59])) := by simp
        rw [eL] at I9
        refine ⟨800 + j, by omega, _, _, mm, 0, fun _ => 0, j, rfl, by omega, rfl, I9, P2, K, by omega, by simp; omega, by omega, by omega⟩
      · (repeat refine ⟨by omega, ?_⟩)
        refine bN I (fun y v v1 v2 I2 => ?_)
        obtain ⟨d, ed, d1, d2⟩ := remv (k := 4) v1 v2 (by decide)
        simp only [wq_g3, wq_gc, wq_g, wq_g1, wq_g2, eL_score, iL_score_0, iL_score_70, iL_score_108, iL_score_114, iL_score_161, iL_score_220, iL_score_223, iL_score_248, iL_score_297, iL_score_308, iL_score_310, iL_score_329, iL_score_342, vL_score, wps, x_cnd, reduceIte, Nat.reduceAdd, Nat.reduceSub, Nat.reduceEqDiff, Nat.reduceLeDiff, Nat.lt_irrefl, Nat.reduceLT, Int.cast_ofNat_Int, wq_c0, wq_c1, true_and, and_true, and_self, true_implies, forall_const, ne_eq, Decidable.not_not, not_true_eq_false, not_false_eq_true, List.map_nil, List.map_cons, List.sum_nil, List.sum_cons, List.length_cons, List.length_nil, Nat.le_refl, Nat.zero_le, reduceCtorEq, true_or, or_true, false_or, or_false, false_and, and_false, false_implies, Nat.zero_add, Nat.add_zero, Int.reduceEq, Int.reduceNe, Int.reduceLT, Int.reduceLE, Int.reduceNeg, Int.reduceToNat, Nat.not_lt_zero, Int.reduceAdd, l0, l1, l2, l3, l4, I2.1.1.1, ed]
        simp (disch := omega) only [w32_of]
        have e1 : ((k' : Int) + 1) = ((k' + 1 : Nat) : Int) := by omega
        refine ⟨fun c1 => ?_, fun c1 => ?_⟩
        · refine ⟨1000 - (k' + 1), by omega, L, S, mm, 0, fun _ => 0, k' + 1, mk + (1 + d), rfl, by omega, rfl, by rw [e1], I2, P, K, by omega, fun q hq => by have := q2 q hq; omega, by omega, by omega, by omega, by omega, by omega⟩
        · (repeat refine ⟨by omega, ?_⟩)
          refine bS I2 (by decide) (by omega) (fun M3 h3 I3 => ?_)
          rw [s13] at I3
          simp only [wq_g3, wq_gc, wq_g, wq_g1, wq_g2, eL_score, iL_score_0, iL_score_70, iL_score_108, iL_score_114, iL_score_161, iL_score_220, iL_score_223, iL_score_248, iL_score_297, iL_score_308, iL_score_310, iL_score_329, iL_score_342, vL_score, wps, x_cnd, reduceIte, Nat.reduceAdd, Nat.reduceSub, Nat.reduceEqDiff, Nat.reduceLeDiff, Nat.lt_irrefl, Nat.reduceLT, Int.cast_ofNat_Int, wq_c0, wq_c1, true_and, and_true, and_self, true_implies, forall_const, ne_eq, Decidable.not_not, not_true_eq_false, not_false_eq_true, List.map_nil, List.map_cons, List.sum_nil, List.sum_cons, List.length_cons, List.length_nil, Nat.le_refl, Nat.zero_le, reduceCtorEq, true_or, or_true, false_or, or_false, false_and, and_false, false_implies, Nat.zero_add, Nat.add_zero, Int.reduceEq, Int.reduceNe, Int.reduceLT, Int.reduceLE, Int.reduceNeg, Int.reduceToNat, Nat.not_lt_zero, Int.reduceAdd, l0, l1, l2, l3, l4, I3.1.1.1]
          have dl1 := dg_len (v := mk + (1 + d))
          (repeat refine ⟨by omega, ?_⟩)
          refine bI I3 (by omega) (by simp; omega) (fun M4 h4 I4 => ?_)
          simp only [wq_g3, wq_gc, wq_g, wq_g1, wq_g2, eL_score, iL_score_0, iL_score_70, iL_score_108, iL_score_114, iL_score_161, iL_score_220, iL_score_223, iL_score_248, iL_score_297, iL_score_308, iL_score_310, iL_score_329, iL_score_342, vL_score, wps, x_cnd, reduceIte, Nat.reduceAdd, Nat.reduceSub, Nat.reduceEqDiff, Nat.reduceLeDiff, Nat.lt_irrefl, Nat.reduceLT, Int.cast_ofNat_Int, wq_c0, wq_c1, true_and, and_true, and_self, true_implies, forall_const, ne_eq, Decidable.not_not, not_true_eq_false, not_false_eq_true, List.map_nil, List.map_cons, List.sum_nil, List.sum_cons, List.length_cons, List.length_nil, Nat.le_refl, Nat.zero_le, reduceCtorEq, true_or, or_true, false_or, or_false, false_and, and_false, false_implies, Nat.zero_add, Nat.add_zero, Int.reduceEq, Int.reduceNe, Int.reduceLT, Int.reduceLE, Int.reduceNeg, Int.reduceToNat, Nat.not_lt_zero, Int.reduceAdd, l0, l1, l2, l3, l4, I4.1.1.1]
          (repeat refine ⟨by omega, ?_⟩)
          refine bC I4 (by decide) (by simp; omega) (fun M5 h5 I5 => ?_)
          simp only [wq_g3, wq_gc, wq_g, wq_g1, wq_g2, eL_score, iL_score_0, iL_score_70, iL_score_108, iL_score_114, iL_score_161, iL_score_220, iL_score_223, iL_score_248, iL_score_297, iL_score_308, iL_score_310, iL_score_329, iL_score_342, vL_score, wps, x_cnd, reduceIte, Nat.reduceAdd, Nat.reduceSub, Nat.reduceEqDiff, Nat.reduceLeDiff, Nat.lt_irrefl, Nat.reduceLT, Int.cast_ofNat_Int, wq_c0, wq_c1, true_and, and_true, and_self, true_implies, forall_const, ne_eq, Decidable.not_not, not_true_eq_false, not_false_eq_true, List.map_nil, List.map_cons, List.sum_nil, List.sum_cons, List.length_cons, List.length_nil, Nat.le_refl, Nat.zero_le, reduceCtorEq, true_or, or_true, false_or, or_false, false_and, and_false, false_implies, Nat.zero_add, Nat.add_zero, Int.reduceEq, Int.reduceNe, Int.reduceLT, Int.reduceLE, Int.reduceNeg, Int.reduceToNat, Nat.not_lt_zero, Int.reduceAdd, l0, l1, l2, l3, l4]
          simp (disch := omega) only [w32_of]
          have P2 := P.mark (v := mk + (1 + d)) (by omega) (by have := K.1; omega) (by omega) (fun q hq => by have := q2 q hq; omega)
          have eL : L ++ [109, 97, 114, 107, 32] ++ dgL (mk + (1 + d)) ++ [59] = L ++ ([109, 97, 114, 107] ++ (32 :: dgL (mk + (1 + d)) ++ [59])) := by simp
          rw [eL] at I5
          refine ⟨1000 - (k' + 1), by omega, _, _, mm + 1, 0, fun _ => 0, k' + 1, mk + (1 + d), rfl, by omega, rfl, by rw [e1], I5, P2, K, by omega, fun q hq => ?_, by omega, by omega, by simp; omega, by omega, by omega⟩
          show up ((mm + 1 : Nat) : Int) (mk + (1 + d) - 1) (sM S) ((q : Int) + 1) + 1 ≤ _
          unfold up
          split
          · omega
          · have := q2 q (by omega)
            omega
    · have kb := I.1.1.1
      simp only [wq_g3, wq_gc, wq_g, wq_g1, wq_g2, eL_score, iL_score_0, iL_score_70, iL_score_108, iL_score_114, iL_score_161, iL_score_220, iL_score_223, iL_score_248, iL_score_297, iL_score_308, iL_score_310, iL_score_329, iL_score_342, vL_score, wps, x_cnd, reduceIte, Nat.reduceAdd, Nat.reduceSub, Nat.reduceEqDiff, Nat.reduceLeDiff, Nat.lt_irrefl, Nat.reduceLT, Int.cast_ofNat_Int, wq_c0, wq_c1, true_and, and_true, and_self, true_implies, forall_const, ne_eq, Decidable.not_not, not_true_eq_false, not_false_eq_true, List.map_nil, List.map_cons, List.sum_nil, List.sum_cons, List.length_cons, List.length_nil, Nat.le_refl, Nat.zero_le, reduceCtorEq, true_or, or_true, false_or, or_false, false_and, and_false, false_implies, Nat.zero_add, Nat.add_zero, Int.reduceEq, Int.reduceNe, Int.reduceLT, Int.reduceLE, Int.reduceNeg, Int.reduceToNat, Nat.not_lt_zero, Int.reduceAdd, l0, l1, l2, l4, kb]
      refine ⟨fun c0 => ?_, fun c0 => ?_⟩
      · refine ⟨100 * (3 - 0) + 50, by omega, L, S, mm, cc, fun _ => 0, 0, rfl, by omega, rfl, I, P, K, fun q hq => absurd hq (by omega), by omega, by omega, by omega⟩
      · (repeat refine ⟨by omega, ?_⟩)
        refine bN I (fun y v v1 v2 I2 => ?_)
        obtain ⟨d, ed, d1, d2⟩ := remv (k := bars) v1 v2 (by omega)
        simp only [wq_g3, wq_gc, wq_g, wq_g1, wq_g2, eL_score, iL_score_0, iL_score_70, iL_score_108, iL_score_114, iL_score_161, iL_score_220, iL_score_223, iL_score_248, iL_score_297, iL_score_308, iL_score_310, iL_score_329, iL_score_342, vL_score, wps, x_cnd, reduceIte, Nat.reduceAdd, Nat.reduceSub, Nat.reduceEqDiff, Nat.reduceLeDiff, Nat.lt_irrefl, Nat.reduceLT, Int.cast_ofNat_Int, wq_c0, wq_c1, true_and, and_true, and_self, true_implies, forall_const, ne_eq, Decidable.not_not, not_true_eq_false, not_false_eq_true, List.map_nil, List.map_cons, List.sum_nil, List.sum_cons, List.length_cons, List.length_nil, Nat.le_refl, Nat.zero_le, reduceCtorEq, true_or, or_true, false_or, or_false, false_and, and_false, false_implies, Nat.zero_add, Nat.add_zero, Int.reduceEq, Int.reduceNe, Int.reduceLT, Int.reduceLE, Int.reduceNeg, Int.reduceToNat, Nat.not_lt_zero, Int.reduceAdd, l0, l1, l2, l4, I2.1.1.1, ed, hb0]
        simp (disch := omega) only [w32_of]
        (repeat refine ⟨by omega, ?_⟩)
        refine bS I2 (by decide) (by omega) (fun M3 h3 I3 => ?_)
        rw [s16] at I3
        simp only [wq_g3, wq_gc, wq_g, wq_g1, wq_g2, eL_score, iL_score_0, iL_score_70, iL_score_108, iL_score_114, iL_score_161, iL_score_220, iL_score_223, iL_score_248, iL_score_297, iL_score_308, iL_score_310, iL_score_329, iL_score_342, vL_score, wps, x_cnd, reduceIte, Nat.reduceAdd, Nat.reduceSub, Nat.reduceEqDiff, Nat.reduceLeDiff, Nat.lt_irrefl, Nat.reduceLT, Int.cast_ofNat_Int, wq_c0, wq_c1, true_and, and_true, and_self, true_implies, forall_const, ne_eq, Decidable.not_not, not_true_eq_false, not_false_eq_true, List.map_nil, List.map_cons, List.sum_nil, List.sum_cons, List.length_cons, List.length_nil, Nat.le_refl, Nat.zero_le, reduceCtorEq, true_or, or_true, false_or, or_false, false_and, and_false, false_implies, Nat.zero_add, Nat.add_zero, Int.reduceEq, Int.reduceNe, Int.reduceLT, Int.reduceLE, Int.reduceNeg, Int.reduceToNat, Nat.not_lt_zero, Int.reduceAdd, l0, l1, l2, l4, I3.1.1.1]
        have dl1 := dg_len (v := 1 + d)
        (repeat refine ⟨by omega, ?_⟩)
        refine bI I3 (by omega) (by simp; omega) (fun M4 h4 I4 => ?_)
        simp only [wq_g3, wq_gc, wq_g, wq_g1, wq_g2, eL_score, iL_score_0, iL_score_70, iL_score_108, iL_score_114, iL_score_161, iL_score_220, iL_score_223, iL_score_248, iL_score_297, iL_score_308, iL_score_310, iL_score_329, iL_score_342, vL_score, wps, x_cnd, reduceIte, Nat.reduceAdd, Nat.reduceSub, Nat.reduceEqDiff, Nat.reduceLeDiff, Nat.lt_irrefl, Nat.reduceLT, Int.cast_ofNat_Int, wq_c0, wq_c1, true_and, and_true, and_self, true_implies, forall_const, ne_eq, Decidable.not_not, not_true_eq_false, not_false_eq_true, List.map_nil, List.map_cons, List.sum_nil, List.sum_cons, List.length_cons, List.length_nil, Nat.le_refl, Nat.zero_le, reduceCtorEq, true_or, or_true, false_or, or_false, false_and, and_false, false_implies, Nat.zero_add, Nat.add_zero, Int.reduceEq, Int.reduceNe, Int.reduceLT, Int.reduceLE, Int.reduceNeg, Int.reduceToNat, Nat.not_lt_zero, Int.reduceAdd, l0, l1, l2, l4, I4.1.1.1]
        (repeat refine ⟨by omega, ?_⟩)
        refine bC I4 (by decide) (by simp; omega) (fun M5 h5 I5 => ?_)
        simp only [wq_g3, wq_gc, wq_g, wq_g1, wq_g2, eL_score, iL_score_0, iL_score_70, iL_score_108, iL_score_114, iL_score_161, iL_score_220, iL_score_223, iL_score_248, iL_score_297, iL_score_308, iL_score_310, iL_score_329, iL_score_342, vL_score, wps, x_cnd, reduceIte, Nat.reduceAdd, Nat.reduceSub, Nat.reduceEqDiff, Nat.reduceLeDiff, Nat.lt_irrefl, Nat.reduceLT, Int.cast_ofNat_Int, wq_c0, wq_c1, true_and, and_true, and_self, true_implies, forall_const, ne_eq, Decidable.not_not, not_true_eq_false, not_false_eq_true, List.map_nil, List.map_cons, List.sum_nil, List.sum_cons, List.length_cons, List.length_nil, Nat.le_refl, Nat.zero_le, reduceCtorEq, true_or, or_true, false_or, or_false, false_and, and_false, false_implies, Nat.zero_add, Nat.add_zero, Int.reduceEq, Int.reduceNe, Int.reduceLT, Int.reduceLE, Int.reduceNeg, Int.reduceToNat, Nat.not_lt_zero, Int.reduceAdd, l0, l1, l2, l4, I5.1.1.1]
        (repeat refine ⟨by omega, ?_⟩)
        refine bN I5 (fun y2 v' v3 v4 I6 => ?_)
        obtain ⟨e, ee, e1, e2⟩ := remv (k := 4) v3 v4 (by decide)
        simp only [wq_g3, wq_gc, wq_g, wq_g1, wq_g2, eL_score, iL_score_0, iL_score_70, iL_score_108, iL_score_114, iL_score_161, iL_score_220, iL_score_223, iL_score_248, iL_score_297, iL_score_308, iL_score_310, iL_score_329, iL_score_342, vL_score, wps, x_cnd, reduceIte, Nat.reduceAdd, Nat.reduceSub, Nat.reduceEqDiff, Nat.reduceLeDiff, Nat.lt_irrefl, Nat.reduceLT, Int.cast_ofNat_Int, wq_c0, wq_c1, true_and, and_true, and_self, true_implies, forall_const, ne_eq, Decidable.not_not, not_true_eq_false, not_false_eq_true, List.map_nil, List.map_cons, List.sum_nil, List.sum_cons, List.length_cons, List.length_nil, Nat.le_refl, Nat.zero_le, reduceCtorEq, true_or, or_true, false_or, or_false, false_and, and_false, false_implies, Nat.zero_add, Nat.add_zero, Int.reduceEq, Int.reduceNe, Int.reduceLT, Int.reduceLE, Int.reduceNeg, Int.reduceToNat, Nat.not_lt_zero, Int.reduceAdd, l0, l1, l2, l4, I6.1.1.1, ee]
        simp (disch := omega) only [w32_of]
        have dl2 := dg_len (v := min bars (1 + d + e))
        (repeat refine ⟨by omega, ?_⟩)
        refine bI I6 (by omega) (by simp; omega) (fun M7 h7 I7 => ?_)
        simp only [wq_g3, wq_gc, wq_g, wq_g1, wq_g2, eL_score, iL_score_0, iL_score_70, iL_score_108, iL_score_114, iL_score_161, iL_score_220, iL_score_223, iL_score_248, iL_score_297, iL_score_308, iL_score_310, iL_score_329, iL_score_342, vL_score, wps, x_cnd, reduceIte, Nat.reduceAdd, Nat.reduceSub, Nat.reduceEqDiff, Nat.reduceLeDiff, Nat.lt_irrefl, Nat.reduceLT, Int.cast_ofNat_Int, wq_c0, wq_c1, true_and, and_true, and_self, true_implies, forall_const, ne_eq, Decidable.not_not, not_true_eq_false, not_false_eq_true, List.map_nil, List.map_cons, List.sum_nil, List.sum_cons, List.length_cons, List.length_nil, Nat.le_refl, Nat.zero_le, reduceCtorEq, true_or, or_true, false_or, or_false, false_and, and_false, false_implies, Nat.zero_add, Nat.add_zero, Int.reduceEq, Int.reduceNe, Int.reduceLT, Int.reduceLE, Int.reduceNeg, Int.reduceToNat, Nat.not_lt_zero, Int.reduceAdd, l0, l1, l2, l4, I7.1.1.1]
        (repeat refine ⟨by omega, ?_⟩)
        refine bC I7 (by decide) (by simp; omega) (fun M8 h8 I8 => ?_)
        simp only [wq_g3, wq_gc, wq_g, wq_g1, wq_g2, eL_score, iL_score_0, iL_score_70, iL_score_108, iL_score_114, iL_score_161, iL_score_220, iL_score_223, iL_score_248, iL_score_297, iL_score_308, iL_score_310, iL_score_329, iL_score_342, vL_score, wps, x_cnd, reduceIte, Nat.reduceAdd, Nat.reduceSub, Nat.reduceEqDiff, Nat.reduceLeDiff, Nat.lt_irrefl, Nat.reduceLT, Int.cast_ofNat_Int, wq_c0, wq_c1, true_and, and_true, and_self, true_implies, forall_const, ne_eq, Decidable.not_not, not_true_eq_false, not_false_eq_true, List.map_nil, List.map_cons, List.sum_nil, List.sum_cons, List.length_cons, List.length_nil, Nat.le_refl, Nat.zero_le, reduceCtorEq, true_or, or_true, false_or, or_false, false_and, and_false, false_implies, Nat.zero_add, Nat.add_zero, Int.reduceEq, Int.reduceNe, Int.reduceLT, Int.reduceLE, Int.reduceNeg, Int.reduceToNat, Nat.not_lt_zero, Int.reduceAdd, l0, l1, l2, l4]
        simp (disch := omega) only [w32_of]
        have P2 := P.cut (v := 1 + d) (b := min bars (1 + d + e)) (by omega) (by omega) (by have := K.1; omega) (by omega)
        have eL : L ++ [99, 117, 116, 32] ++ dgL (1 + d) ++ [32] ++ dgL (min bars (1 + d + e)) ++ [59] = L ++ ([99, 117, 116] ++ (32 :: dgL (1 + d) ++ (32 :: dgL (min bars (1 + d + e)) ++ [59]))) := by simp
        rw [eL] at I8
        obtain ⟨j, rfl⟩ : ∃ j0 : Nat, j = j0 + 1 := ⟨j - 1, by omega⟩
        refine ⟨800 + j, by omega, _, _, mm, cc + 1, fun _ => 0, j, rfl, by omega, ?_, I8, P2, K, by omega, by simp; omega, by omega, by omega⟩
        congr 2
        omega
    · have kb := I.1.1.1
      simp only [wq_g3, wq_gc, wq_g, wq_g1, wq_g2, eL_score, iL_score_0, iL_score_70, iL_score_108, iL_score_114, iL_score_161, iL_score_220, iL_score_223, iL_score_248, iL_score_297, iL_score_308, iL_score_310, iL_score_329, iL_score_342, vL_score, wps, x_cnd, reduceIte, Nat.reduceAdd, Nat.reduceSub, Nat.reduceEqDiff, Nat.reduceLeDiff, Nat.lt_irrefl, Nat.reduceLT, Int.cast_ofNat_Int, wq_c0, wq_c1, true_and, and_true, and_self, true_implies, forall_const, ne_eq, Decidable.not_not, not_true_eq_false, not_false_eq_true, List.map_nil, List.map_cons, List.sum_nil, List.sum_cons, List.length_cons, List.length_nil, Nat.le_refl, Nat.zero_le, reduceCtorEq, true_or, or_true, false_or, or_false, false_and, and_false, false_implies, Nat.zero_add, Nat.add_zero, Int.reduceEq, Int.reduceNe, Int.reduceLT, Int.reduceLE, Int.reduceNeg, Int.reduceToNat, Nat.not_lt_zero, Int.reduceAdd, l0, l1, l2, l4, kb]
      refine ⟨fun c0 => ?_, fun c0 => ?_⟩
      · have hp3 : p = 3 := by omega
        subst hp3
        (repeat refine ⟨by omega, ?_⟩)
        refine cQ_toString I.1 (by omega) (fun M2 h2 T f g => ?_)
        simp only [wq_g3, wq_gc, wq_g, wq_g1, wq_g2, eL_score, iL_score_0, iL_score_70, iL_score_108, iL_score_114, iL_score_161, iL_score_220, iL_score_223, iL_score_248, iL_score_297, iL_score_308, iL_score_310, iL_score_329, iL_score_342, vL_score, wps, x_cnd, reduceIte, Nat.reduceAdd, Nat.reduceSub, Nat.reduceEqDiff, Nat.reduceLeDiff, Nat.lt_irrefl, Nat.reduceLT, Int.cast_ofNat_Int, wq_c0, wq_c1, true_and, and_true, and_self, true_implies, forall_const, ne_eq, Decidable.not_not, not_true_eq_false, not_false_eq_true, List.map_nil, List.map_cons, List.sum_nil, List.sum_cons, List.length_cons, List.length_nil, Nat.le_refl, Nat.zero_le, reduceCtorEq, true_or, or_true, false_or, or_false, false_and, and_false, false_implies, Nat.zero_add, Nat.add_zero, Int.reduceEq, Int.reduceNe, Int.reduceLT, Int.reduceLE, Int.reduceNeg, Int.reduceToNat, Nat.not_lt_zero, Int.reduceAdd, T.1.1, wrc]
        have G := I.2.1
        refine k M2 h2 (hn h') L S mm cc N T G.1 (by have := G.1; omega) (by omega) P K ⟨by have := G.1; have := f.1; omega, fun a ha => ?_⟩
        obtain ⟨a1, a2, a3, a4⟩ := G.2 a ha
        obtain ⟨b1, b2, b3, b4⟩ := f.2 a (by have := G.1; omega)
        exact ⟨fun h41 j => (b1 j).trans (a1 h41 j), b2.trans a2, b3.trans a3, fun j => (b4 j).trans (a4 j)⟩
      · (repeat refine ⟨by omega, ?_⟩)
        refine bS I (by decide) (by omega) (fun M3 h3 I3 => ?_)
        rw [s17] at I3
        simp only [wq_g3, wq_gc, wq_g, wq_g1, wq_g2, eL_score, iL_score_0, iL_score_70, iL_score_108, iL_score_114, iL_score_161, iL_score_220, iL_score_223, iL_score_248, iL_score_297, iL_score_308, iL_score_310, iL_score_329, iL_score_342, vL_score, wps, x_cnd, reduceIte, Nat.reduceAdd, Nat.reduceSub, Nat.reduceEqDiff, Nat.reduceLeDiff, Nat.lt_irrefl, Nat.reduceLT, Int.cast_ofNat_Int, wq_c0, wq_c1, true_and, and_true, and_self, true_implies, forall_const, ne_eq, Decidable.not_not, not_true_eq_false, not_false_eq_true, List.map_nil, List.map_cons, List.sum_nil, List.sum_cons, List.length_cons, List.length_nil, Nat.le_refl, Nat.zero_le, reduceCtorEq, true_or, or_true, false_or, or_false, false_and, and_false, false_implies, Nat.zero_add, Nat.add_zero, Int.reduceEq, Int.reduceNe, Int.reduceLT, Int.reduceLE, Int.reduceNeg, Int.reduceToNat, Nat.not_lt_zero, Int.reduceAdd, l0, l1, l2, l4, I3.1.1.1]
        simp (disch := omega) only [w32_of]
        rw [show ((97 + (p : Int)) % 65536) = 97 + p by omega]
        (repeat refine ⟨by omega, ?_⟩)
        refine bC I3 (by omega) (by simp; omega) (fun M4 h4 I4 => ?_)
        simp only [wq_g3, wq_gc, wq_g, wq_g1, wq_g2, eL_score, iL_score_0, iL_score_70, iL_score_108, iL_score_114, iL_score_161, iL_score_220, iL_score_223, iL_score_248, iL_score_297, iL_score_308, iL_score_310, iL_score_329, iL_score_342, vL_score, wps, x_cnd, reduceIte, Nat.reduceAdd, Nat.reduceSub, Nat.reduceEqDiff, Nat.reduceLeDiff, Nat.lt_irrefl, Nat.reduceLT, Int.cast_ofNat_Int, wq_c0, wq_c1, true_and, and_true, and_self, true_implies, forall_const, ne_eq, Decidable.not_not, not_true_eq_false, not_false_eq_true, List.map_nil, List.map_cons, List.sum_nil, List.sum_cons, List.length_cons, List.length_nil, Nat.le_refl, Nat.zero_le, reduceCtorEq, true_or, or_true, false_or, or_false, false_and, and_false, false_implies, Nat.zero_add, Nat.add_zero, Int.reduceEq, Int.reduceNe, Int.reduceLT, Int.reduceLE, Int.reduceNeg, Int.reduceToNat, Nat.not_lt_zero, Int.reduceAdd, l0, l1, l2, l4]
        have eL : L ++ [112, 97, 114, 116, 32] ++ [97 + (p : Int)] = L ++ ([112, 97, 114, 116] ++ [32, 97 + (p : Int)]) := by simp
        rw [eL] at I4
        have P2 := P.part (a := 97 + (p : Int)) (by omega) (by have := K.2.2.1; omega) (fun q hq => by have := q1 q (by have := K.2.2.1; omega); have := K.2.2.1; omega)
        refine ⟨100 * (3 - p) + bars.toNat, by omega, L, S, mm, cc, N, p, 0, _, S, _, by omega, by omega, by omega, rfl, ?_, I4, P2, K, fun q hq => ?_, by omega, by simp, by omega, by omega⟩
        · congr 2
          omega
        · have := K.2.2.1
          show up ((sP S : Nat) : Int) (97 + (p : Int) - 96) N q = _
          unfold up
          split
          · omega
          · exact q1 q (by omega)
    · have kb := I.1.1.1
      simp only [wq_g3, wq_gc, wq_g, wq_g1, wq_g2, eL_score, iL_score_0, iL_score_70, iL_score_108, iL_score_114, iL_score_161, iL_score_220, iL_score_223, iL_score_248, iL_score_297, iL_score_308, iL_score_310, iL_score_329, iL_score_342, vL_score, wps, x_cnd, reduceIte, Nat.reduceAdd, Nat.reduceSub, Nat.reduceEqDiff, Nat.reduceLeDiff, Nat.lt_irrefl, Nat.reduceLT, Int.cast_ofNat_Int, wq_c0, wq_c1, true_and, and_true, and_self, true_implies, forall_const, ne_eq, Decidable.not_not, not_true_eq_false, not_false_eq_true, List.map_nil, List.map_cons, List.sum_nil, List.sum_cons, List.length_cons, List.length_nil, Nat.le_refl, Nat.zero_le, reduceCtorEq, true_or, or_true, false_or, or_false, false_and, and_false, false_implies, Nat.zero_add, Nat.add_zero, Int.reduceEq, Int.reduceNe, Int.reduceLT, Int.reduceLE, Int.reduceNeg, Int.reduceToNat, Nat.not_lt_zero, Int.reduceAdd, l0, l1, l2, l4, l5, kb]
      refine ⟨fun c0 => ?_, fun c0 => ?_⟩
      · (repeat refine ⟨by omega, ?_⟩)
        refine bC I (by decide) (by simp; omega) (fun M3 h3 I3 => ?_)
        simp only [wq_g3, wq_gc, wq_g, wq_g1, wq_g2, eL_score, iL_score_0, iL_score_70, iL_score_108, iL_score_114, iL_score_161, iL_score_220, iL_score_223, iL_score_248, iL_score_297, iL_score_308, iL_score_310, iL_score_329, iL_score_342, vL_score, wps, x_cnd, reduceIte, Nat.reduceAdd, Nat.reduceSub, Nat.reduceEqDiff, Nat.reduceLeDiff, Nat.lt_irrefl, Nat.reduceLT, Int.cast_ofNat_Int, wq_c0, wq_c1, true_and, and_true, and_self, true_implies, forall_const, ne_eq, Decidable.not_not, not_true_eq_false, not_false_eq_true, List.map_nil, List.map_cons, List.sum_nil, List.sum_cons, List.length_cons, List.length_nil, Nat.le_refl, Nat.zero_le, reduceCtorEq, true_or, or_true, false_or, or_false, false_and, and_false, false_implies, Nat.zero_add, Nat.add_zero, Int.reduceEq, Int.reduceNe, Int.reduceLT, Int.reduceLE, Int.reduceNeg, Int.reduceToNat, Nat.not_lt_zero, Int.reduceAdd, l0, l1, l2, l4, l5]
        simp (disch := omega) only [w32_of]
        have P2 := P.fin
        have eL : L ++ K0 ++ [59] = L ++ (K0 ++ [59]) := by simp
        rw [eL] at I3
        refine ⟨100 * (3 - (p + 1)) + 50, by omega, _, _, mm, cc, N', p + 1, rfl, by omega, ?_, I3, P2, ⟨K.1, K.2.1, by show sP S' + 1 = _; have := K.2.2.1; omega, K.2.2.2⟩, q1, by simp; omega, by omega, by omega⟩
        congr 2
      · (repeat refine ⟨by omega, ?_⟩)
        refine bN I (fun y v v1 v2 I2 => ?_)
        obtain ⟨d, ed, d1, d2⟩ := remv (k := 6) v1 v2 (by omega)
        simp only [wq_g3, wq_gc, wq_g, wq_g1, wq_g2, eL_score, iL_score_0, iL_score_70, iL_score_108, iL_score_114, iL_score_161, iL_score_220, iL_score_223, iL_score_248, iL_score_297, iL_score_308, iL_score_310, iL_score_329, iL_score_342, vL_score, wps, x_cnd, reduceIte, Nat.reduceAdd, Nat.reduceSub, Nat.reduceEqDiff, Nat.reduceLeDiff, Nat.lt_irrefl, Nat.reduceLT, Int.cast_ofNat_Int, wq_c0, wq_c1, true_and, and_true, and_self, true_implies, forall_const, ne_eq, Decidable.not_not, not_true_eq_false, not_false_eq_true, List.map_nil, List.map_cons, List.sum_nil, List.sum_cons, List.length_cons, List.length_nil, Nat.le_refl, Nat.zero_le, reduceCtorEq, true_or, or_true, false_or, or_false, false_and, and_false, false_implies, Nat.zero_add, Nat.add_zero, Int.reduceEq, Int.reduceNe, Int.reduceLT, Int.reduceLE, Int.reduceNeg, Int.reduceToNat, Nat.not_lt_zero, Int.reduceAdd, l0, l1, l2, l4, l5, I2.1.1.1, ed]
        refine ⟨fun c1 => ?_, fun c1 => ?_⟩
        · (repeat refine ⟨by omega, ?_⟩)
          refine bC I2 (by decide) (by simp; omega) (fun M3 h3 I3 => ?_)
          simp only [wq_g3, wq_gc, wq_g, wq_g1, wq_g2, eL_score, iL_score_0, iL_score_70, iL_score_108, iL_score_114, iL_score_161, iL_score_220, iL_score_223, iL_score_248, iL_score_297, iL_score_308, iL_score_310, iL_score_329, iL_score_342, vL_score, wps, x_cnd, reduceIte, Nat.reduceAdd, Nat.reduceSub, Nat.reduceEqDiff, Nat.reduceLeDiff, Nat.lt_irrefl, Nat.reduceLT, Int.cast_ofNat_Int, wq_c0, wq_c1, true_and, and_true, and_self, true_implies, forall_const, ne_eq, Decidable.not_not, not_true_eq_false, not_false_eq_true, List.map_nil, List.map_cons, List.sum_nil, List.sum_cons, List.length_cons, List.length_nil, Nat.le_refl, Nat.zero_le, reduceCtorEq, true_or, or_true, false_or, or_false, false_and, and_false, false_implies, Nat.zero_add, Nat.add_zero, Int.reduceEq, Int.reduceNe, Int.reduceLT, Int.reduceLE, Int.reduceNeg, Int.reduceToNat, Nat.not_lt_zero, Int.reduceAdd, l0, l1, l2, l4, l5]
          simp (disch := omega) only [w32_of]
          have P2 := P.fin
          have eL : L ++ K0 ++ [59] = L ++ (K0 ++ [59]) := by simp
          rw [eL] at I3
          refine ⟨100 * (3 - (p + 1)) + 50, by omega, _, _, mm, cc, N', p + 1, rfl, by omega, ?_, I3, P2, ⟨K.1, K.2.1, by show sP S' + 1 = _; have := K.2.2.1; omega, K.2.2.2⟩, q1, by simp; omega, by omega, by omega⟩
          congr 2
        · (repeat refine ⟨by omega, ?_⟩)
          refine bN I2 (fun y2 v' v3 v4 I3 => ?_)
          obtain ⟨e, ee, e1, e2⟩ := remv (k := 5) v3 v4 (by decide)
          simp only [wq_g3, wq_gc, wq_g, wq_g1, wq_g2, eL_score, iL_score_0, iL_score_70, iL_score_108, iL_score_114, iL_score_161, iL_score_220, iL_score_223, iL_score_248, iL_score_297, iL_score_308, iL_score_310, iL_score_329, iL_score_342, vL_score, wps, x_cnd, reduceIte, Nat.reduceAdd, Nat.reduceSub, Nat.reduceEqDiff, Nat.reduceLeDiff, Nat.lt_irrefl, Nat.reduceLT, Int.cast_ofNat_Int, wq_c0, wq_c1, true_and, and_true, and_self, true_implies, forall_const, ne_eq, Decidable.not_not, not_true_eq_false, not_false_eq_true, List.map_nil, List.map_cons, List.sum_nil, List.sum_cons, List.length_cons, List.length_nil, Nat.le_refl, Nat.zero_le, reduceCtorEq, true_or, or_true, false_or, or_false, false_and, and_false, false_implies, Nat.zero_add, Nat.add_zero, Int.reduceEq, Int.reduceNe, Int.reduceLT, Int.reduceLE, Int.reduceNeg, Int.reduceToNat, Nat.not_lt_zero, Int.reduceAdd, l0, l1, l2, l4, l5, I3.1.1.1, ee]
          simp (disch := omega) only [w32_of]
          obtain ⟨ct, hct⟩ : ∃ ct : Nat, min (bars - (told : Int)) (1 + e) = ct := ⟨(min (bars - (told : Int)) (1 + e)).toNat, by omega⟩
          have ct1 : 1 ≤ ct ∧ ct ≤ 5 ∧ (told : Int) + ct ≤ bars := by omega
          rw [hct]
          (repeat refine ⟨by omega, ?_⟩)
          refine bN I3 (fun y3 v'' v5 v6 I4 => ?_)
          obtain ⟨g, eg, g1, g2⟩ := remv (k := 4) v5 v6 (by decide)
          simp only [wq_g3, wq_gc, wq_g, wq_g1, wq_g2, eL_score, iL_score_0, iL_score_70, iL_score_108, iL_score_114, iL_score_161, iL_score_220, iL_score_223, iL_score_248, iL_score_297, iL_score_308, iL_score_310, iL_score_329, iL_score_342, vL_score, wps, x_cnd, reduceIte, Nat.reduceAdd, Nat.reduceSub, Nat.reduceEqDiff, Nat.reduceLeDiff, Nat.lt_irrefl, Nat.reduceLT, Int.cast_ofNat_Int, wq_c0, wq_c1, true_and, and_true, and_self, true_implies, forall_const, ne_eq, Decidable.not_not, not_true_eq_false, not_false_eq_true, List.map_nil, List.map_cons, List.sum_nil, List.sum_cons, List.length_cons, List.length_nil, Nat.le_refl, Nat.zero_le, reduceCtorEq, true_or, or_true, false_or, or_false, false_and, and_false, false_implies, Nat.zero_add, Nat.add_zero, Int.reduceEq, Int.reduceNe, Int.reduceLT, Int.reduceLE, Int.reduceNeg, Int.reduceToNat, Nat.not_lt_zero, Int.reduceAdd, l0, l1, l2, l4, l5, I4.1.1.1, eg]
          refine ⟨fun c2 => ⟨fun c3 => ?_, fun c3 => ?_⟩, fun c2 => ?_⟩
          · (repeat refine ⟨by omega, ?_⟩)
            refine bS I4 (by decide) (by simp; omega) (fun M5 h5 I5 => ?_)
            rw [s20] at I5
            simp only [wq_g3, wq_gc, wq_g, wq_g1, wq_g2, eL_score, iL_score_0, iL_score_70, iL_score_108, iL_score_114, iL_score_161, iL_score_220, iL_score_223, iL_score_248, iL_score_297, iL_score_308, iL_score_310, iL_score_329, iL_score_342, vL_score, wps, x_cnd, reduceIte, Nat.reduceAdd, Nat.reduceSub, Nat.reduceEqDiff, Nat.reduceLeDiff, Nat.lt_irrefl, Nat.reduceLT, Int.cast_ofNat_Int, wq_c0, wq_c1, true_and, and_true, and_self, true_implies, forall_const, ne_eq, Decidable.not_not, not_true_eq_false, not_false_eq_true, List.map_nil, List.map_cons, List.sum_nil, List.sum_cons, List.length_cons, List.length_nil, Nat.le_refl, Nat.zero_le, reduceCtorEq, true_or, or_true, false_or, or_false, false_and, and_false, false_implies, Nat.zero_add, Nat.add_zero, Int.reduceEq, Int.reduceNe, Int.reduceLT, Int.reduceLE, Int.reduceNeg, Int.reduceToNat, Nat.not_lt_zero, Int.reduceAdd, l0, l1, l2, l4, l5, I5.1.1.1]
            (repeat refine ⟨by omega, ?_⟩)
            refine bI I5 (by omega) (by simp; omega) (fun M6 h6 I6 => ?_)
            simp only [wq_g3, wq_gc, wq_g, wq_g1, wq_g2, eL_score, iL_score_0, iL_score_70, iL_score_108, iL_score_114, iL_score_161, iL_score_220, iL_score_223, iL_score_248, iL_score_297, iL_score_308, iL_score_310, iL_score_329, iL_score_342, vL_score, wps, x_cnd, reduceIte, Nat.reduceAdd, Nat.reduceSub, Nat.reduceEqDiff, Nat.reduceLeDiff, Nat.lt_irrefl, Nat.reduceLT, Int.cast_ofNat_Int, wq_c0, wq_c1, true_and, and_true, and_self, true_implies, forall_const, ne_eq, Decidable.not_not, not_true_eq_false, not_false_eq_true, List.map_nil, List.map_cons, List.sum_nil, List.sum_cons, List.length_cons, List.length_nil, Nat.le_refl, Nat.zero_le, reduceCtorEq, true_or, or_true, false_or, or_false, false_and, and_false, false_implies, Nat.zero_add, Nat.add_zero, Int.reduceEq, Int.reduceNe, Int.reduceLT, Int.reduceLE, Int.reduceNeg, Int.reduceToNat, Nat.not_lt_zero, Int.reduceAdd, l0, l1, l2, l4, l5]
            have P2 := P.group (W := [114, 101, 115, 116]) (v := ct) (w := 0) (by decide) (by decide) (by decide) (by decide) (by omega) (by have := K.1; omega)
            have eL : L ++ K0 ++ (32 :: ([114, 101, 115, 116] ++ [32])) ++ dgL ct = L ++ (K0 ++ (32 :: [114, 101, 115, 116] ++ (32 :: dgL ct))) := by simp
            have eL2 : ([32, 114, 101, 115, 116, 32] : List Int) = 32 :: ([114, 101, 115, 116] ++ [32]) := rfl
            rw [eL2, eL] at I6
            have dl : (dgL ct).length = 1 := by rw [dgL_len, if_pos (by omega)]
            have e9 : (told : Int) + ct = ((told + ct : Nat) : Int) := by omega
            rw [e9] at P2
            refine ⟨100 * (3 - p) + bars.toNat - (told + ct), by omega, L, S, mm, cc, N, p, told + ct, _, _, N', by omega, by omega, p2, rfl, ?_, I6, P2, K, q1, by omega, by simp; omega, by omega, by omega⟩
            simp (disch := omega) only [w32_of]
            congr 2
            omega
          · (repeat refine ⟨by omega, ?_⟩)
            refine bS I4 (by decide) (by simp; omega) (fun M5 h5 I5 => ?_)
            rw [s19] at I5
            simp only [wq_g3, wq_gc, wq_g, wq_g1, wq_g2, eL_score, iL_score_0, iL_score_70, iL_score_108, iL_score_114, iL_score_161, iL_score_220, iL_score_223, iL_score_248, iL_score_297, iL_score_308, iL_score_310, iL_score_329, iL_score_342, vL_score, wps, x_cnd, reduceIte, Nat.reduceAdd, Nat.reduceSub, Nat.reduceEqDiff, Nat.reduceLeDiff, Nat.lt_irrefl, Nat.reduceLT, Int.cast_ofNat_Int, wq_c0, wq_c1, true_and, and_true, and_self, true_implies, forall_const, ne_eq, Decidable.not_not, not_true_eq_false, not_false_eq_true, List.map_nil, List.map_cons, List.sum_nil, List.sum_cons, List.length_cons, List.length_nil, Nat.le_refl, Nat.zero_le, reduceCtorEq, true_or, or_true, false_or, or_false, false_and, and_false, false_implies, Nat.zero_add, Nat.add_zero, Int.reduceEq, Int.reduceNe, Int.reduceLT, Int.reduceLE, Int.reduceNeg, Int.reduceToNat, Nat.not_lt_zero, Int.reduceAdd, l0, l1, l2, l4, l5, I5.1.1.1]
            (repeat refine ⟨by omega, ?_⟩)
            refine bI I5 (by omega) (by simp; omega) (fun M6 h6 I6 => ?_)
            simp only [wq_g3, wq_gc, wq_g, wq_g1, wq_g2, eL_score, iL_score_0, iL_score_70, iL_score_108, iL_score_114, iL_score_161, iL_score_220, iL_score_223, iL_score_248, iL_score_297, iL_score_308, iL_score_310, iL_score_329, iL_score_342, vL_score, wps, x_cnd, reduceIte, Nat.reduceAdd, Nat.reduceSub, Nat.reduceEqDiff, Nat.reduceLeDiff, Nat.lt_irrefl, Nat.reduceLT, Int.cast_ofNat_Int, wq_c0, wq_c1, true_and, and_true, and_self, true_implies, forall_const, ne_eq, Decidable.not_not, not_true_eq_false, not_false_eq_true, List.map_nil, List.map_cons, List.sum_nil, List.sum_cons, List.length_cons, List.length_nil, Nat.le_refl, Nat.zero_le, reduceCtorEq, true_or, or_true, false_or, or_false, false_and, and_false, false_implies, Nat.zero_add, Nat.add_zero, Int.reduceEq, Int.reduceNe, Int.reduceLT, Int.reduceLE, Int.reduceNeg, Int.reduceToNat, Nat.not_lt_zero, Int.reduceAdd, l0, l1, l2, l4, l5]
            have P2 := P.group (W := [99, 117, 101]) (v := ct) (w := 2) (by decide) (by decide) (by decide) (by decide) (by omega) (by have := K.1; omega)
            have eL : L ++ K0 ++ (32 :: ([99, 117, 101] ++ [32])) ++ dgL ct = L ++ (K0 ++ (32 :: [99, 117, 101] ++ (32 :: dgL ct))) := by simp
            have eL2 : ([32, 99, 117, 101, 32] : List Int) = 32 :: ([99, 117, 101] ++ [32]) := rfl
            rw [eL2, eL] at I6
            have dl : (dgL ct).length = 1 := by rw [dgL_len, if_pos (by omega)]
            have e9 : (told : Int) + ct = ((told + ct : Nat) : Int) := by omega
            rw [e9] at P2
            refine ⟨100 * (3 - p) + bars.toNat - (told + ct), by omega, L, S, mm, cc, N, p, told + ct, _, _, N', by omega, by omega, p2, rfl, ?_, I6, P2, K, q1, by omega, by simp; omega, by omega, by omega⟩
            simp (disch := omega) only [w32_of]
            congr 2
            omega
          · (repeat refine ⟨by omega, ?_⟩)
            refine bS I4 (by decide) (by simp; omega) (fun M5 h5 I5 => ?_)
            rw [s18] at I5
            simp only [wq_g3, wq_gc, wq_g, wq_g1, wq_g2, eL_score, iL_score_0, iL_score_70, iL_score_108, iL_score_114, iL_score_161, iL_score_220, iL_score_223, iL_score_248, iL_score_297, iL_score_308, iL_score_310, iL_score_329, iL_score_342, vL_score, wps, x_cnd, reduceIte, Nat.reduceAdd, Nat.reduceSub, Nat.reduceEqDiff, Nat.reduceLeDiff, Nat.lt_irrefl, Nat.reduceLT, Int.cast_ofNat_Int, wq_c0, wq_c1, true_and, and_true, and_self, true_implies, forall_const, ne_eq, Decidable.not_not, not_true_eq_false, not_false_eq_true, List.map_nil, List.map_cons, List.sum_nil, List.sum_cons, List.length_cons, List.length_nil, Nat.le_refl, Nat.zero_le, reduceCtorEq, true_or, or_true, false_or, or_false, false_and, and_false, false_implies, Nat.zero_add, Nat.add_zero, Int.reduceEq, Int.reduceNe, Int.reduceLT, Int.reduceLE, Int.reduceNeg, Int.reduceToNat, Nat.not_lt_zero, Int.reduceAdd, l0, l1, l2, l4, l5, I5.1.1.1]
            (repeat refine ⟨by omega, ?_⟩)
            refine bI I5 (by omega) (by simp; omega) (fun M6 h6 I6 => ?_)
            simp only [wq_g3, wq_gc, wq_g, wq_g1, wq_g2, eL_score, iL_score_0, iL_score_70, iL_score_108, iL_score_114, iL_score_161, iL_score_220, iL_score_223, iL_score_248, iL_score_297, iL_score_308, iL_score_310, iL_score_329, iL_score_342, vL_score, wps, x_cnd, reduceIte, Nat.reduceAdd, Nat.reduceSub, Nat.reduceEqDiff, Nat.reduceLeDiff, Nat.lt_irrefl, Nat.reduceLT, Int.cast_ofNat_Int, wq_c0, wq_c1, true_and, and_true, and_self, true_implies, forall_const, ne_eq, Decidable.not_not, not_true_eq_false, not_false_eq_true, List.map_nil, List.map_cons, List.sum_nil, List.sum_cons, List.length_cons, List.length_nil, Nat.le_refl, Nat.zero_le, reduceCtorEq, true_or, or_true, false_or, or_false, false_and, and_false, false_implies, Nat.zero_add, Nat.add_zero, Int.reduceEq, Int.reduceNe, Int.reduceLT, Int.reduceLE, Int.reduceNeg, Int.reduceToNat, Nat.not_lt_zero, Int.reduceAdd, l0, l1, l2, l4, l5]
            have P2 := P.group (W := [112, 108, 97, 121]) (v := ct) (w := 1) (by decide) (by decide) (by decide) (by decide) (by omega) (by have := K.1; omega)
            have eL : L ++ K0 ++ (32 :: ([112, 108, 97, 121] ++ [32])) ++ dgL ct = L ++ (K0 ++ (32 :: [112, 108, 97, 121] ++ (32 :: dgL ct))) := by simp
            have eL2 : ([32, 112, 108, 97, 121, 32] : List Int) = 32 :: ([112, 108, 97, 121] ++ [32]) := rfl
            rw [eL2, eL] at I6
            have dl : (dgL ct).length = 1 := by rw [dgL_len, if_pos (by omega)]
            have e9 : (told : Int) + ct = ((told + ct : Nat) : Int) := by omega
            rw [e9] at P2
            refine ⟨100 * (3 - p) + bars.toNat - (told + ct), by omega, L, S, mm, cc, N, p, told + ct, _, _, N', by omega, by omega, p2, rfl, ?_, I6, P2, K, q1, by omega, by simp; omega, by omega, by omega⟩
            simp (disch := omega) only [w32_of]
            congr 2
            omega
end SCO
