/-! readScore and load -/
section LOAD
variable {B : Int → Int} {n x : Nat} {l : Bool} {R : xRd} {M0 M : xM} {h : xH} {Φ : xO → xM → xH → Prop} {A : xAb}
set_option maxHeartbeats 1000000
theorem pSco_0 {k : Nat} (h : k = 0 ∨ kin B n (rX R) (rL R) = 0) : pSco B n k R = .inr R := by
  cases k with
  | zero => rfl
  | succ k => exact if_pos (h.resolve_left (by omega))
theorem pSco_e {k : Nat} {e : Int × Nat} (h : kin B n (rX R) (rL R) ≠ 0) (h2 : pSem B n (pStm B n R) = .inl e) : pSco B n (k + 1) R = .inl e := by
  simp only [pSco, if_neg h, h2]
theorem pSco_s {k : Nat} {R' : xRd} (h : kin B n (rX R) (rL R) ≠ 0) (h2 : pSem B n (pStm B n R) = .inr R') : pSco B n (k + 1) R = pSco B n k R' := by
  simp only [pSco, if_neg h, h2]
theorem fR13 (i : Int) (h0 : 0 ≤ i) (h6 : i < 6) : fR 13 i = 0 := by
  have : i = 0 ∨ i = 1 ∨ i = 2 ∨ i = 3 ∨ i = 4 ∨ i = 5 := by omega
  rcases this with rfl | rfl | rfl | rfl | rfl | rfl <;> decide
theorem S0_wf : wfR (0, false, S0, 0, 0, fun _ => 0) := by
  have hm : mkN S0 = 0 := by decide
  refine ⟨⟨⟨by decide, by decide⟩, fun p hp => absurd hp (Nat.not_lt_zero p), fun p q hp _ _ => absurd hp (Nat.not_lt_zero p), fun l _ _ => Or.inl rfl, fun l k _ _ _ _ hne _ => absurd rfl hne, by show mkN S0 ≤ 20; omega, fun c _ => Or.inl rfl, fun _ _ => Or.inl rfl, fun _ _ _ => Or.inl rfl, fun _ _ _ _ hne _ _ _ => absurd rfl hne⟩, fun _ => rfl, ⟨hm, by decide, fun _ _ _ => rfl⟩, ⟨by decide, fun _ _ _ => rfl⟩, fun _ => rfl, fun _ => rfl⟩
/-- the loop of readScore, from a state on -/
theorem cR_readScore (F : Fx h) {len : Nat} (hlen : len ≤ 800) (hB : ∀ i : Nat, i < len → M 14 i = w8 (B i) ∧ 0 ≤ B i ∧ B i < 256) (k : ∀ h', Fx h' → (∀ a i, hP h' a i = if a = 13 ∧ 0 ≤ i ∧ i < 6 then 0 else hP h a i) → h'.2 = h.2 → rOut B len (x_w M 2 3 0) h' Φ (pLoad B len)) : x_Cal zR_readScore [xA 2, xI len] M h Φ := by
  refine x_metI kR_readScore (Nat.le_of_ble_eq_true rfl) (fun t m ls st M1 h' c n2 => t = 58 ∧ st = [] ∧ c = 0 ∧ n2 = 0 ∧ Fx h' ∧ hn h' = hn h ∧ ls 0 = some (xA 2) ∧ ∃ g : Nat, ls 3 = some (xI g) ∧ g ≤ len + 1 ∧ m = len + 1 - g ∧ ((ls 2 = some (xI 0) ∧ Φ (.inl (some (xI 0))) M1 h') ∨ (ls 2 = some (xI 1) ∧ ∃ R, RA B len (x_w M 2 3 0) h' (rX R) (rL R) R M1 ∧ rOut B len (x_w M 2 3 0) h' Φ (pSco B len (len + 1 - g) R)))) 20 ?_ ?_
  · simp only [wq_g3, wq_gc, wq_g, wq_g1, wq_g2, eR_readScore, iR_readScore_0, iR_readScore_58, iR_readScore_95, iR_readScore_96, iR_readScore_103, vR_readScore, wps, x_cnd, reduceIte, Nat.reduceAdd, Nat.reduceSub, Nat.reduceEqDiff, Nat.reduceLeDiff, Nat.lt_irrefl, Nat.reduceLT, Int.cast_ofNat_Int, wq_c0, wq_c1, true_and, and_true, and_self, true_implies, forall_const, ne_eq, Decidable.not_not, not_true_eq_false, not_false_eq_true, List.map_nil, List.map_cons, List.sum_nil, List.sum_cons, List.length_cons, List.length_nil, Nat.le_refl, Nat.zero_le, reduceCtorEq, true_or, or_true, false_or, or_false, false_and, and_false, false_implies, Nat.zero_add, Nat.add_zero, Int.reduceEq, Int.reduceNe, Int.reduceLT, Int.reduceLE, Int.reduceNeg, Int.reduceToNat, Nat.not_lt_zero, Int.reduceAdd, fxs F]
    refine cS_clear F.s3 (fun h' hp he => ?_)
    have F' : Fx h' := F.keep (fun a _ => ?_) (fun a i hf => ?_) (by unfold hn; rw [he]; exact Nat.le_refl _)
    · simp only [wq_g3, wq_gc, wq_g, wq_g1, wq_g2, eR_readScore, iR_readScore_0, iR_readScore_58, iR_readScore_95, iR_readScore_96, iR_readScore_103, vR_readScore, wps, x_cnd, reduceIte, Nat.reduceAdd, Nat.reduceSub, Nat.reduceEqDiff, Nat.reduceLeDiff, Nat.lt_irrefl, Nat.reduceLT, Int.cast_ofNat_Int, wq_c0, wq_c1, true_and, and_true, and_self, true_implies, forall_const, ne_eq, Decidable.not_not, not_true_eq_false, not_false_eq_true, List.map_nil, List.map_cons, List.sum_nil, List.sum_cons, List.length_cons, List.length_nil, Nat.le_refl, Nat.zero_le, reduceCtorEq, true_or, or_true, false_or, or_false, false_and, and_false, false_implies, Nat.zero_add, Nat.add_zero, Int.reduceEq, Int.reduceNe, Int.reduceLT, Int.reduceLE, Int.reduceNeg, Int.reduceToNat, Nat.not_lt_zero, Int.reduceAdd, fxs F']
      rw [show min (len : Int) 800 = len by omega]
      generalize hM3 : x_w (x_w (x_w (x_w (x_w (x_w (x_fl (x_fl (x_fl (x_w (x_w (x_w (x_w M 2 3 0) 3 0 0) 3 1 0) 3 2 0) 10 (-1) 41) 11 (-1) 10) 12 (-1) 10) 2 6 0) 2 1 0) 2 2 (-1)) 2 5 len) 2 8 0) 2 10 0 = M3
      have f : ∀ a j, a < 2 ∨ 12 < a → M3 a j = M a j := fun a j ha => by
        rw [← hM3]
        simp only [x_w, x_fl]
        rw [if_neg (by omega), if_neg (by omega), if_neg (by omega), if_neg (by omega), if_neg (by omega), if_neg (by omega), if_neg (by omega), if_neg (by omega), if_neg (by omega), if_neg (by omega), if_neg (by omega), if_neg (by omega), if_neg (by omega)]
      have g5 : M3 2 5 = len := by rw [← hM3]; rfl
      have g8 : M3 2 8 = 0 := by rw [← hM3]; rfl
      have g10 : M3 2 10 = 0 := by rw [← hM3]; rfl
      have g1 : M3 2 1 = 0 := by rw [← hM3]; rfl
      have g2 : M3 2 2 = -1 := by rw [← hM3]; rfl
      have g3 : M3 2 3 = 0 := by rw [← hM3]; rfl
      have g6 : M3 2 6 = 0 := by rw [← hM3]; rfl
      have i0 : M3 3 0 = 0 := by rw [← hM3]; rfl
      have i1 : M3 3 1 = 0 := by rw [← hM3]; rfl
      have i2 : M3 3 2 = 0 := by rw [← hM3]; rfl
      have i10 : ∀ l : Nat, 1 ≤ l → l ≤ 40 → M3 10 l = -1 := fun l h1 h2 => by
        rw [← hM3, w_ne (by decide), w_ne (by decide), w_ne (by decide), w_ne (by decide), w_ne (by decide), w_ne (by decide)]
        exact (if_neg (by omega)).trans ((if_neg (by omega)).trans (if_pos ⟨rfl, by omega, by omega⟩))
      have i11 : ∀ l : Nat, l < 10 → M3 11 l = -1 ∧ M3 12 l = -1 := fun l h1 => by
        rw [← hM3, w_ne (by decide), w_ne (by decide), w_ne (by decide), w_ne (by decide), w_ne (by decide), w_ne (by decide), w_ne (by decide), w_ne (by decide), w_ne (by decide), w_ne (by decide), w_ne (by decide), w_ne (by decide)]
        exact ⟨(if_neg (by omega)).trans (if_pos ⟨rfl, by omega, by omega⟩), if_pos ⟨rfl, by omega, by omega⟩⟩
      have hm : mkN S0 = 0 := S0_wf.2.2.1.1
      have T : TX B len M3 := ⟨g5, hlen, fun i hi => by rw [f 14 i (by omega)]; exact hB i hi⟩
      have D : ∀ M', (∀ b j, ¬ (b = 2 ∧ 8 ≤ j ∧ j ≤ 11) → M' b j = M3 b j) → repC S0 M' h' 3 := fun M' fr => by
        refine ⟨⟨F'.s3, by decide, by have := F'.n; omega⟩, ⟨?_, ?_, ?_⟩, fun p hp => absurd hp (Nat.not_lt_zero p), fun l h1 h2 => ?_, fun c h1 => ⟨?_, ?_⟩, fun part h6 => Or.inl ⟨rfl, ?_⟩⟩
        · rw [fr 3 0 (by omega), i0]; rfl
        · rw [fr 3 1 (by omega), i1]; rfl
        · rw [fr 3 2 (by omega), i2, hm]
        · rw [fr _ _ (by omega)]; exact i10 l h1 h2
        · rw [fr _ _ (by omega)]; exact (i11 c h1).1
        · rw [fr _ _ (by omega)]; exact (i11 c h1).2
        · rw [hp, if_pos (by omega)]
      refine cR_next F' (x := 0) (l := false) T (Nat.zero_le _) g10 (by rw [g8]; decide) (fun M4 K fr => ?_)
      have A4 : RA B len (x_w M 2 3 0) h' 0 false (0, false, S0, 0, 0, fun _ => 0) M4 := by
        refine ⟨⟨⟨?_, hlen, fun i hi => ?_⟩, fun a j ha => ?_, ?_⟩, ⟨K, Nat.zero_le _⟩, ⟨D M4 fr, ?_⟩, ⟨fun p _ hne => absurd rfl hne, fun p hp => absurd hp (Nat.not_lt_zero p)⟩, S0_wf, ?_, ?_⟩
        · rw [fr 2 5 (by decide)]; exact g5
        · rw [fr 14 i (by omega)]; exact T.2.2 i hi
        · rw [fr a j (by omega), f a j (by omega), w_ne (by omega)]
        · rw [fr 2 3 (by decide), g3, w_eq]
        · rw [fr 2 6 (by decide), g6]; rfl
        · rw [fr 2 1 (by decide)]; exact g1
        · rw [fr 2 2 (by decide)]; exact g2
      have k1 := k h' F' hp he
      simp only [wq_g3, wq_gc, wq_g, wq_g1, wq_g2, eR_readScore, iR_readScore_0, iR_readScore_58, iR_readScore_95, iR_readScore_96, iR_readScore_103, vR_readScore, wps, x_cnd, reduceIte, Nat.reduceAdd, Nat.reduceSub, Nat.reduceEqDiff, Nat.reduceLeDiff, Nat.lt_irrefl, Nat.reduceLT, Int.cast_ofNat_Int, wq_c0, wq_c1, true_and, and_true, and_self, true_implies, forall_const, ne_eq, Decidable.not_not, not_true_eq_false, not_false_eq_true, List.map_nil, List.map_cons, List.sum_nil, List.sum_cons, List.length_cons, List.length_nil, Nat.le_refl, Nat.zero_le, reduceCtorEq, true_or, or_true, false_or, or_false, false_and, and_false, false_implies, Nat.zero_add, Nat.add_zero, Int.reduceEq, Int.reduceNe, Int.reduceLT, Int.reduceLE, Int.reduceNeg, Int.reduceToNat, Nat.not_lt_zero, Int.reduceAdd, fxs F']
      refine ⟨len + 1, F', by unfold hn; rw [he], 0, rfl, by omega, rfl, Or.inr ⟨(0, false, S0, 0, 0, fun _ => 0), A4, k1⟩⟩
    · rw [hK, hL, he]
      exact ⟨rfl, rfl⟩
    · rw [hp]
      split
      · rename_i hcc
        rw [hcc.1] at hf
        exact absurd (fR13 i hcc.2.1 hcc.2.2) hf
      · rfl
  · rintro t m ls st M1 h' c n2 ⟨rfl, rfl, rfl, rfl, F', hn', l0, g, l3, g1, q1, ⟨l2, k0⟩ | ⟨l2, R, A1, k1⟩⟩
    · have e5 : M1 2 5 = M1 2 5 := rfl
      simp only [wq_g3, wq_gc, wq_g, wq_g1, wq_g2, eR_readScore, iR_readScore_0, iR_readScore_58, iR_readScore_95, iR_readScore_96, iR_readScore_103, vR_readScore, wps, x_cnd, reduceIte, Nat.reduceAdd, Nat.reduceSub, Nat.reduceEqDiff, Nat.reduceLeDiff, Nat.lt_irrefl, Nat.reduceLT, Int.cast_ofNat_Int, wq_c0, wq_c1, true_and, and_true, and_self, true_implies, forall_const, ne_eq, Decidable.not_not, not_true_eq_false, not_false_eq_true, List.map_nil, List.map_cons, List.sum_nil, List.sum_cons, List.length_cons, List.length_nil, Nat.le_refl, Nat.zero_le, reduceCtorEq, true_or, or_true, false_or, or_false, false_and, and_false, false_implies, Nat.zero_add, Nat.add_zero, Int.reduceEq, Int.reduceNe, Int.reduceLT, Int.reduceLE, Int.reduceNeg, Int.reduceToNat, Nat.not_lt_zero, Int.reduceAdd, fxs F', l0, l2, l3]
      exact ⟨fun _ => k0, fun _ => k0⟩
    · have e5 := A1.1.1.1
      have e8 := A1.2.1.1.1
      simp only [wq_g3, wq_gc, wq_g, wq_g1, wq_g2, eR_readScore, iR_readScore_0, iR_readScore_58, iR_readScore_95, iR_readScore_96, iR_readScore_103, vR_readScore, wps, x_cnd, reduceIte, Nat.reduceAdd, Nat.reduceSub, Nat.reduceEqDiff, Nat.reduceLeDiff, Nat.lt_irrefl, Nat.reduceLT, Int.cast_ofNat_Int, wq_c0, wq_c1, true_and, and_true, and_self, true_implies, forall_const, ne_eq, Decidable.not_not, not_true_eq_false, not_false_eq_true, List.map_nil, List.map_cons, List.sum_nil, List.sum_cons, List.length_cons, List.length_nil, Nat.le_refl, Nat.zero_le, reduceCtorEq, true_or, or_true, false_or, or_false, false_and, and_false, false_implies, Nat.zero_add, Nat.add_zero, Int.reduceEq, Int.reduceNe, Int.reduceLT, Int.reduceLE, Int.reduceNeg, Int.reduceToNat, Nat.not_lt_zero, Int.reduceAdd, fxs F', l0, l2, l3, e5, e8]
      refine ⟨fun c0 => ?_, fun c0 => ⟨fun c1 => ?_, fun c1 => ?_⟩⟩
      · rw [pSco_0 (Or.inl (by omega))] at k1
        exact k1 M1 A1
      · rw [pSco_0 (Or.inr c1)] at k1
        exact k1 M1 A1
      · obtain ⟨f, hf⟩ : ∃ f : Nat, len + 1 - g = f + 1 := ⟨len - g, by omega⟩
        have hf2 : len + 1 - (g + 1) = f := by omega
        rw [hf] at k1
        refine cR_readStatement F' A1 ?_
        cases hs : pStm B len R with
        | inl e =>
          intro M2 fl
          have hs2 : pSem B len (pStm B len R) = .inl e := by rw [hs]; rfl
          rw [pSco_e c1 hs2] at k1
          simp only [wq_g3, wq_gc, wq_g, wq_g1, wq_g2, eR_readScore, iR_readScore_0, iR_readScore_58, iR_readScore_95, iR_readScore_96, iR_readScore_103, vR_readScore, wps, x_cnd, reduceIte, Nat.reduceAdd, Nat.reduceSub, Nat.reduceEqDiff, Nat.reduceLeDiff, Nat.lt_irrefl, Nat.reduceLT, Int.cast_ofNat_Int, wq_c0, wq_c1, true_and, and_true, and_self, true_implies, forall_const, ne_eq, Decidable.not_not, not_true_eq_false, not_false_eq_true, List.map_nil, List.map_cons, List.sum_nil, List.sum_cons, List.length_cons, List.length_nil, Nat.le_refl, Nat.zero_le, reduceCtorEq, true_or, or_true, false_or, or_false, false_and, and_false, false_implies, Nat.zero_add, Nat.add_zero, Int.reduceEq, Int.reduceNe, Int.reduceLT, Int.reduceLE, Int.reduceNeg, Int.reduceToNat, Nat.not_lt_zero, Int.reduceAdd, fxs F', l0, l2, l3]
          exact ⟨len + 1 - (g + 1), by omega, F', hn', g + 1, by rw [w32_of (by omega)]; exact congrArg (fun z => some (xI z)) (by omega), by omega, rfl, Or.inl (k1 M2 fl)⟩
        | inr R' =>
          intro M2 A2
          simp only [wq_g3, wq_gc, wq_g, wq_g1, wq_g2, eR_readScore, iR_readScore_0, iR_readScore_58, iR_readScore_95, iR_readScore_96, iR_readScore_103, vR_readScore, wps, x_cnd, reduceIte, Nat.reduceAdd, Nat.reduceSub, Nat.reduceEqDiff, Nat.reduceLeDiff, Nat.lt_irrefl, Nat.reduceLT, Int.cast_ofNat_Int, wq_c0, wq_c1, true_and, and_true, and_self, true_implies, forall_const, ne_eq, Decidable.not_not, not_true_eq_false, not_false_eq_true, List.map_nil, List.map_cons, List.sum_nil, List.sum_cons, List.length_cons, List.length_nil, Nat.le_refl, Nat.zero_le, reduceCtorEq, true_or, or_true, false_or, or_false, false_and, and_false, false_implies, Nat.zero_add, Nat.add_zero, Int.reduceEq, Int.reduceNe, Int.reduceLT, Int.reduceLE, Int.reduceNeg, Int.reduceToNat, Nat.not_lt_zero, Int.reduceAdd, fxs F', l0, l2, l3]
          refine cR_readSemicolon F' A2 ?_
          cases hs3 : pSem B len (.inr R') with
          | inl e =>
            intro M3 fl
            have hs2 : pSem B len (pStm B len R) = .inl e := by rw [hs]; exact hs3
            rw [pSco_e c1 hs2] at k1
            simp only [wq_g3, wq_gc, wq_g, wq_g1, wq_g2, eR_readScore, iR_readScore_0, iR_readScore_58, iR_readScore_95, iR_readScore_96, iR_readScore_103, vR_readScore, wps, x_cnd, reduceIte, Nat.reduceAdd, Nat.reduceSub, Nat.reduceEqDiff, Nat.reduceLeDiff, Nat.lt_irrefl, Nat.reduceLT, Int.cast_ofNat_Int, wq_c0, wq_c1, true_and, and_true, and_self, true_implies, forall_const, ne_eq, Decidable.not_not, not_true_eq_false, not_false_eq_true, List.map_nil, List.map_cons, List.sum_nil, List.sum_cons, List.length_cons, List.length_nil, Nat.le_refl, Nat.zero_le, reduceCtorEq, true_or, or_true, false_or, or_false, false_and, and_false, false_implies, Nat.zero_add, Nat.add_zero, Int.reduceEq, Int.reduceNe, Int.reduceLT, Int.reduceLE, Int.reduceNeg, Int.reduceToNat, Nat.not_lt_zero, Int.reduceAdd, fxs F', l0, l2, l3]
            exact ⟨len + 1 - (g + 1), by omega, F', hn', g + 1, by rw [w32_of (by omega)]; exact congrArg (fun z => some (xI z)) (by omega), by omega, rfl, Or.inl (k1 M3 fl)⟩
          | inr R3 =>
            intro M3 A3
            have hs2 : pSem B len (pStm B len R) = .inr R3 := by rw [hs]; exact hs3
            rw [pSco_s c1 hs2, ← hf2] at k1
            simp only [wq_g3, wq_gc, wq_g, wq_g1, wq_g2, eR_readScore, iR_readScore_0, iR_readScore_58, iR_readScore_95, iR_readScore_96, iR_readScore_103, vR_readScore, wps, x_cnd, reduceIte, Nat.reduceAdd, Nat.reduceSub, Nat.reduceEqDiff, Nat.reduceLeDiff, Nat.lt_irrefl, Nat.reduceLT, Int.cast_ofNat_Int, wq_c0, wq_c1, true_and, and_true, and_self, true_implies, forall_const, ne_eq, Decidable.not_not, not_true_eq_false, not_false_eq_true, List.map_nil, List.map_cons, List.sum_nil, List.sum_cons, List.length_cons, List.length_nil, Nat.le_refl, Nat.zero_le, reduceCtorEq, true_or, or_true, false_or, or_false, false_and, and_false, false_implies, Nat.zero_add, Nat.add_zero, Int.reduceEq, Int.reduceNe, Int.reduceLT, Int.reduceLE, Int.reduceNeg, Int.reduceToNat, Nat.not_lt_zero, Int.reduceAdd, fxs F', l0, l2, l3]
            exact ⟨len + 1 - (g + 1), by omega, F', hn', g + 1, by rw [w32_of (by omega)]; exact congrArg (fun z => some (xI z)) (by omega), by omega, rfl, Or.inr ⟨R3, A3, k1⟩⟩
theorem HW_0 {hc : Nat} {H G : Nat → xSr} {nid nid' : Int} {M' : xM} {h' : xH} (W : HW hc H nid M h) (e : h'.2 = h.2) (hp : ∀ a i, a ≠ 13 → a ≠ 27 → hP h' a i = hP h a i) (h1 : M' 37 2 = 0) (h2 : M' 37 1 = M 37 1) : HW 0 G nid' M' h' := by
  obtain ⟨⟨w1, w2⟩, ⟨nx, n1, n2, n3⟩, w4, w5⟩ := W
  obtain ⟨e1, e2, e3⟩ := h2_k e
  refine ⟨⟨by rw [h1]; rfl, by omega⟩, ⟨nx, n1, h2.trans n2, fun j hj => absurd hj (Nat.not_lt_zero j)⟩, fun i hi => ?_, fun i j hi hj hne h0 => ?_⟩
  · rw [hp 38 i (by decide) (by decide)]
    rcases w4 i hi with q | ⟨q1, q2, q3⟩
    · exact Or.inl q
    · exact Or.inr ⟨q1.mv (fun a _ _ => by rw [e1, e2]; exact ⟨rfl, rfl⟩) (fun i => hp _ _ (by omega) (by omega)), q2, by omega⟩
  · rw [hp 38 i (by decide) (by decide)] at h0 ⊢
    rw [hp 38 j (by decide) (by decide)]
    exact w5 i j hi hj hne h0
def dLoad (A : xAb) (len : Int) : xAn × xAb :=
  if len < 0 ∨ aN A < len then (.inr 1, A) else match pLoad (aB A) len.toNat with
  | .inl e => (.inr 0, (aS A, aI A, aH A, aG A, 0, aB A, e.1, e.2, aO A))
  | .inr R => (.inl (sN (rS R)), (rS R, sN (rS R), 0, aG A, 0, aB A, 0, -1, aO A))
theorem cP_load (C : CW A M h) {len : Int} (k : ∀ M' h', CW (dLoad A len).2 M' h' → Fr M h M' h' → Φ (xo (dLoad A len).1) M' h') : x_Cal zP_load [xA 1, xI len] M h Φ := by
  obtain ⟨⟨r1, r2⟩, r3, r4, r5⟩ := C.r
  unfold dLoad at k
  refine x_met0 kP_load (Nat.le_of_ble_eq_true rfl) ?_
  simp only [wq_g3, wq_gc, wq_g, wq_g1, wq_g2, eP_load, iP_load_0, iP_load_15, iP_load_23, iP_load_42, vP_load, wps, x_cnd, reduceIte, Nat.reduceAdd, Nat.reduceSub, Nat.reduceEqDiff, Nat.reduceLeDiff, Nat.lt_irrefl, Nat.reduceLT, Int.cast_ofNat_Int, wq_c0, wq_c1, true_and, and_true, and_self, true_implies, forall_const, ne_eq, Decidable.not_not, not_true_eq_false, not_false_eq_true, List.map_nil, List.map_cons, List.sum_nil, List.sum_cons, List.length_cons, List.length_nil, Nat.le_refl, Nat.zero_le, reduceCtorEq, true_or, or_true, false_or, or_false, false_and, and_false, false_implies, Nat.zero_add, Nat.add_zero, Int.reduceEq, Int.reduceNe, Int.reduceLT, Int.reduceLE, Int.reduceNeg, Int.reduceToNat, Nat.not_lt_zero, Int.reduceAdd, fxs C.F, r1]
  have hbad : len < 0 ∨ aN A < len → Φ (.inr 1) M h := fun c => by
    rw [if_pos c] at k
    exact k M h C ⟨fun _ _ _ _ => rfl, Nat.le_refl _⟩
  refine ⟨fun c0 => hbad (Or.inl c0), fun c0 => ⟨fun c1 => ?_, fun c1 => hbad (Or.inr (by omega))⟩⟩
  rw [if_neg (by omega)] at k
  obtain ⟨n, rfl⟩ : ∃ n : Nat, len = n := ⟨len.toNat, by omega⟩
  rw [Int.toNat_natCast] at k
  refine cR_readScore C.F (B := aB A) (len := n) (by omega) (fun i hi => r4 i (by omega)) (fun h1 F1 hp he => ?_)
  obtain ⟨e1, e2, e3⟩ := h2_k he
  have hp' : ∀ a i, a ≠ 13 → hP h1 a i = hP h a i := fun a i ha => by rw [hp, if_neg (fun q => ha q.1)]
  have hp13 : ∀ i, hP h1 13 i = 0 := fun i => by
    rw [hp]
    split
    · rfl
    · exact r5 i
  cases hs : pLoad (aB A) n with
  | inl e =>
    rw [hs] at k
    intro M2 fl
    obtain ⟨⟨f, f3⟩, g1, g2⟩ := fl
    have f' : ∀ a j, a < 2 ∨ 15 < a → M2 a j = M a j := fun a j ha => (f a j ha).trans (w_ne (by omega))
    simp only [wq_g3, wq_gc, wq_g, wq_g1, wq_g2, eP_load, iP_load_0, iP_load_15, iP_load_23, iP_load_42, vP_load, wps, x_cnd, reduceIte, Nat.reduceAdd, Nat.reduceSub, Nat.reduceEqDiff, Nat.reduceLeDiff, Nat.lt_irrefl, Nat.reduceLT, Int.cast_ofNat_Int, wq_c0, wq_c1, true_and, and_true, and_self, true_implies, forall_const, ne_eq, Decidable.not_not, not_true_eq_false, not_false_eq_true, List.map_nil, List.map_cons, List.sum_nil, List.sum_cons, List.length_cons, List.length_nil, Nat.le_refl, Nat.zero_le, reduceCtorEq, true_or, or_true, false_or, or_false, false_and, and_false, false_implies, Nat.zero_add, Nat.add_zero, Int.reduceEq, Int.reduceNe, Int.reduceLT, Int.reduceLE, Int.reduceNeg, Int.reduceToNat, Nat.not_lt_zero, Int.reduceAdd, fxs F1]
    refine k M2 h1 ⟨F1, ?_, C.w, C.V.frame (fun a j ha => f' a j (by omega)), ?_, ?_, ⟨⟨f3.trans w_eq, Nat.zero_le _⟩, ⟨g1, g2⟩, fun i hi => absurd hi (Nat.not_lt_zero i), hp13⟩, ?_, C.o.2.1, fun i hi => ?_⟩ ⟨fun a j z1 z2 => f' a j (by omega), by omega⟩
    · exact C.R.mv (fun a _ => by rw [e1, e2]; exact ⟨rfl, rfl⟩) (by omega) (fun i => hp' _ _ (by omega)) (fun i => hp' _ _ (by omega)) (fun a i z1 z2 => f' a i (by omega)) (fun r r1 r2 r3 => ⟨fun i => hp' _ _ (by omega), fun a i z1 z2 => f' a i (by omega)⟩)
    · exact HW.mv C.H (Int.le_refl _) C.F.n (fun a _ => by rw [e1, e2]; exact ⟨rfl, rfl⟩) (by omega) (fun a i z1 z2 => hp' a i (by omega)) (fun a j z1 z2 => f' a j (by omega))
    · rw [f' 1 6 (by omega)]
      exact C.i
    · rw [f' 39 1 (by omega)]
      exact C.o.1
    · rw [f' 40 i (by omega)]
      exact C.o.2.2 i hi
  | inr R =>
    rw [hs] at k
    intro M2 A2
    have hN := A2.W.1.N
    have f' : ∀ a j, a < 2 ∨ 15 < a → M2 a j = M a j := fun a j ha => (A2.1.2.1 a j ha).trans (w_ne (by omega))
    simp only [wq_g3, wq_gc, wq_g, wq_g1, wq_g2, eP_load, iP_load_0, iP_load_15, iP_load_23, iP_load_42, vP_load, wps, x_cnd, reduceIte, Nat.reduceAdd, Nat.reduceSub, Nat.reduceEqDiff, Nat.reduceLeDiff, Nat.lt_irrefl, Nat.reduceLT, Int.cast_ofNat_Int, wq_c0, wq_c1, true_and, and_true, and_self, true_implies, forall_const, ne_eq, Decidable.not_not, not_true_eq_false, not_false_eq_true, List.map_nil, List.map_cons, List.sum_nil, List.sum_cons, List.length_cons, List.length_nil, Nat.le_refl, Nat.zero_le, reduceCtorEq, true_or, or_true, false_or, or_false, false_and, and_false, false_implies, Nat.zero_add, Nat.add_zero, Int.reduceEq, Int.reduceNe, Int.reduceLT, Int.reduceLE, Int.reduceNeg, Int.reduceToNat, Nat.not_lt_zero, Int.reduceAdd, fxs F1]
    refine cS_copyFrom F1.s17 F1.s3 (by omega) (fun h4 q1 q2 => ?_) (fun i hi => A2.D.pn hi)
    obtain ⟨u1, u2, u3⟩ := h2_k q2
    have n58 := F1.n
    have D := A2.D.copy hN F1.s17 (by omega) (by omega) q1 q2
    have F4 : Fx h4 := F1.keep (fun a _ => by rw [u1, u2]; exact ⟨rfl, rfl⟩) (fun a i hf => by
      rw [q1]
      split
      · rename_i hcc
        rw [hcc.1] at hf
        exact absurd (fR27 i hcc.2.1 hcc.2.2) hf
      · rfl) (by omega)
    have hcp : ∀ a j, a < 17 ∨ 26 < a → cpM M2 17 3 a j = M2 a j := fun a j ha => by
      unfold cpM
      rw [if_neg (by omega), if_neg (by omega)]
    have hp4 : ∀ a i, a ≠ 13 → a ≠ 27 → hP h4 a i = hP h a i := fun a i z1 z2 => by rw [q1, if_neg (fun q => z2 q.1), hp' a i z1]
    have e17 := D.n
    simp only [wq_g3, wq_gc, wq_g, wq_g1, wq_g2, eP_load, iP_load_0, iP_load_15, iP_load_23, iP_load_42, vP_load, wps, x_cnd, reduceIte, Nat.reduceAdd, Nat.reduceSub, Nat.reduceEqDiff, Nat.reduceLeDiff, Nat.lt_irrefl, Nat.reduceLT, Int.cast_ofNat_Int, wq_c0, wq_c1, true_and, and_true, and_self, true_implies, forall_const, ne_eq, Decidable.not_not, not_true_eq_false, not_false_eq_true, List.map_nil, List.map_cons, List.sum_nil, List.sum_cons, List.length_cons, List.length_nil, Nat.le_refl, Nat.zero_le, reduceCtorEq, true_or, or_true, false_or, or_false, false_and, and_false, false_implies, Nat.zero_add, Nat.add_zero, Int.reduceEq, Int.reduceNe, Int.reduceLT, Int.reduceLE, Int.reduceNeg, Int.reduceToNat, Nat.not_lt_zero, Int.reduceAdd, fxs F4, e17]
    refine cH_forget F4 ?_
    simp only [wq_g3, wq_gc, wq_g, wq_g1, wq_g2, eP_load, iP_load_0, iP_load_15, iP_load_23, iP_load_42, vP_load, wps, x_cnd, reduceIte, Nat.reduceAdd, Nat.reduceSub, Nat.reduceEqDiff, Nat.reduceLeDiff, Nat.lt_irrefl, Nat.reduceLT, Int.cast_ofNat_Int, wq_c0, wq_c1, true_and, and_true, and_self, true_implies, forall_const, ne_eq, Decidable.not_not, not_true_eq_false, not_false_eq_true, List.map_nil, List.map_cons, List.sum_nil, List.sum_cons, List.length_cons, List.length_nil, Nat.le_refl, Nat.zero_le, reduceCtorEq, true_or, or_true, false_or, or_false, false_and, and_false, false_implies, Nat.zero_add, Nat.add_zero, Int.reduceEq, Int.reduceNe, Int.reduceLT, Int.reduceLE, Int.reduceNeg, Int.reduceToNat, Nat.not_lt_zero, Int.reduceAdd, fxs F4]
    have W1 : wfS (rS R) (sN (rS R) : Nat) := A2.W.1
    have P1 : PW (rS R, ((sN (rS R) : Nat) : Int), 0, aG A, 0, aB A, 0, -1, aO A) (x_w (x_w (cpM M2 17 3) 1 6 (sN (rS R))) 37 2 0) h4 := by
      refine ⟨F4, HW_0 C.H (q2.trans he) hp4 w_eq ?_, ⟨?_, by show (0 : Int) ≤ ((sN (rS R) : Nat) : Int); omega, by show ((sN (rS R) : Nat) : Int) ≤ 50000; omega⟩, ⟨⟨?_, Nat.zero_le _⟩, ⟨?_, ?_⟩, fun i hi => absurd hi (Nat.not_lt_zero i), fun i => ?_⟩, ?_, C.o.2.1, fun i hi => ?_⟩
      · rw [w_nj (by decide), w_ne (by decide), hcp 37 1 (by omega), f' 37 1 (by omega)]
      · rw [w_ne (by decide), w_eq]
        rfl
      · rw [w_ne (by decide), w_ne (by decide), hcp 2 3 (by omega), A2.1.2.2, w_eq]
        rfl
      · rw [w_ne (by decide), w_ne (by decide), hcp 2 1 (by omega)]
        exact A2.2.2.2.2.2.1
      · rw [w_ne (by decide), w_ne (by decide), hcp 2 2 (by omega)]
        exact A2.2.2.2.2.2.2
      · rw [q1, if_neg (by omega)]
        exact hp13 i
      · rw [w_ne (by decide), w_ne (by decide), hcp 39 1 (by omega), f' 39 1 (by omega)]
        exact C.o.1
      · rw [w_ne (by decide), w_ne (by decide), hcp 40 i (by omega), f' 40 i (by omega)]
        exact C.o.2.2 i hi
    refine chg_ref P1 (D.frame (fun a j ha => by rw [w_ne (by omega), w_ne (by omega)])) W1 (fun M5 C5 f5 => ?_)
    have e5 : M5 17 0 = sN (rS R) := C5.R.n
    simp only [wq_g3, wq_gc, wq_g, wq_g1, wq_g2, eP_load, iP_load_0, iP_load_15, iP_load_23, iP_load_42, vP_load, wps, x_cnd, reduceIte, Nat.reduceAdd, Nat.reduceSub, Nat.reduceEqDiff, Nat.reduceLeDiff, Nat.lt_irrefl, Nat.reduceLT, Int.cast_ofNat_Int, wq_c0, wq_c1, true_and, and_true, and_self, true_implies, forall_const, ne_eq, Decidable.not_not, not_true_eq_false, not_false_eq_true, List.map_nil, List.map_cons, List.sum_nil, List.sum_cons, List.length_cons, List.length_nil, Nat.le_refl, Nat.zero_le, reduceCtorEq, true_or, or_true, false_or, or_false, false_and, and_false, false_implies, Nat.zero_add, Nat.add_zero, Int.reduceEq, Int.reduceNe, Int.reduceLT, Int.reduceLE, Int.reduceNeg, Int.reduceToNat, Nat.not_lt_zero, Int.reduceAdd, fxs F4, e5]
    refine k M5 h4 C5 ⟨fun a j z1 z2 => ?_, by omega⟩
    rw [f5 a j (by omega), w_ne (by omega), w_ne (by omega), hcp a j (by omega), f' a j (by omega)]
end LOAD
