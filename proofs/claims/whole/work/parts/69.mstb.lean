/-! the model reads: bars -/
section MSTB
variable {B : Int → Int} {n x : Nat} {l : Bool} {R : xRd} {M M' M0 : xM} {h : xH} {Φ : xO → xM → xH → Prop} {S : xSr}
set_option maxHeartbeats 1000000
theorem SG.add {f f' : Int → Int} {c : Nat} {b : Int} (G : SG S f) (hI : ∀ p : Nat, sI S p = p) (hc : sN S + c ≤ 150) (h0 : f' 0 = sN S + c) (hq : ∀ q : Nat, q < c → f' (4 + sN S + q) = sN S + q ∧ f' (154 + sN S + q) = b) (hf : ∀ k : Int, k ≠ 0 → ¬ (4 + sN S ≤ k ∧ k < 154) → ¬ (154 + sN S ≤ k ∧ k < 304) → f' k = f k) : SG (addS S c b) f' := by
  obtain ⟨⟨a1, a2, a3, a4⟩, e, c2, d, n⟩ := G
  refine ⟨⟨?_, (hf 1 (by omega) (by omega) (by omega)).trans a2, (hf 2 (by omega) (by omega) (by omega)).trans a3, (hf 3 (by omega) (by omega) (by omega)).trans a4⟩, fun p hp => ?_, fun k hk hne => ⟨(hf _ (by omega) (by omega) (by omega)).trans (c2 k hk hne).1, (hf _ (by omega) (by omega) (by omega)).trans (c2 k hk hne).2⟩, fun k k1 k2 => (hf _ (by omega) (by omega) (by omega)).trans (d k k1 k2), fun part h6 hq => ?_⟩
  · rw [h0]
    show (sN S : Int) + c = ((sN S + c : Nat) : Int)
    omega
  · have hp : p < sN S + c := hp
    rw [pkw_add]
    show f' (4 + p) = (p : Int) ∧ _
    by_cases hlt : p < sN S
    · rw [if_pos hlt, hf _ (by omega) (by omega) (by omega), hf _ (by omega) (by omega) (by omega), (e p hlt).1, hI]
      exact ⟨rfl, (e p hlt).2⟩
    · rw [if_neg hlt]
      obtain ⟨z1, z2⟩ := hq (p - sN S) (by omega)
      rw [show (4 : Int) + sN S + ((p - sN S : Nat) : Int) = 4 + p by omega] at z1
      rw [show (154 : Int) + sN S + ((p - sN S : Nat) : Int) = 154 + p by omega] at z2
      exact ⟨by rw [z1]; omega, z2⟩
  · obtain ⟨K, k1, k2, k3, k4⟩ := n part h6 hq
    refine ⟨K, k1, (hf _ (by omega) (by omega) (by omega)).trans k2, fun k hk => ?_, fun id hid => ?_⟩
    · rw [hf _ (by omega) (by omega) (by omega), hf _ (by omega) (by omega) (by omega)]
      exact k3 k hk
    · obtain ⟨k, hk, hk2⟩ := k4 id hid
      exact ⟨k, hk, (hf _ (by omega) (by omega) (by omega)).trans hk2⟩
theorem cM_readBars (F : Fx h) (A : RS B n M0 x true R M) (k : mO B n M0 h Φ (pBars B n x R)) : x_Cal zM_readBars [xA 41] M h Φ := by
  have hN := A.W.1.N
  unfold pBars at k
  refine x_metI kM_readBars (Nat.le_of_ble_eq_true rfl) (fun t m ls st M' h' c n2 => t = 75 ∧ st = [] ∧ h' = h ∧ c = 0 ∧ n2 = 0 ∧ ls 0 = some (xA 41) ∧ ∃ (y v p : Nat) (b : Int) (M1 : xM), RS B n M0 y true R M1 ∧ ls 1 = some (xI v) ∧ ls 2 = some (xI (sN (rS R))) ∧ ls 3 = some (xI b) ∧ (1 ≤ b ∧ b ≤ 12) ∧ sN (rS R) + v ≤ 150 ∧ p ≤ v ∧ m = v - p ∧ ls 4 = some (xI ((sN (rS R) + p : Nat) : Int)) ∧ (∀ a j, a ≠ 43 → M' a j = M1 a j) ∧ (∀ j : Int, ¬ (4 + sN (rS R) ≤ j ∧ j < 154) → ¬ (154 + sN (rS R) ≤ j ∧ j < 304) → M' 43 j = M1 43 j) ∧ (∀ q : Nat, q < p → M' 43 (4 + sN (rS R) + q) = sN (rS R) + q ∧ M' 43 (154 + sN (rS R) + q) = b) ∧ mO B n M0 h Φ (.inr (y, true, addS (rS R) v b, rM R, rC R, rN R))) 20 ?_ ?_
  · simp only [wq_g3, wq_gc, wq_g, wq_g1, wq_g2, eM_readBars, iM_readBars_0, iM_readBars_12, iM_readBars_43, iM_readBars_67, iM_readBars_72, iM_readBars_75, iM_readBars_112, vM_readBars, wps, x_cnd, reduceIte, Nat.reduceAdd, Nat.reduceSub, Nat.reduceEqDiff, Nat.reduceLeDiff, Nat.lt_irrefl, Nat.reduceLT, Int.cast_ofNat_Int, wq_c0, wq_c1, true_and, and_true, and_self, true_implies, forall_const, ne_eq, Decidable.not_not, not_true_eq_false, not_false_eq_true, List.map_nil, List.map_cons, List.sum_nil, List.sum_cons, List.length_cons, List.length_nil, Nat.le_refl, Nat.zero_le, reduceCtorEq, true_or, or_true, false_or, or_false, false_and, and_false, false_implies, Nat.zero_add, Nat.add_zero, Int.reduceEq, Int.reduceNe, Int.reduceLT, Int.reduceLE, Int.reduceNeg, Int.reduceToNat, Nat.not_lt_zero, Int.reduceAdd, fxs F]
    refine cM_readNumber F A.T A.g (fun c0 M' fe => ?_) (fun M1 c0 g1 g2 g3 g4 T1 f1 e14 e12 => ?_)
    · rw [if_pos c0] at k
      simp only [wq_g3, wq_gc, wq_g, wq_g1, wq_g2, eM_readBars, iM_readBars_0, iM_readBars_12, iM_readBars_43, iM_readBars_67, iM_readBars_72, iM_readBars_75, iM_readBars_112, vM_readBars, wps, x_cnd, reduceIte, Nat.reduceAdd, Nat.reduceSub, Nat.reduceEqDiff, Nat.reduceLeDiff, Nat.lt_irrefl, Nat.reduceLT, Int.cast_ofNat_Int, wq_c0, wq_c1, true_and, and_true, and_self, true_implies, forall_const, ne_eq, Decidable.not_not, not_true_eq_false, not_false_eq_true, List.map_nil, List.map_cons, List.sum_nil, List.sum_cons, List.length_cons, List.length_nil, Nat.le_refl, Nat.zero_le, reduceCtorEq, true_or, or_true, false_or, or_false, false_and, and_false, false_implies, Nat.zero_add, Nat.add_zero, Int.reduceEq, Int.reduceNe, Int.reduceLT, Int.reduceLE, Int.reduceNeg, Int.reduceToNat, Nat.not_lt_zero, Int.reduceAdd, fxs F]
      exact k M' fe
    · have A1 := A.fr T1 f1
      have e0 : M1 43 0 = sN (rS R) := A1.G.1.1
      obtain ⟨v, hv⟩ : ∃ v : Nat, tnv B n x = v := ⟨(tnv B n x).toNat, by omega⟩
      rw [hv] at k e14 g2 g3
      rw [if_neg (fun q => q c0), Int.toNat_natCast] at k
      simp only [wq_g3, wq_gc, wq_g, wq_g1, wq_g2, eM_readBars, iM_readBars_0, iM_readBars_12, iM_readBars_43, iM_readBars_67, iM_readBars_72, iM_readBars_75, iM_readBars_112, vM_readBars, wps, x_cnd, reduceIte, Nat.reduceAdd, Nat.reduceSub, Nat.reduceEqDiff, Nat.reduceLeDiff, Nat.lt_irrefl, Nat.reduceLT, Int.cast_ofNat_Int, wq_c0, wq_c1, true_and, and_true, and_self, true_implies, forall_const, ne_eq, Decidable.not_not, not_true_eq_false, not_false_eq_true, List.map_nil, List.map_cons, List.sum_nil, List.sum_cons, List.length_cons, List.length_nil, Nat.le_refl, Nat.zero_le, reduceCtorEq, true_or, or_true, false_or, or_false, false_and, and_false, false_implies, Nat.zero_add, Nat.add_zero, Int.reduceEq, Int.reduceNe, Int.reduceLT, Int.reduceLE, Int.reduceNeg, Int.reduceToNat, Nat.not_lt_zero, Int.reduceAdd, fxs F, e14, e0, e12]
      simp (disch := omega) only [w32_of]
      refine ⟨fun c1 => ?_, fun c1 => cM_fails F A1.g (fun M' fe => ?_)⟩
      · have c1' : sN (rS R) + v ≤ 150 := by omega
        rw [if_neg (by omega)] at k
        refine cM_peek F A1.T (fun M2 R2 e12' e9 f2 => ?_)
        have A2 := A1.fr R2 f2
        have ht := R2.t
        simp only [wq_g3, wq_gc, wq_g, wq_g1, wq_g2, eM_readBars, iM_readBars_0, iM_readBars_12, iM_readBars_43, iM_readBars_67, iM_readBars_72, iM_readBars_75, iM_readBars_112, vM_readBars, wps, x_cnd, reduceIte, Nat.reduceAdd, Nat.reduceSub, Nat.reduceEqDiff, Nat.reduceLeDiff, Nat.lt_irrefl, Nat.reduceLT, Int.cast_ofNat_Int, wq_c0, wq_c1, true_and, and_true, and_self, true_implies, forall_const, ne_eq, Decidable.not_not, not_true_eq_false, not_false_eq_true, List.map_nil, List.map_cons, List.sum_nil, List.sum_cons, List.length_cons, List.length_nil, Nat.le_refl, Nat.zero_le, reduceCtorEq, true_or, or_true, false_or, or_false, false_and, and_false, false_implies, Nat.zero_add, Nat.add_zero, Int.reduceEq, Int.reduceNe, Int.reduceLT, Int.reduceLE, Int.reduceNeg, Int.reduceToNat, Nat.not_lt_zero, Int.reduceAdd, fxs F]
        refine cM_isDigit ?_
        simp only [wq_g3, wq_gc, wq_g, wq_g1, wq_g2, eM_readBars, iM_readBars_0, iM_readBars_12, iM_readBars_43, iM_readBars_67, iM_readBars_72, iM_readBars_75, iM_readBars_112, vM_readBars, wps, x_cnd, reduceIte, Nat.reduceAdd, Nat.reduceSub, Nat.reduceEqDiff, Nat.reduceLeDiff, Nat.lt_irrefl, Nat.reduceLT, Int.cast_ofNat_Int, wq_c0, wq_c1, true_and, and_true, and_self, true_implies, forall_const, ne_eq, Decidable.not_not, not_true_eq_false, not_false_eq_true, List.map_nil, List.map_cons, List.sum_nil, List.sum_cons, List.length_cons, List.length_nil, Nat.le_refl, Nat.zero_le, reduceCtorEq, true_or, or_true, false_or, or_false, false_and, and_false, false_implies, Nat.zero_add, Nat.add_zero, Int.reduceEq, Int.reduceNe, Int.reduceLT, Int.reduceLE, Int.reduceNeg, Int.reduceToNat, Nat.not_lt_zero, Int.reduceAdd, fxs F, b01_0]
        rw [bAt_dg (by omega)]
        refine ⟨fun c2 => ?_, fun c2 => cM_readNumber F A2.T A2.g (fun c3 M' fe => ?_) (fun M3 c3 i1 i2 i3 i4 T3 f3 e14' e12'' => ?_)⟩
        · rw [if_neg (fun q => c2 ⟨(kin_n.mp q).1, (kin_n.mp q).2.1⟩)] at k
          exact ⟨v - 0, ten B n x, v, 0, 4, M2, A2, rfl, rfl, by decide, c1', Nat.zero_le _, rfl, rfl, fun _ _ _ => rfl, fun _ _ _ => rfl, fun q hq => absurd hq (Nat.not_lt_zero q), k⟩
        · simp only [wq_g3, wq_gc, wq_g, wq_g1, wq_g2, eM_readBars, iM_readBars_0, iM_readBars_12, iM_readBars_43, iM_readBars_67, iM_readBars_72, iM_readBars_75, iM_readBars_112, vM_readBars, wps, x_cnd, reduceIte, Nat.reduceAdd, Nat.reduceSub, Nat.reduceEqDiff, Nat.reduceLeDiff, Nat.lt_irrefl, Nat.reduceLT, Int.cast_ofNat_Int, wq_c0, wq_c1, true_and, and_true, and_self, true_implies, forall_const, ne_eq, Decidable.not_not, not_true_eq_false, not_false_eq_true, List.map_nil, List.map_cons, List.sum_nil, List.sum_cons, List.length_cons, List.length_nil, Nat.le_refl, Nat.zero_le, reduceCtorEq, true_or, or_true, false_or, or_false, false_and, and_false, false_implies, Nat.zero_add, Nat.add_zero, Int.reduceEq, Int.reduceNe, Int.reduceLT, Int.reduceLE, Int.reduceNeg, Int.reduceToNat, Nat.not_lt_zero, Int.reduceAdd, fxs F]
          have hb := isDg_t.mp c2.2
          by_cases hk : kin B n (ten B n x) true = 2
          · rw [if_pos hk, if_pos c3] at k
            exact k M' fe
          · rw [if_neg hk] at k
            rw [show nuc B n (ten B n x) true 12 = 1 from if_pos hk] at fe
            refine k.2 (fun q => ?_) M' fe
            have h9 : bAt B n (ts B n (ten B n x)) = 59 := kin_3.mp q
            rw [bAt, if_pos c2.1] at h9
            omega
        · have A3 := A2.fr T3 f3
          rw [if_pos i1, if_neg (fun q => q c3)] at k
          simp only [wq_g3, wq_gc, wq_g, wq_g1, wq_g2, eM_readBars, iM_readBars_0, iM_readBars_12, iM_readBars_43, iM_readBars_67, iM_readBars_72, iM_readBars_75, iM_readBars_112, vM_readBars, wps, x_cnd, reduceIte, Nat.reduceAdd, Nat.reduceSub, Nat.reduceEqDiff, Nat.reduceLeDiff, Nat.lt_irrefl, Nat.reduceLT, Int.cast_ofNat_Int, wq_c0, wq_c1, true_and, and_true, and_self, true_implies, forall_const, ne_eq, Decidable.not_not, not_true_eq_false, not_false_eq_true, List.map_nil, List.map_cons, List.sum_nil, List.sum_cons, List.length_cons, List.length_nil, Nat.le_refl, Nat.zero_le, reduceCtorEq, true_or, or_true, false_or, or_false, false_and, and_false, false_implies, Nat.zero_add, Nat.add_zero, Int.reduceEq, Int.reduceNe, Int.reduceLT, Int.reduceLE, Int.reduceNeg, Int.reduceToNat, Nat.not_lt_zero, Int.reduceAdd, fxs F, e14']
          exact ⟨v - 0, ten B n (ten B n x), v, 0, tnv B n (ten B n x), M3, A3, rfl, rfl, ⟨i2, i3⟩, c1', Nat.zero_le _, rfl, rfl, fun _ _ _ => rfl, fun _ _ _ => rfl, fun q hq => absurd hq (Nat.not_lt_zero q), k⟩
      · rw [if_pos (by omega)] at k
        simp only [wq_g3, wq_gc, wq_g, wq_g1, wq_g2, eM_readBars, iM_readBars_0, iM_readBars_12, iM_readBars_43, iM_readBars_67, iM_readBars_72, iM_readBars_75, iM_readBars_112, vM_readBars, wps, x_cnd, reduceIte, Nat.reduceAdd, Nat.reduceSub, Nat.reduceEqDiff, Nat.reduceLeDiff, Nat.lt_irrefl, Nat.reduceLT, Int.cast_ofNat_Int, wq_c0, wq_c1, true_and, and_true, and_self, true_implies, forall_const, ne_eq, Decidable.not_not, not_true_eq_false, not_false_eq_true, List.map_nil, List.map_cons, List.sum_nil, List.sum_cons, List.length_cons, List.length_nil, Nat.le_refl, Nat.zero_le, reduceCtorEq, true_or, or_true, false_or, or_false, false_and, and_false, false_implies, Nat.zero_add, Nat.add_zero, Int.reduceEq, Int.reduceNe, Int.reduceLT, Int.reduceLE, Int.reduceNeg, Int.reduceToNat, Nat.not_lt_zero, Int.reduceAdd, fxs F]
        exact k M' fe
  · rintro t m ls st M2 h' c n2 ⟨rfl, rfl, rfl, rfl, rfl, l0, y, v, p, b, M1, A1, l1, l2, l3, hb, hc, hp, hm, l4, e, f, g, k1⟩
    simp only [wq_g3, wq_gc, wq_g, wq_g1, wq_g2, eM_readBars, iM_readBars_0, iM_readBars_12, iM_readBars_43, iM_readBars_67, iM_readBars_72, iM_readBars_75, iM_readBars_112, vM_readBars, wps, x_cnd, reduceIte, Nat.reduceAdd, Nat.reduceSub, Nat.reduceEqDiff, Nat.reduceLeDiff, Nat.lt_irrefl, Nat.reduceLT, Int.cast_ofNat_Int, wq_c0, wq_c1, true_and, and_true, and_self, true_implies, forall_const, ne_eq, Decidable.not_not, not_true_eq_false, not_false_eq_true, List.map_nil, List.map_cons, List.sum_nil, List.sum_cons, List.length_cons, List.length_nil, Nat.le_refl, Nat.zero_le, reduceCtorEq, true_or, or_true, false_or, or_false, false_and, and_false, false_implies, Nat.zero_add, Nat.add_zero, Int.reduceEq, Int.reduceNe, Int.reduceLT, Int.reduceLE, Int.reduceNeg, Int.reduceToNat, Nat.not_lt_zero, Int.reduceAdd, fxs F, l0, l1, l2, l3, l4]
    simp (disch := omega) only [w32_of]
    refine ⟨fun c0 => ?_, fun c0 => ⟨by omega, by omega, ?_⟩⟩
    · have hpv : p = v := by omega
      subst hpv
      refine k1.1 _ (A1.upd (fun a j h1 h2 h3 => (w_ne h2).trans (e a j h2)) (SG.add A1.G A1.W.2.1 hc w_eq (fun q hq => ?_) (fun j h1 h2 h3 => (w_nj h1).trans (f j h2 h3))) ?_ ?_ (fun q hq => ?_) (wfR_add A1.W hc hb))
      · rw [w_nj (by omega), w_nj (by omega)]
        exact g q hq
      · rw [w_ne (by decide), e 41 18 (by decide)]
        exact A1.2.2.2.1.1
      · rw [w_ne (by decide), e 41 19 (by decide)]
        exact A1.2.2.2.1.2
      · rw [w_ne (by decide), e 45 q (by decide)]
        exact A1.2.2.2.2.1 q hq
    · refine ⟨v - (p + 1), by omega, y, v, p + 1, b, M1, A1, rfl, rfl, hb, hc, by omega, rfl, congrArg (fun z => some (xI z)) (by omega), fun a j ha => by rw [w_ne ha, w_ne ha]; exact e a j ha, fun j h1 h2 => by rw [w_nj (by omega), w_nj (by omega)]; exact f j h1 h2, fun q hq => ?_, k1⟩
      by_cases hqp : q = p
      · subst hqp
        rw [w_nj (by omega), show (4 : Int) + sN (rS R) + q = 4 + ((sN (rS R) + q : Nat) : Int) by omega, show (154 : Int) + sN (rS R) + q = 154 + ((sN (rS R) + q : Nat) : Int) by omega, w_eq, w_eq]
        exact ⟨by omega, rfl⟩
      · rw [w_nj (by omega), w_nj (by omega), w_nj (by omega), w_nj (by omega)]
        exact g q (by omega)
end MSTB
