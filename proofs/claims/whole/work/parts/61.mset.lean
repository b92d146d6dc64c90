/-! the model's changes: bars and contents -/
section MSET
variable {A : xAb} {M M' : xM} {h : xH} {Φ : xO → xM → xH → Prop} {S : xSr} {nid : Int}
set_option maxHeartbeats 1000000
theorem MP.chg {S' S0 : xSr} {n : Int} (P : MP (aKeep A S0 n) M h) (G : SG S' (M 42)) (w : wfS S' n) : MW (aKeep A S' n) M h := ⟨P.1, G, w, P.2⟩
theorem MP.w42 {j v : Int} (P : MP A M h) : MP A (x_w M 42 j v) h := P.frame (fun a i ha => w_ne (by omega)) (fun i hi => w_ne (by omega))
theorem SG.at' {f f' : Int → Int} {S' : xSr} (G : SG S f) (hN : sN S ≤ 150) (s1 : sN S' = sN S) (s2 : sP S' = sP S) (s3 : sI S' = sI S) (s4 : sM S' = sM S) (s5 : sF S' = sF S) (s6 : sL S' = sL S) (s7 : sQ S' = sQ S) (s8 : sR S' = sR S) (hw : ∀ q : Nat, q < sN S → f' (154 + q) = pkw S' q) (hf : ∀ k : Int, ¬ (154 ≤ k ∧ k < 304) → f' k = f k) : SG S' f' := by
  obtain ⟨⟨a1, a2, a3, a4⟩, b, c, d, n⟩ := G
  have hh : hasC S' = hasC S := by unfold hasC; rw [s5]
  unfold SG
  rw [s1, s2, s3, s4, s5, s6, s7, s8, hh]
  refine ⟨⟨(hf 0 (by omega)).trans a1, (hf 1 (by omega)).trans a2, (hf 2 (by omega)).trans a3, (hf 3 (by omega)).trans a4⟩, fun p hp => ⟨(hf _ (by omega)).trans (b p hp).1, hw p hp⟩, fun c' hc hne => ⟨(hf _ (by omega)).trans (c c' hc hne).1, (hf _ (by omega)).trans (c c' hc hne).2⟩, fun l h1 h2 => (hf _ (by omega)).trans (d l h1 h2), fun part h6 hq => ?_⟩
  obtain ⟨K, k1, k2, k3, k4⟩ := n part h6 hq
  refine ⟨K, k1, (hf _ (by omega)).trans k2, fun k hk => ?_, fun id hid => ?_⟩
  · rw [hf _ (by omega), hf _ (by omega)]
    exact k3 k hk
  · obtain ⟨k, hk, hk2⟩ := k4 id hid
    exact ⟨k, hk, (hf _ (by omega)).trans hk2⟩
theorem pkw_con (w : wfS S nid) {p part : Nat} {v : Int} (hp : p < sN S) (h6 : part < 6) (hv : 0 ≤ v ∧ v ≤ 2) : x_or (x_and (pkw S p) (x_xor (x_shl 3 (8 + 2 * (part : Int))) (-1))) (x_shl v (8 + 2 * (part : Int))) = pkw (contS S part p v) p := by
  have hr := pkw_r w hp
  have hc := pkw_c w hp h6
  have hcr := w.c hp h6
  obtain ⟨a, ha⟩ : ∃ a : Nat, pkw S p = a := ⟨(pkw S p).toNat, by omega⟩
  obtain ⟨u, rfl⟩ : ∃ u : Nat, v = u := ⟨v.toNat, by omega⟩
  have hs := set_fld (a := a) (s := 8 + 2 * part) (w := 2) (v := u) (by omega) (by omega) (by
    have : 2 ^ (8 + 2 * part) ≤ 2 ^ 18 := Nat.pow_le_pow_right (by decide) (by omega)
    omega) (by omega)
  rw [show ((2 ^ 2 - 1 : Nat) : Int) = 3 from rfl, show ((8 + 2 * part : Nat) : Int) = 8 + 2 * (part : Int) by omega] at hs
  rw [ha, hs]
  rw [ha] at hc hr
  have hpt : part = 0 ∨ part = 1 ∨ part = 2 ∨ part = 3 ∨ part = 4 ∨ part = 5 := by omega
  have e : ∀ k : Int, sC (contS S part p u) k p = if k = part then (u : Int) else sC S k p := fun k => by
    show (if k = part then up p u (sC S k) else sC S k) p = _
    by_cases hk : k = part
    · rw [if_pos hk, if_pos hk, up_1]
    · rw [if_neg hk, if_neg hk]
  unfold pkw
  rw [e 0, e 1, e 2, e 3, e 4, e 5]
  unfold pkw at ha
  show _ = sB S p + 16 * sX S p + 32 * sT S p + 64 * sD S p + 256 * _ + 1024 * _ + 4096 * _ + 16384 * _ + 65536 * _ + 262144 * _
  rcases hpt with rfl | rfl | rfl | rfl | rfl | rfl
  · simp only [Int.natCast_zero, if_true] at hc hcr ⊢
    rw [if_neg (by decide), if_neg (by decide), if_neg (by decide), if_neg (by decide), if_neg (by decide)]
    omega
  · simp only [Int.natCast_one, if_true] at hc hcr ⊢
    rw [if_neg (by decide), if_neg (by decide), if_neg (by decide), if_neg (by decide), if_neg (by decide)]
    omega
  · simp only [Int.cast_ofNat_Int, if_true] at hc hcr ⊢
    rw [if_neg (by decide), if_neg (by decide), if_neg (by decide), if_neg (by decide), if_neg (by decide)]
    omega
  · simp only [Int.cast_ofNat_Int, if_true] at hc hcr ⊢
    rw [if_neg (by decide), if_neg (by decide), if_neg (by decide), if_neg (by decide), if_neg (by decide)]
    omega
  · simp only [Int.cast_ofNat_Int, if_true] at hc hcr ⊢
    rw [if_neg (by decide), if_neg (by decide), if_neg (by decide), if_neg (by decide), if_neg (by decide)]
    omega
  · simp only [Int.cast_ofNat_Int, if_true] at hc hcr ⊢
    rw [if_neg (by decide), if_neg (by decide), if_neg (by decide), if_neg (by decide), if_neg (by decide)]
    omega
theorem pkw_con_o {p part q : Int} {v : Int} (h : q ≠ p) : pkw (contS S part p v) q = pkw S q := by
  have e : ∀ k : Int, sC (contS S part p v) k q = sC S k q := fun k => by
    show (if k = part then up p v (sC S k) else sC S k) q = _
    split
    · exact up_2 h
    · rfl
  unfold pkw
  rw [e 0, e 1, e 2, e 3, e 4, e 5]
  rfl
theorem cM_withContent (w : wfS S nid) {p part : Nat} {v : Int} (hp : p < sN S) (h6 : part < 6) (hv : 0 ≤ v ∧ v ≤ 2) (k : Φ (.inl (some (xI (pkw (contS S part p v) p)))) M h) : x_Cal zM_withContent [xI (pkw S p), xI part, xI v] M h Φ := by
  refine x_met0 kM_withContent (Nat.le_of_ble_eq_true rfl) ?_
  simp only [wq_g3, wq_gc, wq_g, wq_g1, wq_g2, eM_withContent, iM_withContent_0, vM_withContent, wps, x_cnd, reduceIte, Nat.reduceAdd, Nat.reduceSub, Nat.reduceEqDiff, Nat.reduceLeDiff, Nat.lt_irrefl, Nat.reduceLT, Int.cast_ofNat_Int, wq_c0, wq_c1, true_and, and_true, and_self, true_implies, forall_const, ne_eq, Decidable.not_not, not_true_eq_false, not_false_eq_true, List.map_nil, List.map_cons, List.sum_nil, List.sum_cons, List.length_cons, List.length_nil, Nat.le_refl, Nat.zero_le, reduceCtorEq, true_or, or_true, false_or, or_false, false_and, and_false, false_implies, Nat.zero_add, Nat.add_zero, Int.reduceEq, Int.reduceNe, Int.reduceLT, Int.reduceLE, Int.reduceNeg, Int.reduceToNat, Nat.not_lt_zero, Int.reduceAdd]
  simp (disch := omega) only [w32_of]
  rw [pkw_con w hp h6 hv]
  exact k
theorem cM_setContent (W : MW A M h) {part b v : Int} (k : ∀ u M', MW (dCon A part b v).2 M' h → FM M M' → MA (xk [2, 1]) (dCon A part b v).1 u M' → Φ (.inl (some (xI u))) M' h) : x_Cal zM_setContent [xA 41, xI part, xI b, xI v] M h Φ := by
  have F := W.F
  have hP := W.w.P
  have hN := W.w.N
  have bad : ∀ e t, dCon A part b v = (.inr e, A) → xk [2, 1] e = t → Φ (.inl (some (xI 0))) (x_w M 41 0 t) h := fun e t he ht => k _ _ (by rw [he]; exact W.thr) (FM.r.w (by decide)) (ma_e w_eq (by rw [he]) ht)
  unfold dCon at bad k
  refine x_met0 kM_setContent (Nat.le_of_ble_eq_true rfl) ?_
  simp only [wq_g3, wq_gc, wq_g, wq_g1, wq_g2, eM_setContent, iM_setContent_0, iM_setContent_17, iM_setContent_21, iM_setContent_34, iM_setContent_35, iM_setContent_43, vM_setContent, wps, x_cnd, reduceIte, Nat.reduceAdd, Nat.reduceSub, Nat.reduceEqDiff, Nat.reduceLeDiff, Nat.lt_irrefl, Nat.reduceLT, Int.cast_ofNat_Int, wq_c0, wq_c1, true_and, and_true, and_self, true_implies, forall_const, ne_eq, Decidable.not_not, not_true_eq_false, not_false_eq_true, List.map_nil, List.map_cons, List.sum_nil, List.sum_cons, List.length_cons, List.length_nil, Nat.le_refl, Nat.zero_le, reduceCtorEq, true_or, or_true, false_or, or_false, false_and, and_false, false_implies, Nat.zero_add, Nat.add_zero, Int.reduceEq, Int.reduceNe, Int.reduceLT, Int.reduceLE, Int.reduceNeg, Int.reduceToNat, Nat.not_lt_zero, Int.reduceAdd, fxs F]
  refine cM_isPart F W.G W.w ?_
  simp only [wq_g3, wq_gc, wq_g, wq_g1, wq_g2, eM_setContent, iM_setContent_0, iM_setContent_17, iM_setContent_21, iM_setContent_34, iM_setContent_35, iM_setContent_43, vM_setContent, wps, x_cnd, reduceIte, Nat.reduceAdd, Nat.reduceSub, Nat.reduceEqDiff, Nat.reduceLeDiff, Nat.lt_irrefl, Nat.reduceLT, Int.cast_ofNat_Int, wq_c0, wq_c1, true_and, and_true, and_self, true_implies, forall_const, ne_eq, Decidable.not_not, not_true_eq_false, not_false_eq_true, List.map_nil, List.map_cons, List.sum_nil, List.sum_cons, List.length_cons, List.length_nil, Nat.le_refl, Nat.zero_le, reduceCtorEq, true_or, or_true, false_or, or_false, false_and, and_false, false_implies, Nat.zero_add, Nat.add_zero, Int.reduceEq, Int.reduceNe, Int.reduceLT, Int.reduceLE, Int.reduceNeg, Int.reduceToNat, Nat.not_lt_zero, Int.reduceAdd, fxs F, b01_0]
  refine ⟨fun c0 => cM_ref1 F (by decide) ?_, fun c0 => cM_isBar F W.G W.w ?_⟩
  · simp only [wq_g3, wq_gc, wq_g, wq_g1, wq_g2, eM_setContent, iM_setContent_0, iM_setContent_17, iM_setContent_21, iM_setContent_34, iM_setContent_35, iM_setContent_43, vM_setContent, wps, x_cnd, reduceIte, Nat.reduceAdd, Nat.reduceSub, Nat.reduceEqDiff, Nat.reduceLeDiff, Nat.lt_irrefl, Nat.reduceLT, Int.cast_ofNat_Int, wq_c0, wq_c1, true_and, and_true, and_self, true_implies, forall_const, ne_eq, Decidable.not_not, not_true_eq_false, not_false_eq_true, List.map_nil, List.map_cons, List.sum_nil, List.sum_cons, List.length_cons, List.length_nil, Nat.le_refl, Nat.zero_le, reduceCtorEq, true_or, or_true, false_or, or_false, false_and, and_false, false_implies, Nat.zero_add, Nat.add_zero, Int.reduceEq, Int.reduceNe, Int.reduceLT, Int.reduceLE, Int.reduceNeg, Int.reduceToNat, Nat.not_lt_zero, Int.reduceAdd, fxs F]
    exact bad 2 1 (if_pos c0) rfl
  simp only [wq_g3, wq_gc, wq_g, wq_g1, wq_g2, eM_setContent, iM_setContent_0, iM_setContent_17, iM_setContent_21, iM_setContent_34, iM_setContent_35, iM_setContent_43, vM_setContent, wps, x_cnd, reduceIte, Nat.reduceAdd, Nat.reduceSub, Nat.reduceEqDiff, Nat.reduceLeDiff, Nat.lt_irrefl, Nat.reduceLT, Int.cast_ofNat_Int, wq_c0, wq_c1, true_and, and_true, and_self, true_implies, forall_const, ne_eq, Decidable.not_not, not_true_eq_false, not_false_eq_true, List.map_nil, List.map_cons, List.sum_nil, List.sum_cons, List.length_cons, List.length_nil, Nat.le_refl, Nat.zero_le, reduceCtorEq, true_or, or_true, false_or, or_false, false_and, and_false, false_implies, Nat.zero_add, Nat.add_zero, Int.reduceEq, Int.reduceNe, Int.reduceLT, Int.reduceLE, Int.reduceNeg, Int.reduceToNat, Nat.not_lt_zero, Int.reduceAdd, fxs F, b01_0]
  refine ⟨fun c1 => cM_in ?_, fun c1 => cM_ref1 F (by decide) ?_⟩
  · simp only [wq_g3, wq_gc, wq_g, wq_g1, wq_g2, eM_setContent, iM_setContent_0, iM_setContent_17, iM_setContent_21, iM_setContent_34, iM_setContent_35, iM_setContent_43, vM_setContent, wps, x_cnd, reduceIte, Nat.reduceAdd, Nat.reduceSub, Nat.reduceEqDiff, Nat.reduceLeDiff, Nat.lt_irrefl, Nat.reduceLT, Int.cast_ofNat_Int, wq_c0, wq_c1, true_and, and_true, and_self, true_implies, forall_const, ne_eq, Decidable.not_not, not_true_eq_false, not_false_eq_true, List.map_nil, List.map_cons, List.sum_nil, List.sum_cons, List.length_cons, List.length_nil, Nat.le_refl, Nat.zero_le, reduceCtorEq, true_or, or_true, false_or, or_false, false_and, and_false, false_implies, Nat.zero_add, Nat.add_zero, Int.reduceEq, Int.reduceNe, Int.reduceLT, Int.reduceLE, Int.reduceNeg, Int.reduceToNat, Nat.not_lt_zero, Int.reduceAdd, fxs F, b01_0]
    refine ⟨fun c2 => cM_ref0 F ?_, fun c2 => cM_ref1 F (by decide) ?_⟩
    · simp only [wq_g3, wq_gc, wq_g, wq_g1, wq_g2, eM_setContent, iM_setContent_0, iM_setContent_17, iM_setContent_21, iM_setContent_34, iM_setContent_35, iM_setContent_43, vM_setContent, wps, x_cnd, reduceIte, Nat.reduceAdd, Nat.reduceSub, Nat.reduceEqDiff, Nat.reduceLeDiff, Nat.lt_irrefl, Nat.reduceLT, Int.cast_ofNat_Int, wq_c0, wq_c1, true_and, and_true, and_self, true_implies, forall_const, ne_eq, Decidable.not_not, not_true_eq_false, not_false_eq_true, List.map_nil, List.map_cons, List.sum_nil, List.sum_cons, List.length_cons, List.length_nil, Nat.le_refl, Nat.zero_le, reduceCtorEq, true_or, or_true, false_or, or_false, false_and, and_false, false_implies, Nat.zero_add, Nat.add_zero, Int.reduceEq, Int.reduceNe, Int.reduceLT, Int.reduceLE, Int.reduceNeg, Int.reduceToNat, Nat.not_lt_zero, Int.reduceAdd, fxs F]
      obtain ⟨p, p1, p2, p3⟩ := pl_some c1
      obtain ⟨q, rfl⟩ : ∃ q : Nat, part = q := ⟨part.toNat, by omega⟩
      have h6 : q < 6 := by omega
      rw [if_neg (fun z => z c0), if_neg c1, if_neg (fun z => z c2), p2] at k
      refine cM_remembers W.thr (fun M2 P2 f2 => ?_)
      have e42 : M2 42 = M 42 := funext (fun j => (f2 42 j (by decide) (by omega)).trans (w_ne (by decide)))
      have G2 : SG (aS A) (M2 42) := by rw [e42]; exact W.G
      simp only [wq_g3, wq_gc, wq_g, wq_g1, wq_g2, eM_setContent, iM_setContent_0, iM_setContent_17, iM_setContent_21, iM_setContent_34, iM_setContent_35, iM_setContent_43, vM_setContent, wps, x_cnd, reduceIte, Nat.reduceAdd, Nat.reduceSub, Nat.reduceEqDiff, Nat.reduceLeDiff, Nat.lt_irrefl, Nat.reduceLT, Int.cast_ofNat_Int, wq_c0, wq_c1, true_and, and_true, and_self, true_implies, forall_const, ne_eq, Decidable.not_not, not_true_eq_false, not_false_eq_true, List.map_nil, List.map_cons, List.sum_nil, List.sum_cons, List.length_cons, List.length_nil, Nat.le_refl, Nat.zero_le, reduceCtorEq, true_or, or_true, false_or, or_false, false_and, and_false, false_implies, Nat.zero_add, Nat.add_zero, Int.reduceEq, Int.reduceNe, Int.reduceLT, Int.reduceLE, Int.reduceNeg, Int.reduceToNat, Nat.not_lt_zero, Int.reduceAdd, fxs F]
      refine cM_placeOf F G2 W.w ?_
      rw [p2]
      simp only [wq_g3, wq_gc, wq_g, wq_g1, wq_g2, eM_setContent, iM_setContent_0, iM_setContent_17, iM_setContent_21, iM_setContent_34, iM_setContent_35, iM_setContent_43, vM_setContent, wps, x_cnd, reduceIte, Nat.reduceAdd, Nat.reduceSub, Nat.reduceEqDiff, Nat.reduceLeDiff, Nat.lt_irrefl, Nat.reduceLT, Int.cast_ofNat_Int, wq_c0, wq_c1, true_and, and_true, and_self, true_implies, forall_const, ne_eq, Decidable.not_not, not_true_eq_false, not_false_eq_true, List.map_nil, List.map_cons, List.sum_nil, List.sum_cons, List.length_cons, List.length_nil, Nat.le_refl, Nat.zero_le, reduceCtorEq, true_or, or_true, false_or, or_false, false_and, and_false, false_implies, Nat.zero_add, Nat.add_zero, Int.reduceEq, Int.reduceNe, Int.reduceLT, Int.reduceLE, Int.reduceNeg, Int.reduceToNat, Nat.not_lt_zero, Int.reduceAdd, fxs F]
      rw [w32_of (by omega), G2.w p1]
      refine ⟨by omega, cM_contentIn W.w p1 h6 ?_⟩
      simp only [wq_g3, wq_gc, wq_g, wq_g1, wq_g2, eM_setContent, iM_setContent_0, iM_setContent_17, iM_setContent_21, iM_setContent_34, iM_setContent_35, iM_setContent_43, vM_setContent, wps, x_cnd, reduceIte, Nat.reduceAdd, Nat.reduceSub, Nat.reduceEqDiff, Nat.reduceLeDiff, Nat.lt_irrefl, Nat.reduceLT, Int.cast_ofNat_Int, wq_c0, wq_c1, true_and, and_true, and_self, true_implies, forall_const, ne_eq, Decidable.not_not, not_true_eq_false, not_false_eq_true, List.map_nil, List.map_cons, List.sum_nil, List.sum_cons, List.length_cons, List.length_nil, Nat.le_refl, Nat.zero_le, reduceCtorEq, true_or, or_true, false_or, or_false, false_and, and_false, false_implies, Nat.zero_add, Nat.add_zero, Int.reduceEq, Int.reduceNe, Int.reduceLT, Int.reduceLE, Int.reduceNeg, Int.reduceToNat, Nat.not_lt_zero, Int.reduceAdd, fxs F]
      rw [G2.w p1]
      refine ⟨by omega, cM_withContent W.w p1 h6 c2 ?_⟩
      simp only [wq_g3, wq_gc, wq_g, wq_g1, wq_g2, eM_setContent, iM_setContent_0, iM_setContent_17, iM_setContent_21, iM_setContent_34, iM_setContent_35, iM_setContent_43, vM_setContent, wps, x_cnd, reduceIte, Nat.reduceAdd, Nat.reduceSub, Nat.reduceEqDiff, Nat.reduceLeDiff, Nat.lt_irrefl, Nat.reduceLT, Int.cast_ofNat_Int, wq_c0, wq_c1, true_and, and_true, and_self, true_implies, forall_const, ne_eq, Decidable.not_not, not_true_eq_false, not_false_eq_true, List.map_nil, List.map_cons, List.sum_nil, List.sum_cons, List.length_cons, List.length_nil, Nat.le_refl, Nat.zero_le, reduceCtorEq, true_or, or_true, false_or, or_false, false_and, and_false, false_implies, Nat.zero_add, Nat.add_zero, Int.reduceEq, Int.reduceNe, Int.reduceLT, Int.reduceLE, Int.reduceNeg, Int.reduceToNat, Nat.not_lt_zero, Int.reduceAdd, fxs F]
      refine ⟨by omega, k _ _ ((P2.w42).chg (G2.at' hN rfl rfl rfl rfl rfl rfl rfl rfl (fun r hr => ?_) (fun j hj => w_nj (by omega))) (W.w.contS c2)) (fun a j ha => ?_) (ma_v ?_ rfl)⟩
      · show x_w M2 42 (154 + p) (pkw (contS (aS A) q p v) p) 42 (154 + r) = _
        by_cases hrp : r = p
        · subst hrp
          exact w_eq
        · rw [w_nj (by omega), G2.w hr, pkw_con_o (by omega)]
      · rw [w_ne (by omega), f2 a j (by omega) (by omega), w_ne (by omega)]
      · rw [w_ne (by decide), f2 41 0 (by decide) (by decide), w_eq]
    · simp only [wq_g3, wq_gc, wq_g, wq_g1, wq_g2, eM_setContent, iM_setContent_0, iM_setContent_17, iM_setContent_21, iM_setContent_34, iM_setContent_35, iM_setContent_43, vM_setContent, wps, x_cnd, reduceIte, Nat.reduceAdd, Nat.reduceSub, Nat.reduceEqDiff, Nat.reduceLeDiff, Nat.lt_irrefl, Nat.reduceLT, Int.cast_ofNat_Int, wq_c0, wq_c1, true_and, and_true, and_self, true_implies, forall_const, ne_eq, Decidable.not_not, not_true_eq_false, not_false_eq_true, List.map_nil, List.map_cons, List.sum_nil, List.sum_cons, List.length_cons, List.length_nil, Nat.le_refl, Nat.zero_le, reduceCtorEq, true_or, or_true, false_or, or_false, false_and, and_false, false_implies, Nat.zero_add, Nat.add_zero, Int.reduceEq, Int.reduceNe, Int.reduceLT, Int.reduceLE, Int.reduceNeg, Int.reduceToNat, Nat.not_lt_zero, Int.reduceAdd, fxs F]
      exact bad 1 2 (by rw [if_neg (fun z => z c0), if_neg c1, if_pos c2]) rfl
  · simp only [wq_g3, wq_gc, wq_g, wq_g1, wq_g2, eM_setContent, iM_setContent_0, iM_setContent_17, iM_setContent_21, iM_setContent_34, iM_setContent_35, iM_setContent_43, vM_setContent, wps, x_cnd, reduceIte, Nat.reduceAdd, Nat.reduceSub, Nat.reduceEqDiff, Nat.reduceLeDiff, Nat.lt_irrefl, Nat.reduceLT, Int.cast_ofNat_Int, wq_c0, wq_c1, true_and, and_true, and_self, true_implies, forall_const, ne_eq, Decidable.not_not, not_true_eq_false, not_false_eq_true, List.map_nil, List.map_cons, List.sum_nil, List.sum_cons, List.length_cons, List.length_nil, Nat.le_refl, Nat.zero_le, reduceCtorEq, true_or, or_true, false_or, or_false, false_and, and_false, false_implies, Nat.zero_add, Nat.add_zero, Int.reduceEq, Int.reduceNe, Int.reduceLT, Int.reduceLE, Int.reduceNeg, Int.reduceToNat, Nat.not_lt_zero, Int.reduceAdd, fxs F]
    exact bad 2 1 (by rw [if_neg (fun z => z c0), if_pos c1]) rfl
end MSET
