/-! print -/
section PRN
variable {A : xAb} {M : xM} {h : xH} {Φ : xO → xM → xH → Prop} {S : xSr} {nid : Int}
set_option maxHeartbeats 1000000
theorem stt_pr {n : Nat} {part : Int} : stt (prS S n) part = stt S part := by
  funext k
  have e : rsn (prS S n) k = rsn S k := by
    rw [← vk_rsn (S := prS S n), show vk (prS S n) = vk S from rfl, vk_rsn]
  have e2 : ∀ j, pp (prS S n) j = pp S j := fun _ => rfl
  have e3 : sC (prS S n) part = sC S part := rfl
  unfold stt
  rw [e, e2, e2, e3]
theorem cP_print (C : CW A M h) {part : Int} (k : ∀ M' h', CW (dPrint A part).2 M' h' → Fr M h M' h' → Φ (xo (dPrint A part).1) M' h') : x_Cal zP_print [xA 1, xI part] M h Φ := by
  have hN := C.w.N
  have hpn := pN_rng (S := aS A)
  unfold dPrint at k
  refine x_met0 kP_print (Nat.le_of_ble_eq_true rfl) ?_
  simp only [wq_g3, wq_gc, wq_g, wq_g1, wq_g2, eP_print, iP_print_0, vP_print, wps, x_cnd, reduceIte, Nat.reduceAdd, Nat.reduceSub, Nat.reduceEqDiff, Nat.reduceLeDiff, Nat.lt_irrefl, Nat.reduceLT, Int.cast_ofNat_Int, wq_c0, wq_c1, true_and, and_true, and_self, true_implies, forall_const, ne_eq, Decidable.not_not, not_true_eq_false, not_false_eq_true, List.map_nil, List.map_cons, List.sum_nil, List.sum_cons, List.length_cons, List.length_nil, Nat.le_refl, Nat.zero_le, reduceCtorEq, true_or, or_true, false_or, or_false, false_and, and_false, false_implies, Nat.zero_add, Nat.add_zero, Int.reduceEq, Int.reduceNe, Int.reduceLT, Int.reduceLE, Int.reduceNeg, Int.reduceToNat, Nat.not_lt_zero, Int.reduceAdd, fxs C.F]
  refine cP_requirePart C (fun c0 => ?_) (fun n h1 h2 h6 => ?_)
  · simp only [wq_g3, wq_gc, wq_g, wq_g1, wq_g2, eP_print, iP_print_0, vP_print, wps, x_cnd, reduceIte, Nat.reduceAdd, Nat.reduceSub, Nat.reduceEqDiff, Nat.reduceLeDiff, Nat.lt_irrefl, Nat.reduceLT, Int.cast_ofNat_Int, wq_c0, wq_c1, true_and, and_true, and_self, true_implies, forall_const, ne_eq, Decidable.not_not, not_true_eq_false, not_false_eq_true, List.map_nil, List.map_cons, List.sum_nil, List.sum_cons, List.length_cons, List.length_nil, Nat.le_refl, Nat.zero_le, reduceCtorEq, true_or, or_true, false_or, or_false, false_and, and_false, false_implies, Nat.zero_add, Nat.add_zero, Int.reduceEq, Int.reduceNe, Int.reduceLT, Int.reduceLE, Int.reduceNeg, Int.reduceToNat, Nat.not_lt_zero, Int.reduceAdd]
    rw [if_neg c0] at k
    exact k M h C ⟨fun _ _ _ _ => rfl, Nat.le_refl _⟩
  subst h1
  rw [if_pos ⟨by omega, by omega⟩] at k
  simp only [wq_g3, wq_gc, wq_g, wq_g1, wq_g2, eP_print, iP_print_0, vP_print, wps, x_cnd, reduceIte, Nat.reduceAdd, Nat.reduceSub, Nat.reduceEqDiff, Nat.reduceLeDiff, Nat.lt_irrefl, Nat.reduceLT, Int.cast_ofNat_Int, wq_c0, wq_c1, true_and, and_true, and_self, true_implies, forall_const, ne_eq, Decidable.not_not, not_true_eq_false, not_false_eq_true, List.map_nil, List.map_cons, List.sum_nil, List.sum_cons, List.length_cons, List.length_nil, Nat.le_refl, Nat.zero_le, reduceCtorEq, true_or, or_true, false_or, or_false, false_and, and_false, false_implies, Nat.zero_add, Nat.add_zero, Int.reduceEq, Int.reduceNe, Int.reduceLT, Int.reduceLE, Int.reduceNeg, Int.reduceToNat, Nat.not_lt_zero, Int.reduceAdd, fxs C.F]
  refine chg_keep C (fun M1 h1 P1 R1 f1 f2 => ?_)
  simp only [wq_g3, wq_gc, wq_g, wq_g1, wq_g2, eP_print, iP_print_0, vP_print, wps, x_cnd, reduceIte, Nat.reduceAdd, Nat.reduceSub, Nat.reduceEqDiff, Nat.reduceLeDiff, Nat.lt_irrefl, Nat.reduceLT, Int.cast_ofNat_Int, wq_c0, wq_c1, true_and, and_true, and_self, true_implies, forall_const, ne_eq, Decidable.not_not, not_true_eq_false, not_false_eq_true, List.map_nil, List.map_cons, List.sum_nil, List.sum_cons, List.length_cons, List.length_nil, Nat.le_refl, Nat.zero_le, reduceCtorEq, true_or, or_true, false_or, or_false, false_and, and_false, false_implies, Nat.zero_add, Nat.add_zero, Int.reduceEq, Int.reduceNe, Int.reduceLT, Int.reduceLE, Int.reduceNeg, Int.reduceToNat, Nat.not_lt_zero, Int.reduceAdd, fxs P1.F]
  have n58 := P1.F.n
  have hz : ∀ a j, a < hn h1 → x_z M1 h1 a j = M1 a j := fun a j ha => by rw [x_z_at, if_neg (by omega)]
  have kN : ∀ a, a < hn h1 → hK (x_new h1 1 0) a = hK h1 a ∧ hL (x_new h1 1 0) a = hL h1 a := fun a ha => ⟨by rw [hK_new, if_neg (by omega)], by rw [hL_new, if_neg (by omega)]⟩
  have pN' : ∀ a i, a < hn h1 → hP (x_new h1 1 0) a i = hP h1 a i := fun a i ha => by rw [hP_new, if_neg (by omega)]
  have F2 : Fx (x_new h1 1 0) := P1.F.keep (fun a ha => kN a (by omega)) (fun a i hf => by
    by_cases ha : a < hn h1
    · exact pN' a i ha
    · exact absurd (fR_big (by omega) i) hf) (by rw [hn_new]; omega)
  have R2 : repC (aS A) (x_z M1 h1) (x_new h1 1 0) 17 := R1.mv kN (by rw [hn_new]; omega) (fun i => pN' _ _ (by omega)) (fun i => pN' _ _ (by omega)) (fun a j z1 z2 => hz a j (by omega)) (fun r r1 r2 r3 => ⟨fun i => pN' _ _ (by omega), fun a j z1 z2 => hz a j (by omega)⟩)
  have V2 : VR (aS A) (x_z M1 h1) := C.V.frame (fun a j ha => by rw [hz a j (by omega), f1 a j (by omega) (by omega)])
  have hk1 : hK (x_new h1 1 0) (hn h1) = 1 := by rw [hK_new, if_pos rfl]
  have hn1 : hn (x_new h1 1 0) = hn h1 + 1 := hn_new _ _ _
  rw [show hP (x_new h1 1 0) 1 1 = 16 by simp only [fxs F2]]
  refine ⟨by decide, by simp only [fxs F2], hk1, by decide, cN_init F2 R2 C.w V2 h6 n58 hn1 hk1 (fun M2 e rN => ?_)⟩
  generalize hh3 : ntH (x_new h1 1 0) (hn h1) = h3 at rN ⊢
  have k3 : ∀ a, a < hn h1 → hK h3 a = hK h1 a ∧ hL h3 a = hL h1 a := fun a ha => by
    rw [← hh3, ntH_K hn1, ntH_L hn1, if_neg (by omega), if_neg (by omega)]
    exact kN a ha
  have p3 : ∀ a i, a < hn h1 → hP h3 a i = hP h1 a i := fun a i ha => by
    rw [← hh3, ntH_P hn1, if_neg (by omega), if_neg (by omega)]
    exact pN' a i ha
  have n3 : hn h3 = hn h1 + 6 := by rw [← hh3, ntH_n hn1]
  have m2 : ∀ a j, a < hn h1 → M2 a j = M1 a j := fun a j ha => (e a j ha).trans (hz a j ha)
  have F3 : Fx h3 := P1.F.keep (fun a ha => k3 a (by omega)) (fun a i hf => by
    by_cases ha : a < hn h1
    · exact p3 a i ha
    · exact absurd (fR_big (by omega) i) hf) (by omega)
  have hkr : hK h3 (hn h1) = 1 := rN.1.1.1.1.1.1
  have V3 : VR (aS A) M2 := C.V.frame (fun a j ha => by rw [m2 a j (by omega), f1 a j (by omega) (by omega)])
  simp only [wq_g3, wq_gc, wq_g, wq_g1, wq_g2, eP_print, iP_print_0, vP_print, wps, x_cnd, reduceIte, Nat.reduceAdd, Nat.reduceSub, Nat.reduceEqDiff, Nat.reduceLeDiff, Nat.lt_irrefl, Nat.reduceLT, Int.cast_ofNat_Int, wq_c0, wq_c1, true_and, and_true, and_self, true_implies, forall_const, ne_eq, Decidable.not_not, not_true_eq_false, not_false_eq_true, List.map_nil, List.map_cons, List.sum_nil, List.sum_cons, List.length_cons, List.length_nil, Nat.le_refl, Nat.zero_le, reduceCtorEq, true_or, or_true, false_or, or_false, false_and, and_false, false_implies, Nat.zero_add, Nat.add_zero, Int.reduceEq, Int.reduceNe, Int.reduceLT, Int.reduceLE, Int.reduceNeg, Int.reduceToNat, Nat.not_lt_zero, Int.reduceAdd, fxs F3, hkr]
  generalize hh4 : x_pw h3 27 n (hn h1) = h4
  have k4 : ∀ a, hK h4 a = hK h3 a ∧ hL h4 a = hL h3 a := fun a => ⟨by rw [← hh4, hK_pw], by rw [← hh4, hL_pw]⟩
  have p4 : ∀ a i, ¬ (a = 27 ∧ i = (n : Int)) → hP h4 a i = hP h3 a i := fun a i hne => by rw [← hh4, hP_pw, if_neg hne]
  have q4 : hP h4 27 n = hn h1 := by rw [← hh4, hP_pw, if_pos ⟨rfl, rfl⟩]
  have n4 : hn h4 = hn h3 := by rw [← hh4, hn_pw]
  have F4 : Fx h4 := F3.keep (fun a _ => k4 a) (fun a i hf => p4 a i (fun q => by
    rw [q.1, q.2] at hf
    exact absurd (fR27 n (by omega) (by omega)) hf)) (by omega)
  have rN4 : repN (ntS (aS A) n) M2 h4 (hn h1) := rN.mv (fun a _ _ => k4 a) (fun i => p4 _ _ (by omega)) (by omega) (fun _ _ _ _ => rfl)
  have R4 : repC (prS (aS A) n) M2 h4 17 := by
    have R3 : repC (aS A) M2 h3 17 := R1.mv k3 (by omega) (fun i => p3 _ _ (by omega)) (fun i => p3 _ _ (by omega)) (fun a j z1 z2 => m2 a j (by omega)) (fun r r1 r2 r3 => ⟨fun i => p3 _ _ (by omega), fun a j z1 z2 => m2 a j (by omega)⟩)
    obtain ⟨⟨a1, a2, a3⟩, b1, c1, d1, e1, g1⟩ := R3
    refine ⟨⟨a1.mv (fun a _ _ => k4 a) (fun i => p4 _ _ (by omega)), a2, by omega⟩, b1, c1, d1, e1, fun q hq => ?_⟩
    show (up n 1 (sQ (aS A)) q = 0 ∧ hP h4 27 q = 0) ∨ (up n 1 (sQ (aS A)) q = 1 ∧ repN (if (q : Int) = n then ntS (aS A) n else sR (aS A) q) M2 h4 (hP h4 27 q))
    by_cases hqn : q = n
    · subst hqn
      rw [up_1, q4, if_pos rfl]
      exact Or.inr ⟨rfl, rN4⟩
    · rw [up_2 (by omega), if_neg (by omega), p4 _ _ (by omega)]
      rcases g1 q hq with z | ⟨z1, z2⟩
      · exact Or.inl z
      · exact Or.inr ⟨z1, z2.mv (fun a _ _ => k4 a) (fun i => p4 _ _ (by have := z2.1.2.1; omega)) (by omega) (fun _ _ _ _ => rfl)⟩
  have w4 := C.w.prS (part := n) h6
  have V4 : VR (prS (aS A) n) M2 := V3.prS
  obtain ⟨c1, c2, c3, ⟨r4, r5, r6, r7⟩, o1, o2, o3⟩ := P1
  have C4 : CW (aKeep A (prS (aS A) n) (aI A)) M2 h4 := by
    refine ⟨F4, R4, w4, V4, c2.mv (Int.le_refl _) (by omega) (fun a ha => by rw [(k4 a).1, (k4 a).2]; exact k3 a ha) (by omega) (fun a i ha h2 => ?_) (fun a j ha _ => m2 a j ha), ?_, ⟨?_, ?_, fun i hi => ?_, fun i => ?_⟩, ?_, o2, fun i hi => ?_⟩
    · rw [p4 _ _ (by omega)]
      exact p3 a i ha
    · rw [m2 _ _ (by omega)]
      exact c3
    · rw [m2 _ _ (by omega)]
      exact r4
    · rw [m2 _ _ (by omega), m2 _ _ (by omega)]
      exact r5
    · rw [m2 _ _ (by omega)]
      exact r6 i hi
    · rw [p4 _ _ (by omega), p3 _ _ (by omega)]
      exact r7 i
    · rw [m2 _ _ (by omega)]
      exact o1
    · rw [m2 _ _ (by omega)]
      exact o3 i hi
  obtain ⟨m, hm⟩ : ∃ m : Nat, pN (aS A) = m := ⟨(pN (aS A)).toNat, by omega⟩
  have e16 : M2 16 1 = m := V3.n.trans hm
  rw [show hP h4 1 1 = 16 by simp only [fxs F4], e16]
  refine ⟨by omega, by simp only [fxs F4], by simp only [fxs F4], by simp only [fxs F4], by simp only [fxs F4], by decide, ?_⟩
  refine cV_countItems F4 R4 w4 V4 h6 (show (m : Int) ≤ pN (aS A) by omega) ?_
  rw [stt_pr]
  simp only [wq_g3, wq_gc, wq_g, wq_g1, wq_g2, eP_print, iP_print_0, vP_print, wps, x_cnd, reduceIte, Nat.reduceAdd, Nat.reduceSub, Nat.reduceEqDiff, Nat.reduceLeDiff, Nat.lt_irrefl, Nat.reduceLT, Int.cast_ofNat_Int, wq_c0, wq_c1, true_and, and_true, and_self, true_implies, forall_const, ne_eq, Decidable.not_not, not_true_eq_false, not_false_eq_true, List.map_nil, List.map_cons, List.sum_nil, List.sum_cons, List.length_cons, List.length_nil, Nat.le_refl, Nat.zero_le, reduceCtorEq, true_or, or_true, false_or, or_false, false_and, and_false, false_implies, Nat.zero_add, Nat.add_zero, Int.reduceEq, Int.reduceNe, Int.reduceLT, Int.reduceLE, Int.reduceNeg, Int.reduceToNat, Nat.not_lt_zero, Int.reduceAdd]
  have k2 := k M2 h4 C4 ⟨fun a j z1 z2 => by rw [m2 a j (by omega), f1 a j z2 (by omega)], by omega⟩
  unfold itN at k2
  rw [hm] at k2
  exact k2
end PRN
