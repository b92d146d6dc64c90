/-! StringBuilder: append, toString; the digits of a number -/
section SB2
variable {M : xM} {h : xH} {Φ : xO → xM → xH → Prop} {b : Nat} {L : List Int}
set_option maxHeartbeats 1000000
def dgL (v : Int) : List Int := if v < 10 then [48 + v] else [48 + v / 10, 48 + v % 10]
theorem dgL_len {v : Int} : (dgL v).length = if v < 10 then 1 else 2 := by
  unfold dgL
  split <;> rfl
theorem cI_stringSize {v : Int} (hv : 0 ≤ v ∧ v < 100) (k : Φ (.inl (some (xI ((dgL v).length : Nat)))) M h) : x_Cal zI_stringSize [xI v] M h Φ := by
  rw [dgL_len] at k
  refine x_metI kI_stringSize (Nat.le_of_ble_eq_true rfl) (fun t m ls st M' h' c n => t = 16 ∧ st = [] ∧ M' = M ∧ h' = h ∧ c = 0 ∧ n = 0 ∧ ls 0 = some (xI (-v)) ∧ ls 1 = some (xI 0) ∧ ((m = 1 ∧ ls 2 = some (xI (-10)) ∧ ls 3 = some (xI 1)) ∨ (m = 0 ∧ 10 ≤ v ∧ ls 2 = some (xI (-100)) ∧ ls 3 = some (xI 2)))) 20 ?_ ?_
  · have e1 : w32 (-v) = -v := w32_of (by omega)
    simp only [wq_g3, wq_gc, wq_g, wq_g1, wq_g2, eI_stringSize, iI_stringSize_0, iI_stringSize_11, iI_stringSize_16, iI_stringSize_31, vI_stringSize, wps, x_cnd, reduceIte, Nat.reduceAdd, Nat.reduceSub, Nat.reduceEqDiff, Nat.reduceLeDiff, Nat.lt_irrefl, Nat.reduceLT, Int.cast_ofNat_Int, wq_c0, wq_c1, true_and, and_true, and_self, true_implies, forall_const, ne_eq, Decidable.not_not, not_true_eq_false, not_false_eq_true, List.map_nil, List.map_cons, List.sum_nil, List.sum_cons, List.length_cons, List.length_nil, Nat.le_refl, Nat.zero_le, reduceCtorEq, true_or, or_true, false_or, or_false, false_and, and_false, false_implies, Nat.zero_add, Nat.add_zero, Int.reduceEq, Int.reduceNe, Int.reduceLT, Int.reduceLE, Int.reduceNeg, Int.reduceToNat, Nat.not_lt_zero, Int.reduceAdd, e1]
    exact ⟨fun c0 => absurd hv.1 (by omega), fun _ => ⟨1, Or.inl rfl⟩⟩
  · rintro t m ls st M' h' c n ⟨rfl, rfl, rfl, rfl, rfl, rfl, l0, l1, (⟨rfl, l2, l3⟩ | ⟨rfl, h10, l2, l3⟩)⟩
    · simp only [wq_g3, wq_gc, wq_g, wq_g1, wq_g2, eI_stringSize, iI_stringSize_0, iI_stringSize_11, iI_stringSize_16, iI_stringSize_31, vI_stringSize, wps, x_cnd, reduceIte, Nat.reduceAdd, Nat.reduceSub, Nat.reduceEqDiff, Nat.reduceLeDiff, Nat.lt_irrefl, Nat.reduceLT, Int.cast_ofNat_Int, wq_c0, wq_c1, true_and, and_true, and_self, true_implies, forall_const, ne_eq, Decidable.not_not, not_true_eq_false, not_false_eq_true, List.map_nil, List.map_cons, List.sum_nil, List.sum_cons, List.length_cons, List.length_nil, Nat.le_refl, Nat.zero_le, reduceCtorEq, true_or, or_true, false_or, or_false, false_and, and_false, false_implies, Nat.zero_add, Nat.add_zero, Int.reduceEq, Int.reduceNe, Int.reduceLT, Int.reduceLE, Int.reduceNeg, Int.reduceToNat, Nat.not_lt_zero, Int.reduceAdd, l0, l1, l2, l3]
      refine ⟨fun c1 => ?_, fun c1 => ?_⟩
      · exact ⟨0, by omega, Or.inr ⟨rfl, by omega, by rfl, by rfl⟩⟩
      · rw [if_pos (by omega)] at k
        exact k
    · simp only [wq_g3, wq_gc, wq_g, wq_g1, wq_g2, eI_stringSize, iI_stringSize_0, iI_stringSize_11, iI_stringSize_16, iI_stringSize_31, vI_stringSize, wps, x_cnd, reduceIte, Nat.reduceAdd, Nat.reduceSub, Nat.reduceEqDiff, Nat.reduceLeDiff, Nat.lt_irrefl, Nat.reduceLT, Int.cast_ofNat_Int, wq_c0, wq_c1, true_and, and_true, and_self, true_implies, forall_const, ne_eq, Decidable.not_not, not_true_eq_false, not_false_eq_true, List.map_nil, List.map_cons, List.sum_nil, List.sum_cons, List.length_cons, List.length_nil, Nat.le_refl, Nat.zero_le, reduceCtorEq, true_or, or_true, false_or, or_false, false_and, and_false, false_implies, Nat.zero_add, Nat.add_zero, Int.reduceEq, Int.reduceNe, Int.reduceLT, Int.reduceLE, Int.reduceNeg, Int.reduceToNat, Nat.not_lt_zero, Int.reduceAdd, l0, l1, l2, l3]
      refine ⟨fun c1 => absurd hv.2 (by omega), fun c1 => ?_⟩
      rw [if_neg (by omega)] at k
      exact k
theorem cI_getChars {d : Nat} {v pp : Int} (hv : 0 ≤ v ∧ v < 100) (hd : hK h d = 21) (hp : ((dgL v).length : Nat) ≤ pp ∧ pp ≤ hL h d) (h32 : hL h d ≤ 2000) (k : ∀ M', (∀ a j, ¬ (a = d ∧ pp - ((dgL v).length : Nat) ≤ j ∧ j < pp) → M' a j = M a j) → (∀ i : Nat, i < (dgL v).length → M' d (pp - ((dgL v).length : Nat) + i) = (dgL v).getD i 0) → Φ (.inl (some (xI (pp - ((dgL v).length : Nat))))) M' h) : x_Cal zI_getChars [xI v, xI pp, xA d] M h Φ := by
  have e8 : ∀ x : Int, 48 ≤ x → x < 58 → w8 x = x := fun x h1 h2 => by
    unfold w8
    exact Int.bmod_eq_of_le (by omega) (by omega)
  have hl := dgL_len (v := v)
  have hl1 : 1 ≤ (dgL v).length := by rw [hl]; split <;> omega
  refine x_metW (by decide) (by decide) (Nat.le_of_ble_eq_true rfl) ?_
  intro X ρ0 p l e s m args below meth c hx
  refine sn_iload_n (i := 1) (x := pp) hx rfl (by decide +kernel) ?_
  refine sn_istore (i := 5) hx (by decide) (by decide +kernel) ?_
  refine sn_iload_n (i := 0) (x := v) hx rfl (by decide +kernel) ?_
  refine sn_if_ge hx (o := 7) (t := 11) (by decide) (by decide +kernel) (fun _ => ?_) (fun q => absurd hv.1 q)
  refine sn_iconst hx (k := 0) ⟨by decide, by decide⟩ (by decide +kernel) ?_
  refine sn_istore (i := 6) hx (by decide) (by decide +kernel) ?_
  refine sn_iload (i := 6) (x := 0) hx rfl (by decide +kernel) ?_
  refine sn_if_ne hx (o := 6) (t := 22) (by decide) (by decide +kernel) (fun q => absurd rfl q) (fun _ => ?_)
  refine sn_iload_n (i := 0) (x := v) hx rfl (by decide +kernel) ?_
  refine sn_ineg hx (by decide +kernel) ?_
  rw [show w32 (-v) = -v from w32_of (by omega)]
  refine sn_istore_n (i := 0) hx (by decide) (by decide +kernel) ?_
  refine sn_iload_n (i := 0) (x := -v) hx rfl (by decide +kernel) ?_
  refine sn_bipush hx (k := -100) ⟨by decide, by decide⟩ (by decide) (by decide +kernel) ?_
  refine sn_icmp_gt hx (o := 47) (t := 72) (by decide) (by decide +kernel) (fun _ => ?_) (fun q => absurd hv.2 (by omega))
  refine sn_aload_n (i := 2) (x := .inl d) hx rfl (by decide +kernel) ?_
  refine sn_iinc (i := 5) (k := -1) (x := pp) hx rfl (by decide +kernel) ?_
  rw [show w32 (pp + -1) = pp - 1 from w32_of (by omega)]
  refine sn_iload (i := 5) (x := pp - 1) hx rfl (by decide +kernel) ?_
  refine st_dg1 hx (idx := 83) (st_pick hx 948 (by decide +kernel)) (by decide +kernel) ?_
  refine sn_iload_n (i := 0) (x := -v) hx rfl (by decide +kernel) ?_
  refine sn_ineg hx (by decide +kernel) ?_
  rw [show w32 (- -v) = v by rw [Int.neg_neg]; exact w32_of (by omega)]
  refine st_dl1 hx hv (by decide +kernel) ?_
  have hp1 : 0 ≤ pp - 1 ∧ pp - 1 < hL h d := by clear hl; omega
  refine sn_bastore hx (by decide +kernel) hd hp1 ?_
  rw [e8 _ (by omega) (by omega)]
  refine sn_iload_n (i := 0) (x := -v) hx rfl (by decide +kernel) ?_
  refine sn_bipush hx (k := -9) ⟨by decide, by decide⟩ (by decide) (by decide +kernel) ?_
  refine sn_icmp_ge hx (o := 16) (t := 104) (by decide) (by decide +kernel) (fun c0 => ?_) (fun c0 => ?_)
  · rw [if_pos (by omega)] at hl
    rw [hl] at k hp
    refine sn_iload (i := 6) (x := 0) hx rfl (by decide +kernel) ?_
    refine sn_if_eq hx (o := 12) (t := 118) (by decide) (by decide +kernel) (fun _ => ?_) (fun q => absurd rfl q)
    refine sn_iload (i := 5) (x := pp - 1) hx rfl (by decide +kernel) ?_
    refine sn_iret hx (ty := .int) rfl rfl (by decide +kernel) (by decide) (by decide) ?_
    refine k _ (fun a j hj => ?_) (fun i hi => ?_)
    · unfold x_w
      rw [if_neg (by omega)]
    · have : i = 0 := by omega
      subst this
      unfold x_w dgL
      rw [if_pos ⟨rfl, by omega⟩, if_pos (by omega)]
      show 48 + v % 10 = 48 + v
      omega
  · rw [if_neg (by omega)] at hl
    rw [hl] at k hp
    refine sn_aload_n (i := 2) (x := .inl d) hx rfl (by decide +kernel) ?_
    refine sn_iinc (i := 5) (k := -1) (x := pp - 1) hx rfl (by decide +kernel) ?_
    rw [show w32 (pp - 1 + -1) = pp - 2 by rw [w32_of (by omega)]; omega]
    refine sn_iload (i := 5) (x := pp - 2) hx rfl (by decide +kernel) ?_
    refine st_dg2 hx (idx := 87) (st_pick hx 950 (by decide +kernel)) (by decide +kernel) ?_
    refine sn_iload_n (i := 0) (x := -v) hx rfl (by decide +kernel) ?_
    refine sn_ineg hx (by decide +kernel) ?_
    rw [show w32 (- -v) = v by rw [Int.neg_neg]; exact w32_of (by omega)]
    refine st_dl2 hx hv (by decide +kernel) ?_
    refine sn_bastore hx (by decide +kernel) hd ⟨by omega, by omega⟩ ?_
    rw [e8 _ (by omega) (by omega)]
    refine sn_iload (i := 6) (x := 0) hx rfl (by decide +kernel) ?_
    refine sn_if_eq hx (o := 12) (t := 118) (by decide) (by decide +kernel) (fun _ => ?_) (fun q => absurd rfl q)
    refine sn_iload (i := 5) (x := pp - 2) hx rfl (by decide +kernel) ?_
    refine sn_iret hx (ty := .int) rfl rfl (by decide +kernel) (by decide) (by decide) ?_
    refine k _ (fun a j hj => ?_) (fun i hi => ?_)
    · unfold x_w
      rw [if_neg (by omega), if_neg (by omega)]
    · have : i = 0 ∨ i = 1 := by omega
      unfold dgL
      rw [if_neg (by omega)]
      rcases this with rfl | rfl
      · unfold x_w
        rw [if_pos ⟨rfl, by omega⟩]
        rfl
      · unfold x_w
        rw [if_neg (by omega), if_pos ⟨rfl, by omega⟩]
        rfl
theorem cA_copyOfRange {a : Nat} {q : Int} (hka : hK h a = 21) (h0 : 0 ≤ q ∧ q ≤ hL h a) (h1 : q ≤ 1000) (hb : ∀ j : Int, 0 ≤ j → j < hL h a → -128 ≤ M a j ∧ M a j < 128) (hlt : a < hn h) (h2 : hL h a ≤ 2000) (k : ∀ M', (∀ b j, b < hn h → M' b j = M b j) → (∀ j : Int, 0 ≤ j → j < q → M' (hn h) j = M a j) → Φ (.inl (some (xA (hn h)))) M' (x_new h 21 q)) : x_Cal zA_copyOfRange [xA a, xI 0, xI q] M h Φ := by
  refine x_metW (by decide) (by decide) (Nat.le_of_ble_eq_true rfl) ?_
  intro X ρ0 p l e s m args below meth c hx
  refine sn_iload_n (i := 1) (x := 0) hx rfl (by decide +kernel) ?_
  refine sn_if_ne hx (o := 9) (t := 10) (by decide) (by decide +kernel) (fun q => absurd rfl q) (fun _ => ?_)
  refine sn_iload_n (i := 2) (x := q) hx rfl (by decide +kernel) ?_
  refine sn_aload_n (i := 0) (x := .inl a) hx rfl (by decide +kernel) ?_
  refine sn_alen hx (by decide +kernel) (by omega) (by omega) ?_
  refine sn_icmp_eq hx (o := 10) (t := 17) (by decide) (by decide +kernel) (fun c0 => ?_) (fun c0 => ?_)
  · refine sn_aload_n (i := 0) (x := .inl a) hx rfl (by decide +kernel) ?_
    refine st_clone hx (idx := 310) (i2 := 311) (st_pick hx 871 (by decide +kernel)) (st_pick hx 872 (by decide +kernel)) (st_pick hx 873 (by decide +kernel)) (st_pick hx 874 (by decide +kernel)) (st_pick hx 875 (by decide +kernel)) (x_cat_w (z := zA_copyOfRange) (q := 876) _ (by decide +kernel) hx) (st_pick hx 877 (by decide +kernel)) (by decide +kernel) (by decide +kernel) (by decide) (by decide) (Nat.le_of_ble_eq_true rfl) hka hb (by decide) (by show 0 + (hL h a).toNat ≤ 1000; omega) ?_
    refine sn_aret hx rfl (Or.inr ⟨_, rfl⟩) (by decide +kernel) (by decide) (by show 0 + (hL h a).toNat ≤ 1000; omega) ?_
    rw [← c0]
    refine k _ (fun b j hb9 => ?_) (fun j j1 j2 => ?_)
    · unfold x_clo
      rw [if_neg (by omega)]
    · unfold x_clo
      rw [if_pos rfl]
  · refine sn_aload_n (i := 0) (x := .inl a) hx rfl (by decide +kernel) ?_
    refine sn_iload_n (i := 1) (x := 0) hx rfl (by decide +kernel) ?_
    refine sn_iload_n (i := 2) (x := q) hx rfl (by decide +kernel) ?_
    refine sn_callS hx (zz := zA_copyOfRangeByte) (idx := 339) (as := [xA a, xI 0, xI q]) (st := []) (Ψ := fun o M' h' => o = .inl (some (xA (hn h))) ∧ M' = x_cp (x_z M h) a 0 (hn h) 0 q ∧ h' = x_new h 21 q) (st_pick hx 993 (by decide +kernel)) (st_pick hx 994 (by decide +kernel)) (by decide +kernel) (cA_copyOfRangeByte hka h0 h1 hb hlt h2 ⟨rfl, rfl, rfl⟩) (x_okz_in (n := 3) (pc := 995) (pi := 41) (by decide +kernel)) (Nat.le_of_ble_eq_true rfl) (by decide) (by decide) (fun M' h' q => by cases q.1) (fun v M' h' q => ?_) (fun e M' h' q => by cases q.1)
    obtain ⟨q1, rfl, rfl⟩ := q
    cases q1
    refine sn_aret hx rfl (Or.inr ⟨_, rfl⟩) (by decide +kernel) (by decide) (by decide) ?_
    refine k _ (fun b j hb9 => ?_) (fun j j1 j2 => ?_)
    · rw [cp_ne (by omega), x_z_at, if_neg (by omega)]
    · unfold x_cp
      rw [if_pos ⟨rfl, j1, by omega⟩, x_z_at, if_neg (by omega)]
      congr 1
      omega
/-- a text more at the builder's end -/
theorem sbR.put {K : List Int} {a : Nat} (R : sbR L M h b) (ha : hP h b 0 = a) (hroom : ((L.length + K.length : Nat) : Int) ≤ hL h a) (hK' : ∀ c ∈ K, 0 ≤ c ∧ c < 128) {M' : xM} (f1 : ∀ x j, x ≠ a → x ≠ b → M' x j = M x j) (f2 : M' b 1 = 0) (f3 : M' b 3 = ((L.length + K.length : Nat) : Int)) (f4 : ∀ j : Int, 0 ≤ j → ¬ ((L.length : Nat) ≤ j ∧ j < ((L.length + K.length : Nat) : Int)) → M' a j = M a j) (f5 : ∀ i : Nat, i < K.length → M' a ((L.length : Nat) + i) = K.getD i 0) : sbR (L ++ K) M' h b := by
  obtain ⟨⟨r1, r2⟩, ⟨r3, r4⟩, ⟨r5, r6⟩, r7, r8, r9, r10⟩ := R
  subst ha
  have f5' : ∀ j : Int, (L.length : Nat) ≤ j → j < ((L.length + K.length : Nat) : Int) → M' (hP h b 0) j = K.getD (j.toNat - L.length) 0 := fun j j1 j2 => by
    have := f5 (j.toNat - L.length) (by omega)
    rw [← this]
    congr 1
    omega
  refine ⟨⟨r1, r2⟩, ⟨f2, by rw [List.length_append]; exact f3⟩, ⟨by rw [List.length_append]; exact hroom, r6⟩, fun i hi => ?_, fun j j1 j2 => ?_, r9, r10⟩
  · rw [List.length_append] at hi
    by_cases hi2 : i < L.length
    · rw [getD_app_lo hi2, f4 i (by omega) (by omega)]
      exact r7 i hi2
    · rw [getD_app_hi (by omega), f5' i (by omega) (by omega)]
      simp
  · by_cases hj : (L.length : Nat) ≤ j ∧ j < ((L.length + K.length : Nat) : Int)
    · rw [f5' j hj.1 hj.2]
      have h9 : j.toNat - L.length < K.length := by omega
      rw [List.getD_eq_getElem?_getD, List.getElem?_eq_getElem h9]
      exact hK' _ (List.getElem_mem h9)
    · rw [f4 j j1 hj]
      exact r8 j j1 j2
theorem sbR.ne (R : sbR L M h b) : b ≠ hP h b 0 := fun e => by
  have h1 := R.1.1
  have h2 := R.1.2
  rw [← e, h1] at h2
  exact absurd h2 (by decide)
theorem cY_appendC (R : sbR L M h b) {c : Int} (hc : 0 ≤ c ∧ c < 128) (hl : L.length < 1000) (k : ∀ M' h', sbR (L ++ [c]) M' h' b → sbF b M h M' h' → Φ (.inl (some (xA b))) M' h') : x_Cal zY_appendC [xA b, xI c] M h Φ := by
  obtain ⟨⟨r1, r2⟩, ⟨r3, r4⟩, ⟨r5, r6⟩, r7, r8, r9, r10⟩ := id R
  refine x_met0 kY_appendC (Nat.le_of_ble_eq_true rfl) ?_
  simp only [wq_g3, wq_gc, wq_g, wq_g1, wq_g2, eY_appendC, iY_appendC_0, iY_appendC_75, vY_appendC, wps, x_cnd, reduceIte, Nat.reduceAdd, Nat.reduceSub, Nat.reduceEqDiff, Nat.reduceLeDiff, Nat.lt_irrefl, Nat.reduceLT, Int.cast_ofNat_Int, wq_c0, wq_c1, true_and, and_true, and_self, true_implies, forall_const, ne_eq, Decidable.not_not, not_true_eq_false, not_false_eq_true, List.map_nil, List.map_cons, List.sum_nil, List.sum_cons, List.length_cons, List.length_nil, Nat.le_refl, Nat.zero_le, reduceCtorEq, true_or, or_true, false_or, or_false, false_and, and_false, false_implies, Nat.zero_add, Nat.add_zero, Int.reduceEq, Int.reduceNe, Int.reduceLT, Int.reduceLE, Int.reduceNeg, Int.reduceToNat, Nat.not_lt_zero, Int.reduceAdd, r1, r4]
  simp (disch := omega) only [w32_of]
  (repeat refine ⟨by omega, ?_⟩)
  refine cY_ensure R (by omega) (fun M1 h1 R1 q1 F1 => ?_)
  obtain ⟨⟨s1, s2⟩, ⟨s3, s4⟩, ⟨s5, s6⟩, s7, s8, s9, s10⟩ := id R1
  simp only [wq_g3, wq_gc, wq_g, wq_g1, wq_g2, eY_appendC, iY_appendC_0, iY_appendC_75, vY_appendC, wps, x_cnd, reduceIte, Nat.reduceAdd, Nat.reduceSub, Nat.reduceEqDiff, Nat.reduceLeDiff, Nat.lt_irrefl, Nat.reduceLT, Int.cast_ofNat_Int, wq_c0, wq_c1, true_and, and_true, and_self, true_implies, forall_const, ne_eq, Decidable.not_not, not_true_eq_false, not_false_eq_true, List.map_nil, List.map_cons, List.sum_nil, List.sum_cons, List.length_cons, List.length_nil, Nat.le_refl, Nat.zero_le, reduceCtorEq, true_or, or_true, false_or, or_false, false_and, and_false, false_implies, Nat.zero_add, Nat.add_zero, Int.reduceEq, Int.reduceNe, Int.reduceLT, Int.reduceLE, Int.reduceNeg, Int.reduceToNat, Nat.not_lt_zero, Int.reduceAdd, s1]
  (repeat refine ⟨by omega, ?_⟩)
  refine cY_isLatin1 s1 s3 ?_
  simp only [wq_g3, wq_gc, wq_g, wq_g1, wq_g2, eY_appendC, iY_appendC_0, iY_appendC_75, vY_appendC, wps, x_cnd, reduceIte, Nat.reduceAdd, Nat.reduceSub, Nat.reduceEqDiff, Nat.reduceLeDiff, Nat.lt_irrefl, Nat.reduceLT, Int.cast_ofNat_Int, wq_c0, wq_c1, true_and, and_true, and_self, true_implies, forall_const, ne_eq, Decidable.not_not, not_true_eq_false, not_false_eq_true, List.map_nil, List.map_cons, List.sum_nil, List.sum_cons, List.length_cons, List.length_nil, Nat.le_refl, Nat.zero_le, reduceCtorEq, true_or, or_true, false_or, or_false, false_and, and_false, false_implies, Nat.zero_add, Nat.add_zero, Int.reduceEq, Int.reduceNe, Int.reduceLT, Int.reduceLE, Int.reduceNeg, Int.reduceToNat, Nat.not_lt_zero, Int.reduceAdd, s1, Int.reduceEq]
  (repeat refine ⟨by omega, ?_⟩)
  refine cU_canEncode hc ?_
  simp only [wq_g3, wq_gc, wq_g, wq_g1, wq_g2, eY_appendC, iY_appendC_0, iY_appendC_75, vY_appendC, wps, x_cnd, reduceIte, Nat.reduceAdd, Nat.reduceSub, Nat.reduceEqDiff, Nat.reduceLeDiff, Nat.lt_irrefl, Nat.reduceLT, Int.cast_ofNat_Int, wq_c0, wq_c1, true_and, and_true, and_self, true_implies, forall_const, ne_eq, Decidable.not_not, not_true_eq_false, not_false_eq_true, List.map_nil, List.map_cons, List.sum_nil, List.sum_cons, List.length_cons, List.length_nil, Nat.le_refl, Nat.zero_le, reduceCtorEq, true_or, or_true, false_or, or_false, false_and, and_false, false_implies, Nat.zero_add, Nat.add_zero, Int.reduceEq, Int.reduceNe, Int.reduceLT, Int.reduceLE, Int.reduceNeg, Int.reduceToNat, Nat.not_lt_zero, Int.reduceAdd, s1, s2, s4, Int.reduceEq]
  have e8 : w8 c = c := by unfold w8; exact Int.bmod_eq_of_le (by omega) (by omega)
  rw [e8]
  simp (disch := omega) only [w32_of]
  refine ⟨by omega, k _ _ (R1.put rfl (K := [c]) (by simp; omega) (fun x hx => by simp at hx; rw [hx]; exact hc) (fun x j x1 x2 => by rw [w_ne x1, w_ne x2]) ?_ ?_ (fun j j1 j2 => ?_) (fun i hi => ?_)) (F1.tr r9 ⟨Nat.le_refl _, fun a a1 a2 a3 j => by rw [w_ne a3, w_ne a2], fun _ _ => ⟨rfl, rfl⟩, fun _ _ _ _ => rfl, Or.inl rfl⟩)⟩
  · rw [w_ne R1.ne, w_nj (by decide)]
    exact s3
  · rw [w_ne R1.ne, w_eq]
    simp
  · simp at j2
    rw [w_nj (by omega), w_ne R1.ne.symm]
  · have : i = 0 := by simpa using hi
    subst this
    simp only [x_w]
    simp
    exact e8
theorem cQ_appendC (R : sbR L M h b) {c : Int} (hc : 0 ≤ c ∧ c < 128) (hl : L.length < 1000) (k : ∀ M' h', sbR (L ++ [c]) M' h' b → sbF b M h M' h' → Φ (.inl (some (xA b))) M' h') : x_Cal zQ_appendC [xA b, xI c] M h Φ := by
  refine x_met0 kQ_appendC (Nat.le_of_ble_eq_true rfl) ?_
  simp only [wq_g3, wq_gc, wq_g, wq_g1, wq_g2, eQ_appendC, iQ_appendC_0, vQ_appendC, wps, x_cnd, reduceIte, Nat.reduceAdd, Nat.reduceSub, Nat.reduceEqDiff, Nat.reduceLeDiff, Nat.lt_irrefl, Nat.reduceLT, Int.cast_ofNat_Int, wq_c0, wq_c1, true_and, and_true, and_self, true_implies, forall_const, ne_eq, Decidable.not_not, not_true_eq_false, not_false_eq_true, List.map_nil, List.map_cons, List.sum_nil, List.sum_cons, List.length_cons, List.length_nil, Nat.le_refl, Nat.zero_le, reduceCtorEq, true_or, or_true, false_or, or_false, false_and, and_false, false_implies, Nat.zero_add, Nat.add_zero, Int.reduceEq, Int.reduceNe, Int.reduceLT, Int.reduceLE, Int.reduceNeg, Int.reduceToNat, Nat.not_lt_zero, Int.reduceAdd, wrc, R.1.1]
  (repeat refine ⟨by omega, ?_⟩)
  refine cY_appendC R hc hl (fun M' h' R' F' => ?_)
  simp only [wq_g3, wq_gc, wq_g, wq_g1, wq_g2, eQ_appendC, iQ_appendC_0, vQ_appendC, wps, x_cnd, reduceIte, Nat.reduceAdd, Nat.reduceSub, Nat.reduceEqDiff, Nat.reduceLeDiff, Nat.lt_irrefl, Nat.reduceLT, Int.cast_ofNat_Int, wq_c0, wq_c1, true_and, and_true, and_self, true_implies, forall_const, ne_eq, Decidable.not_not, not_true_eq_false, not_false_eq_true, List.map_nil, List.map_cons, List.sum_nil, List.sum_cons, List.length_cons, List.length_nil, Nat.le_refl, Nat.zero_le, reduceCtorEq, true_or, or_true, false_or, or_false, false_and, and_false, false_implies, Nat.zero_add, Nat.add_zero, Int.reduceEq, Int.reduceNe, Int.reduceLT, Int.reduceLE, Int.reduceNeg, Int.reduceToNat, Nat.not_lt_zero, Int.reduceAdd]
  exact k M' h' R' F'
theorem cY_appendI (R : sbR L M h b) {v : Int} (hv : 0 ≤ v ∧ v < 100) (hl : L.length < 998) (k : ∀ M' h', sbR (L ++ dgL v) M' h' b → sbF b M h M' h' → Φ (.inl (some (xA b))) M' h') : x_Cal zY_appendI [xA b, xI v] M h Φ := by
  obtain ⟨⟨r1, r2⟩, ⟨r3, r4⟩, ⟨r5, r6⟩, r7, r8, r9, r10⟩ := id R
  have hd : (dgL v).length ≤ 2 := by rw [dgL_len]; split <;> omega
  refine x_met0 kY_appendI (Nat.le_of_ble_eq_true rfl) ?_
  simp only [wq_g3, wq_gc, wq_g, wq_g1, wq_g2, eY_appendI, iY_appendI_0, iY_appendI_48, vY_appendI, wps, x_cnd, reduceIte, Nat.reduceAdd, Nat.reduceSub, Nat.reduceEqDiff, Nat.reduceLeDiff, Nat.lt_irrefl, Nat.reduceLT, Int.cast_ofNat_Int, wq_c0, wq_c1, true_and, and_true, and_self, true_implies, forall_const, ne_eq, Decidable.not_not, not_true_eq_false, not_false_eq_true, List.map_nil, List.map_cons, List.sum_nil, List.sum_cons, List.length_cons, List.length_nil, Nat.le_refl, Nat.zero_le, reduceCtorEq, true_or, or_true, false_or, or_false, false_and, and_false, false_implies, Nat.zero_add, Nat.add_zero, Int.reduceEq, Int.reduceNe, Int.reduceLT, Int.reduceLE, Int.reduceNeg, Int.reduceToNat, Nat.not_lt_zero, Int.reduceAdd, r1, r4]
  (repeat refine ⟨by omega, ?_⟩)
  refine cI_stringSize hv ?_
  simp only [wq_g3, wq_gc, wq_g, wq_g1, wq_g2, eY_appendI, iY_appendI_0, iY_appendI_48, vY_appendI, wps, x_cnd, reduceIte, Nat.reduceAdd, Nat.reduceSub, Nat.reduceEqDiff, Nat.reduceLeDiff, Nat.lt_irrefl, Nat.reduceLT, Int.cast_ofNat_Int, wq_c0, wq_c1, true_and, and_true, and_self, true_implies, forall_const, ne_eq, Decidable.not_not, not_true_eq_false, not_false_eq_true, List.map_nil, List.map_cons, List.sum_nil, List.sum_cons, List.length_cons, List.length_nil, Nat.le_refl, Nat.zero_le, reduceCtorEq, true_or, or_true, false_or, or_false, false_and, and_false, false_implies, Nat.zero_add, Nat.add_zero, Int.reduceEq, Int.reduceNe, Int.reduceLT, Int.reduceLE, Int.reduceNeg, Int.reduceToNat, Nat.not_lt_zero, Int.reduceAdd, r1, r4]
  simp (disch := omega) only [w32_of]
  (repeat refine ⟨by omega, ?_⟩)
  refine cY_ensure R (by omega) (fun M1 h1 R1 q1 F1 => ?_)
  obtain ⟨⟨s1, s2⟩, ⟨s3, s4⟩, ⟨s5, s6⟩, s7, s8, s9, s10⟩ := id R1
  simp only [wq_g3, wq_gc, wq_g, wq_g1, wq_g2, eY_appendI, iY_appendI_0, iY_appendI_48, vY_appendI, wps, x_cnd, reduceIte, Nat.reduceAdd, Nat.reduceSub, Nat.reduceEqDiff, Nat.reduceLeDiff, Nat.lt_irrefl, Nat.reduceLT, Int.cast_ofNat_Int, wq_c0, wq_c1, true_and, and_true, and_self, true_implies, forall_const, ne_eq, Decidable.not_not, not_true_eq_false, not_false_eq_true, List.map_nil, List.map_cons, List.sum_nil, List.sum_cons, List.length_cons, List.length_nil, Nat.le_refl, Nat.zero_le, reduceCtorEq, true_or, or_true, false_or, or_false, false_and, and_false, false_implies, Nat.zero_add, Nat.add_zero, Int.reduceEq, Int.reduceNe, Int.reduceLT, Int.reduceLE, Int.reduceNeg, Int.reduceToNat, Nat.not_lt_zero, Int.reduceAdd, s1]
  (repeat refine ⟨by omega, ?_⟩)
  refine cY_isLatin1 s1 s3 ?_
  simp only [wq_g3, wq_gc, wq_g, wq_g1, wq_g2, eY_appendI, iY_appendI_0, iY_appendI_48, vY_appendI, wps, x_cnd, reduceIte, Nat.reduceAdd, Nat.reduceSub, Nat.reduceEqDiff, Nat.reduceLeDiff, Nat.lt_irrefl, Nat.reduceLT, Int.cast_ofNat_Int, wq_c0, wq_c1, true_and, and_true, and_self, true_implies, forall_const, ne_eq, Decidable.not_not, not_true_eq_false, not_false_eq_true, List.map_nil, List.map_cons, List.sum_nil, List.sum_cons, List.length_cons, List.length_nil, Nat.le_refl, Nat.zero_le, reduceCtorEq, true_or, or_true, false_or, or_false, false_and, and_false, false_implies, Nat.zero_add, Nat.add_zero, Int.reduceEq, Int.reduceNe, Int.reduceLT, Int.reduceLE, Int.reduceNeg, Int.reduceToNat, Nat.not_lt_zero, Int.reduceAdd, s1, s2, Int.reduceEq]
  (repeat refine ⟨by omega, ?_⟩)
  refine cI_getChars hv s2 ⟨by omega, by omega⟩ s6 (fun M2 g1 g2 => ?_)
  simp only [wq_g3, wq_gc, wq_g, wq_g1, wq_g2, eY_appendI, iY_appendI_0, iY_appendI_48, vY_appendI, wps, x_cnd, reduceIte, Nat.reduceAdd, Nat.reduceSub, Nat.reduceEqDiff, Nat.reduceLeDiff, Nat.lt_irrefl, Nat.reduceLT, Int.cast_ofNat_Int, wq_c0, wq_c1, true_and, and_true, and_self, true_implies, forall_const, ne_eq, Decidable.not_not, not_true_eq_false, not_false_eq_true, List.map_nil, List.map_cons, List.sum_nil, List.sum_cons, List.length_cons, List.length_nil, Nat.le_refl, Nat.zero_le, reduceCtorEq, true_or, or_true, false_or, or_false, false_and, and_false, false_implies, Nat.zero_add, Nat.add_zero, Int.reduceEq, Int.reduceNe, Int.reduceLT, Int.reduceLE, Int.reduceNeg, Int.reduceToNat, Nat.not_lt_zero, Int.reduceAdd, s1, s2]
  refine k _ _ (R1.put rfl (K := dgL v) (by omega) (fun x hx => ?_) (fun x j x1 x2 => by rw [w_ne x2]; exact g1 x j (fun e => x1 e.1)) ?_ ?_ (fun j j1 j2 => ?_) (fun i hi => ?_)) (F1.tr r9 ⟨Nat.le_refl _, fun a a1 a2 a3 j => by rw [w_ne a2]; exact g1 a j (fun e => a3 e.1), fun _ _ => ⟨rfl, rfl⟩, fun _ _ _ _ => rfl, Or.inl rfl⟩)
  · unfold dgL at hx
    split at hx
    · simp at hx
      omega
    · simp at hx
      omega
  · rw [w_nj (by decide), g1 b 1 (fun e => R1.ne e.1)]
    exact s3
  · rw [w_eq]
    push_cast
    rfl
  · rw [w_ne R1.ne.symm]
    exact g1 _ j (fun e => j2 (by have := e.2; omega))
  · rw [w_ne R1.ne.symm, ← g2 i hi]
    congr 1
    omega
theorem cQ_appendI (R : sbR L M h b) {v : Int} (hv : 0 ≤ v ∧ v < 100) (hl : L.length < 998) (k : ∀ M' h', sbR (L ++ dgL v) M' h' b → sbF b M h M' h' → Φ (.inl (some (xA b))) M' h') : x_Cal zQ_appendI [xA b, xI v] M h Φ := by
  refine x_met0 kQ_appendI (Nat.le_of_ble_eq_true rfl) ?_
  simp only [wq_g3, wq_gc, wq_g, wq_g1, wq_g2, eQ_appendI, iQ_appendI_0, vQ_appendI, wps, x_cnd, reduceIte, Nat.reduceAdd, Nat.reduceSub, Nat.reduceEqDiff, Nat.reduceLeDiff, Nat.lt_irrefl, Nat.reduceLT, Int.cast_ofNat_Int, wq_c0, wq_c1, true_and, and_true, and_self, true_implies, forall_const, ne_eq, Decidable.not_not, not_true_eq_false, not_false_eq_true, List.map_nil, List.map_cons, List.sum_nil, List.sum_cons, List.length_cons, List.length_nil, Nat.le_refl, Nat.zero_le, reduceCtorEq, true_or, or_true, false_or, or_false, false_and, and_false, false_implies, Nat.zero_add, Nat.add_zero, Int.reduceEq, Int.reduceNe, Int.reduceLT, Int.reduceLE, Int.reduceNeg, Int.reduceToNat, Nat.not_lt_zero, Int.reduceAdd, wrc, R.1.1]
  (repeat refine ⟨by omega, ?_⟩)
  refine cY_appendI R hv hl (fun M' h' R' F' => ?_)
  simp only [wq_g3, wq_gc, wq_g, wq_g1, wq_g2, eQ_appendI, iQ_appendI_0, vQ_appendI, wps, x_cnd, reduceIte, Nat.reduceAdd, Nat.reduceSub, Nat.reduceEqDiff, Nat.reduceLeDiff, Nat.lt_irrefl, Nat.reduceLT, Int.cast_ofNat_Int, wq_c0, wq_c1, true_and, and_true, and_self, true_implies, forall_const, ne_eq, Decidable.not_not, not_true_eq_false, not_false_eq_true, List.map_nil, List.map_cons, List.sum_nil, List.sum_cons, List.length_cons, List.length_nil, Nat.le_refl, Nat.zero_le, reduceCtorEq, true_or, or_true, false_or, or_false, false_and, and_false, false_implies, Nat.zero_add, Nat.add_zero, Int.reduceEq, Int.reduceNe, Int.reduceLT, Int.reduceLE, Int.reduceNeg, Int.reduceToNat, Nat.not_lt_zero, Int.reduceAdd]
  exact k M' h' R' F'
end SB2
