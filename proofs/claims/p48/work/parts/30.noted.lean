/-! Noted: made, and asked -/
theorem hn_new (h : xH) (k : Nat) (l : Int) : hn (x_new h k l) = hn h + 1 := rfl
theorem hK_new (h : xH) (k : Nat) (l : Int) (b : Nat) : hK (x_new h k l) b = if b = hn h then k else hK h b := rfl
theorem hL_new (h : xH) (k : Nat) (l : Int) (b : Nat) : hL (x_new h k l) b = if b = hn h then l else hL h b := rfl
theorem hP_new (h : xH) (k : Nat) (l : Int) (b : Nat) (j : Int) : hP (x_new h k l) b j = if b = hn h then 0 else hP h b j := rfl
theorem x_z_at (M : xM) (h : xH) (b : Nat) (j : Int) : x_z M h b j = if b = hn h then 0 else M b j := rfl
/-- five int rows made behind r, laid into its places 1 .. 5 -/
def ntH (h : xH) (r : Nat) : xH := x_pw (x_new (x_pw (x_new (x_pw (x_new (x_pw (x_new (x_pw (x_new h 20 150) r 1 (r + 1)) 20 150) r 2 (r + 2)) 20 150) r 3 (r + 3)) 20 150) r 4 (r + 4)) 20 150) r 5 (r + 5)
def ntM (M : xM) (r : Nat) : xM := fun a j => if r + 1 ≤ a ∧ a ≤ r + 5 then 0 else M a j
section NH
variable {h : xH} {r : Nat}
theorem ntH_n (e : hn h = r + 1) : hn (ntH h r) = r + 6 := by
  simp only [ntH, hn_pw, hn_new, e, Nat.add_assoc, Nat.reduceAdd]
theorem ntH_K (e : hn h = r + 1) (a : Nat) : hK (ntH h r) a = if r + 1 ≤ a ∧ a ≤ r + 5 then 20 else hK h a := by
  simp only [ntH, hK_pw, hK_new, hn_pw, hn_new, e, Nat.add_assoc, Nat.reduceAdd]
  (repeat' split) <;> first | rfl | (exfalso; omega)
theorem ntH_L (e : hn h = r + 1) (a : Nat) : hL (ntH h r) a = if r + 1 ≤ a ∧ a ≤ r + 5 then 150 else hL h a := by
  simp only [ntH, hL_pw, hL_new, hn_pw, hn_new, e, Nat.add_assoc, Nat.reduceAdd]
  (repeat' split) <;> first | rfl | (exfalso; omega)
theorem ntH_P (e : hn h = r + 1) (a : Nat) (j : Int) : hP (ntH h r) a j = if a = r ∧ 1 ≤ j ∧ j ≤ 5 then r + j.toNat else if r + 1 ≤ a ∧ a ≤ r + 5 then 0 else hP h a j := by
  simp only [ntH, hP_pw, hP_new, hn_pw, hn_new, e, Nat.add_assoc, Nat.reduceAdd]
  (repeat' split) <;> first | rfl | (exfalso; omega) | omega
theorem ntH_A (e : hn h = r + 1) (hk : hK h r = 1) : ntA (ntH h r) r := by
  unfold ntA
  simp only [ntH_P e, ntH_K e, ntH_L e, hk]
  simp
end NH
/-- the notes of a part -/
def ntS (S : xSr) (part id : Int) : Int := if pl S id ≠ -1 ∧ isP S (pl S id) = true then pk4 (lab S (pl S id).toNat) (lt S (pl S id)) (sB S (pl S id)) (sC S part (pl S id)) else -1
section NM
variable {M : xM} {h : xH} {Φ : xO → xM → xH → Prop} {S : xSr} {nid : Int}
set_option maxHeartbeats 1000000
def nt5 (M : xM) (r : Nat) (e v1 v2 v3 v4 v5 : Int) : xM := x_w (x_w (x_w (x_w (x_w M (r + 1) e v1) (r + 2) e v2) (r + 3) e v3) (r + 4) e v4) (r + 5) e v5
theorem nt5_1 {M : xM} {r : Nat} {e v1 v2 v3 v4 v5 j : Int} : nt5 M r e v1 v2 v3 v4 v5 (r + 1) j = if j = e then v1 else M (r + 1) j := by
  unfold nt5
  rw [w_ne (by omega), w_ne (by omega), w_ne (by omega), w_ne (by omega)]
  simp [x_w]
theorem nt5_2 {M : xM} {r : Nat} {e v1 v2 v3 v4 v5 j : Int} : nt5 M r e v1 v2 v3 v4 v5 (r + 2) j = if j = e then v2 else M (r + 2) j := by
  unfold nt5
  rw [w_ne (by omega), w_ne (by omega), w_ne (by omega)]
  simp [x_w]
theorem nt5_3 {M : xM} {r : Nat} {e v1 v2 v3 v4 v5 j : Int} : nt5 M r e v1 v2 v3 v4 v5 (r + 3) j = if j = e then v3 else M (r + 3) j := by
  unfold nt5
  rw [w_ne (by omega), w_ne (by omega)]
  simp [x_w]
theorem nt5_4 {M : xM} {r : Nat} {e v1 v2 v3 v4 v5 j : Int} : nt5 M r e v1 v2 v3 v4 v5 (r + 4) j = if j = e then v4 else M (r + 4) j := by
  unfold nt5
  rw [w_ne (by omega)]
  simp [x_w]
theorem nt5_5 {M : xM} {r : Nat} {e v1 v2 v3 v4 v5 j : Int} : nt5 M r e v1 v2 v3 v4 v5 (r + 5) j = if j = e then v5 else M (r + 5) j := by
  unfold nt5
  simp [x_w]
theorem nt5_o {M : xM} {r a : Nat} {e v1 v2 v3 v4 v5 j : Int} (h : a ≤ r) : nt5 M r e v1 v2 v3 v4 v5 a j = M a j := by
  unfold nt5
  rw [w_ne (by omega), w_ne (by omega), w_ne (by omega), w_ne (by omega), w_ne (by omega)]
/-- the entries behind s slots -/
def NE (S : xSr) (part : Int) (s e r : Nat) (M : xM) : Prop :=
  (∀ i : Nat, i < e → ∃ p : Nat, p < sN S ∧ isP S p = true ∧ rk S (sN S) p < s ∧ M (r + 1) i = sI S p ∧ M (r + 2) i = lab S p ∧ M (r + 3) i = lt S p ∧ M (r + 4) i = sB S p ∧ M (r + 5) i = sC S part p) ∧
  (∀ p : Nat, p < sN S → isP S p = true → rk S (sN S) p < s → ∃ i : Nat, i < e ∧ M (r + 1) i = sI S p) ∧
  ∀ i j : Nat, i < j → j < e → M (r + 1) i < M (r + 1) j
theorem NE_skip {S : xSr} {nid part : Int} {s e r p : Nat} {M : xM} (w : wfS S nid) (E : NE S part s e r M) (hp : p < sN S) (hr : rk S (sN S) p = s) (hc : isP S p = false) : NE S part (s + 1) e r M := by
  refine ⟨fun i hi => ?_, fun q hq hq2 hq3 => ?_, E.2.2⟩
  · obtain ⟨q, q1, q2, q3, q4⟩ := E.1 i hi
    exact ⟨q, q1, q2, by omega, q4⟩
  · by_cases h : rk S (sN S) q = s
    · have := rk_inj w (Nat.le_refl _) hq hp (by omega)
      subst this
      rw [hc] at hq2
      cases hq2
    · exact E.2.1 q hq hq2 (by omega)
theorem NE_take {S : xSr} {nid part : Int} {s e r p : Nat} {M : xM} (w : wfS S nid) (E : NE S part s e r M) (hp : p < sN S) (hr : rk S (sN S) p = s) (hc : isP S p = true) : NE S part (s + 1) (e + 1) r (nt5 M r e (sI S p) (lab S p) (lt S p) (sB S p) (sC S part p)) := by
  refine ⟨fun i hi => ?_, fun q hq hq2 hq3 => ?_, fun i j hij hj => ?_⟩
  · rw [nt5_1, nt5_2, nt5_3, nt5_4, nt5_5]
    by_cases hie : i = e
    · subst hie
      rw [if_pos rfl, if_pos rfl, if_pos rfl, if_pos rfl, if_pos rfl]
      exact ⟨p, hp, hc, by omega, rfl, rfl, rfl, rfl, rfl⟩
    · rw [if_neg (by omega), if_neg (by omega), if_neg (by omega), if_neg (by omega), if_neg (by omega)]
      obtain ⟨q, q1, q2, q3, q4⟩ := E.1 i (by omega)
      exact ⟨q, q1, q2, by omega, q4⟩
  · by_cases h : rk S (sN S) q = s
    · have := rk_inj w (Nat.le_refl _) hq hp (by omega)
      subst this
      exact ⟨e, by omega, by rw [nt5_1, if_pos rfl]⟩
    · obtain ⟨i, i1, i2⟩ := E.2.1 q hq hq2 (by omega)
      exact ⟨i, by omega, by rw [nt5_1, if_neg (by omega)]; exact i2⟩
  · rw [nt5_1, nt5_1, if_neg (by omega)]
    by_cases hje : j = e
    · rw [if_pos (by omega)]
      obtain ⟨q, q1, q2, q3, q4, -⟩ := E.1 i (by omega)
      rw [q4]
      have h1 := rk_le (S := S) (k := sN S) (p := q) hp (by omega)
      have h2 : sI S q ≠ sI S p := fun h => by
        have := w.inj q1 hp h
        subst this
        omega
      omega
    · rw [if_neg (by omega)]
      exact E.2.2 i j hij (by omega)
theorem NE_end {S : xSr} {nid : Int} {part e r : Nat} {M : xM} {h : xH} (w : wfS S nid) (h6 : part < 6) (he : e ≤ sN S) (E : NE S part (sN S) e r M) (hA : ntA h r ∧ 42 ≤ r ∧ r + 6 ≤ hn h) : repN (ntS S part) (x_w M r 0 e) h r := by
  have hN := w.N
  have e0 : ∀ i, 1 ≤ i → x_w M r 0 e (r + i) = M (r + i) := fun i hi => by
    funext j
    exact w_ne (by omega)
  have e1 : ntc (x_w M r 0 e) r = e := by
    unfold ntc
    rw [w_eq]
    rfl
  refine ⟨hA, by rw [w_eq]; omega, fun i j hij hj => ?_, fun i hi => ?_, fun id => ?_⟩
  · rw [e0 1 (by omega)]
    exact E.2.2 i j hij (by rw [e1] at hj; exact hj)
  · rw [e0 1 (by omega), e0 2 (by omega), e0 3 (by omega), e0 4 (by omega), e0 5 (by omega)]
    rw [e1] at hi
    obtain ⟨p, p1, p2, p3, q1, q2, q3, q4, q5⟩ := E.1 i hi
    rw [q1, q2, q3, q4, q5]
    have h1 := w.id p1
    have h2 := w.b p1
    have h3 := w.c p1 h6
    have h4 := lab_rng p1 w
    have h5 : 0 ≤ lt S p ∧ lt S p ≤ 40 := lt_rng
    omega
  · unfold ntf
    rw [e1, e0 1 (by omega), e0 2 (by omega), e0 3 (by omega), e0 4 (by omega), e0 5 (by omega)]
    unfold ntS
    by_cases hf : fi (M (r + 1)) id e = -1
    · rw [if_pos hf, if_neg]
      rintro ⟨c1, c2⟩
      obtain ⟨p, p1, p2, p3⟩ := pl_some c1
      rw [p2] at c2
      obtain ⟨i, i1, i2⟩ := E.2.1 p p1 c2 (rk_ltk p1)
      exact fi_no hf i i1 (by rw [i2, p3])
    · obtain ⟨i, i1, i2, i3, -⟩ := fi_some hf
      obtain ⟨p, p1, p2, p3, q1, q2, q3, q4, q5⟩ := E.1 i i1
      have hp : pl S id = p := by rw [← i3, q1]; exact pl_at w p1
      rw [if_neg hf, hp, if_pos ⟨by omega, p2⟩, i2, q2, q3, q4, q5]
      rfl
theorem cN_init (F : Fx h) (R : repC S M h 17) (w : wfS S nid) (V : VR S M) {part r : Nat} (h6 : part < 6) (h58 : 42 ≤ r) (hr : hn h = r + 1) (hk : hK h r = 1) (k : ∀ M', (∀ a j, a < r → M' a j = M a j) → repN (ntS S part) M' (ntH h r) r → Φ (.inl none) M' (ntH h r)) : x_Cal zN_init [xA r, xA 16, xI part] M h Φ := by
  have hN := w.N
  have fr0 : ∀ a, 42 ≤ a → ∀ i, fR a i = 0 := fun a ha i => by
    unfold fR
    have : ∀ l : List ((Nat × Int) × Nat), (∀ q ∈ l, q.1.1 < 42) → (l.lookup (a, i)).getD 0 = 0 := by
      intro l
      induction l with
      | nil => intro _; rfl
      | cons q l ih =>
        intro hq
        obtain ⟨⟨x, y⟩, v⟩ := q
        have := hq _ List.mem_cons_self
        rw [List.lookup_cons]
        have hne : ((a, i) == (x, y)) = false := by
          simp only [beq_eq_false_iff_ne, ne_eq, Prod.mk.injEq, not_and]
          intro h1
          exact absurd h1 (by simp at this; omega)
        rw [hne]
        exact ih (fun q hq2 => hq q (List.mem_cons_of_mem _ hq2))
    exact this _ (by decide)
  have F2 : Fx (ntH h r) := F.keep (fun a ha => ⟨by rw [ntH_K hr, if_neg (by omega)], by rw [ntH_L hr, if_neg (by omega)]⟩) (fun a i hf => by
      rw [ntH_P hr]
      by_cases ha : 42 ≤ a
      · exact absurd (fr0 a ha i) hf
      · rw [if_neg (by omega), if_neg (by omega)]) (by rw [ntH_n hr, hr]; omega)
  have hne : ∀ n : Nat, n < 42 → ¬ n = r := fun n hn h => by omega
  have hne2 : ∀ n : Nat, n < 42 → ¬ r = n := fun n hn h => by omega
  refine x_metI kN_init (Nat.le_of_ble_eq_true rfl) (fun t m ls st M' h' c n => t = 60 ∧ st = [] ∧ h' = ntH h r ∧ c = 5 ∧ n = 750 ∧ ls 0 = some (xA r) ∧ ls 1 = some (xA 16) ∧ ls 2 = some (xI part) ∧ ls 3 = some (xA 17) ∧ (∀ a j, a < r → M' a j = M a j) ∧ ∃ s e : Nat, s ≤ sN S ∧ e ≤ s ∧ ls 5 = some (xI s) ∧ ls 4 = some (xI e) ∧ m = sN S - s ∧ NE S part s e r M') 20 ?_ ?_
  · simp only [wq_g3, wq_gc, wq_g, wq_g1, wq_g2, eN_init, iN_init_0, iN_init_60, iN_init_160, iN_init_166, vN_init, wps, x_cnd, reduceIte, Nat.reduceAdd, Nat.reduceSub, Nat.reduceEqDiff, Nat.reduceLeDiff, Nat.lt_irrefl, Nat.reduceLT, Int.cast_ofNat_Int, wq_c0, wq_c1, true_and, and_true, and_self, true_implies, forall_const, ne_eq, Decidable.not_not, not_true_eq_false, not_false_eq_true, List.map_nil, List.map_cons, List.sum_nil, List.sum_cons, List.length_cons, List.length_nil, Nat.le_refl, Nat.zero_le, reduceCtorEq, true_or, or_true, false_or, or_false, false_and, and_false, false_implies, Nat.zero_add, Nat.add_zero, fxs F, hk, hn_new, hn_pw, hr, hK_new, hK_pw, hP_new, hP_pw, Nat.add_assoc, Int.reduceToNat]
    have n11 : r ≠ 11 ∧ r ≠ 12 ∧ r ≠ 13 ∧ r ≠ 14 ∧ r ≠ 15 := by omega
    simp only [hne 16 (by decide), n11, false_and, if_false, ne_eq, not_false_eq_true]
    refine ⟨by omega, by simp, by omega, by simp, by omega, by simp, by omega, by simp, by omega, by simp, trivial, sN S, rfl, trivial, fun a j ha => ?_, 0, 0, by omega, by omega, rfl, rfl, rfl, fun i hi => by omega, fun p hp hp2 hp3 => ?_, fun i j hij hj => by omega⟩
    · simp only [x_z_at, hn_pw, hn_new, hr, Nat.add_assoc, Nat.reduceAdd]
      rw [if_neg (by omega), if_neg (by omega), if_neg (by omega), if_neg (by omega), if_neg (by omega)]
    · have := rk_rng (S := S) (k := sN S) (p := p)
      omega
  · rintro t m ls st M' h' c n ⟨rfl, rfl, rfl, rfl, rfl, l0, l1, l2, l3, hfr, s, e, q1, q2, l5, l4, q3, E⟩
    have e0 : M' 17 0 = sN S := (hfr _ _ (by omega)).trans R.n
    simp only [wq_g3, wq_gc, wq_g, wq_g1, wq_g2, eN_init, iN_init_0, iN_init_60, iN_init_160, iN_init_166, vN_init, wps, x_cnd, reduceIte, Nat.reduceAdd, Nat.reduceSub, Nat.reduceEqDiff, Nat.reduceLeDiff, Nat.lt_irrefl, Nat.reduceLT, Int.cast_ofNat_Int, wq_c0, wq_c1, true_and, and_true, and_self, true_implies, forall_const, ne_eq, Decidable.not_not, not_true_eq_false, not_false_eq_true, List.map_nil, List.map_cons, List.sum_nil, List.sum_cons, List.length_cons, List.length_nil, Nat.le_refl, Nat.zero_le, reduceCtorEq, true_or, or_true, false_or, or_false, false_and, and_false, false_implies, Nat.zero_add, Nat.add_zero, fxs F2, nts (ntH_A hr hk), l0, l1, l2, l3, l4, l5, e0]
    have V2 : VR S M' := V.frame (fun a j ha => hfr a j (by omega))
    refine ⟨fun c0 => ?_, fun c0 => ⟨by omega, ?_⟩⟩
    · rw [show s = sN S by omega] at E q2
      exact k _ (fun a j ha => (w_ne (by omega)).trans (hfr a j ha)) (NE_end w h6 q2 E ⟨ntH_A hr hk, h58, by rw [ntH_n hr]; omega⟩)
    obtain ⟨p, p1, p2, p3⟩ := V2.srt (j := s) (by omega)
    rw [p2]
    refine cV_isPlayed F2 w V2 p1 ?_
    have g1 : M' 18 p = sI S p := (hfr _ _ (by omega)).trans (R.id p1)
    have g2 : M' 30 p = lab S p := V2.lab p1
    have g3 : M' 33 p = lt S p := V2.lt p1
    have g4 : M' 19 p = sB S p := (hfr _ _ (by omega)).trans (R.bt p1)
    have g5 : M' (17 + 6) ((part : Int) * 150 + p) = sC S part p := (hfr _ _ (by omega)).trans (R.c p1 h6)
    simp only [wq_g3, wq_gc, wq_g, wq_g1, wq_g2, eN_init, iN_init_0, iN_init_60, iN_init_160, iN_init_166, vN_init, wps, x_cnd, reduceIte, Nat.reduceAdd, Nat.reduceSub, Nat.reduceEqDiff, Nat.reduceLeDiff, Nat.lt_irrefl, Nat.reduceLT, Int.cast_ofNat_Int, wq_c0, wq_c1, true_and, and_true, and_self, true_implies, forall_const, ne_eq, Decidable.not_not, not_true_eq_false, not_false_eq_true, List.map_nil, List.map_cons, List.sum_nil, List.sum_cons, List.length_cons, List.length_nil, Nat.le_refl, Nat.zero_le, reduceCtorEq, true_or, or_true, false_or, or_false, false_and, and_false, false_implies, Nat.zero_add, Nat.add_zero, fxs F2, nts (ntH_A hr hk), l0, l1, l2, l3, l4, l5, e0, b01_0, g1]
    refine ⟨fun c1 => ?_, fun c1 => ⟨by omega, by omega, by omega, ?_⟩⟩
    · simp (disch := omega) only [w32_of]
      exact ⟨sN S - (s + 1), by omega, hfr, s + 1, e, by omega, by omega, rfl, rfl, rfl, NE_skip w E p1 p3 (by
        cases hq : isP S p with
        | false => rfl
        | true => exact absurd (isP_iff.mp hq) c1)⟩
    · simp (disch := omega) only [w_ne]
      rw [g2, g3, g4]
      (repeat refine ⟨by omega, ?_⟩)
      refine cS_contentAt F2.s17 h6 (by omega) ?_
      simp (disch := omega) only [w_ne]
      rw [g5]
      simp only [wq_g3, wq_gc, wq_g, wq_g1, wq_g2, eN_init, iN_init_0, iN_init_60, iN_init_160, iN_init_166, vN_init, wps, x_cnd, reduceIte, Nat.reduceAdd, Nat.reduceSub, Nat.reduceEqDiff, Nat.reduceLeDiff, Nat.lt_irrefl, Nat.reduceLT, Int.cast_ofNat_Int, wq_c0, wq_c1, true_and, and_true, and_self, true_implies, forall_const, ne_eq, Decidable.not_not, not_true_eq_false, not_false_eq_true, List.map_nil, List.map_cons, List.sum_nil, List.sum_cons, List.length_cons, List.length_nil, Nat.le_refl, Nat.zero_le, reduceCtorEq, true_or, or_true, false_or, or_false, false_and, and_false, false_implies, Nat.zero_add, Nat.add_zero, l0, l1, l2, l3, l4, l5, nts (ntH_A hr hk)]
      simp (disch := omega) only [w32_of]
      refine ⟨by omega, sN S - (s + 1), by omega, fun a j ha => (nt5_o (M := M') (by omega)).trans (hfr a j ha), s + 1, e + 1, by omega, by omega, rfl, rfl, rfl, NE_take w E p1 p3 (isP_iff.mpr c1)⟩
end NM
