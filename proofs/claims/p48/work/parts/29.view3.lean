/-! View: what is asked of it -/
theorem VR.n {S : xSr} {M : xM} (V : VR S M) : M 16 1 = pN S := V.1
theorem VR.pb {S : xSr} {M : xM} (V : VR S M) {p : Nat} (h : p < sN S) : M 29 p = pb S p := (V.2.1 p h).1
theorem VR.lab {S : xSr} {M : xM} (V : VR S M) {p : Nat} (h : p < sN S) : M 30 p = lab S p := (V.2.1 p h).2.1
theorem VR.cov {S : xSr} {M : xM} (V : VR S M) {p : Nat} (h : p < sN S) : M 31 p = cov S p := (V.2.1 p h).2.2.1
theorem VR.sit {S : xSr} {M : xM} (V : VR S M) {p : Nat} (h : p < sN S) : M 32 p = sit S p := (V.2.1 p h).2.2.2.1
theorem VR.lt {S : xSr} {M : xM} (V : VR S M) {p : Nat} (h : p < sN S) : M 33 p = lt S p := (V.2.1 p h).2.2.2.2
theorem VR.ppk {S : xSr} {M : xM} (V : VR S M) {k : Nat} (h : (k : Int) < pN S) : M 28 k = pp S k := (V.2.2.1 k h).1
theorem VR.rsn {S : xSr} {M : xM} (V : VR S M) {k : Nat} (h : (k : Int) < pN S) : M 34 (pp S k) = rsn S k := (V.2.2.1 k h).2
theorem VR.srt {S : xSr} {M : xM} (V : VR S M) {j : Nat} (h : j < sN S) : ∃ p : Nat, p < sN S ∧ M 35 j = p ∧ rk S (sN S) p = j := V.2.2.2 j h
theorem VR.VP {S : xSr} {M : xM} (V : VR S M) : VP S M := ⟨V.1, fun _ h => V.pb h, fun _ h => V.ppk h⟩
theorem VR.frame {S : xSr} {M M' : xM} (V : VR S M) (e : ∀ a j, (a = 16 ∧ j = 1) ∨ (28 ≤ a ∧ a ≤ 35) → M' a j = M a j) : VR S M' :=
  ⟨(e _ _ (by omega)).trans V.1, fun p hp => ⟨(e _ _ (by omega)).trans (V.pb hp), (e _ _ (by omega)).trans (V.lab hp), (e _ _ (by omega)).trans (V.cov hp), (e _ _ (by omega)).trans (V.sit hp), (e _ _ (by omega)).trans (V.lt hp)⟩,
    fun k hk => ⟨(e _ _ (by omega)).trans (V.ppk hk), (e _ _ (by omega)).trans (V.rsn hk)⟩, fun j hj => by
      obtain ⟨p, p1, p2, p3⟩ := V.srt hj
      exact ⟨p, p1, (e _ _ (by omega)).trans p2, p3⟩⟩
def hid (S : xSr) (c : Int) : Int := cn (fun p => decide (pl S (sF S c) ≤ p) && (decide (p ≤ pl S (sL S c)) && cov S p == 1)) (sN S)
def lrl (S : xSr) (part : Int) : Nat → Int
  | 0 => 0
  | k + 1 => if stt S part k = true then 1 else lrl S part k + 1
def lrb (S : xSr) (part : Int) : Nat → Int
  | 0 => 0
  | k + 1 => if sC S part (pp S k) = 0 then max (lrb S part k) (lrl S part (k + 1)) else lrb S part k
section VM3
variable {M : xM} {h : xH} {Φ : xO → xM → xH → Prop} {S : xSr} {nid : Int}
set_option maxHeartbeats 1000000
theorem cV_isPlayed (F : Fx h) (w : wfS S nid) (V : VR S M) {p : Nat} (hp : p < sN S) (k : Φ (.inl (some (xI (b01 (cov S p = 0))))) M h) : x_Cal zV_isPlayed [xA 16, xI p] M h Φ := by
  have hN := w.N
  refine x_met0 kV_isPlayed (Nat.le_of_ble_eq_true rfl) ?_
  simp only [wq_g3, wq_gc, wq_g, wq_g1, wq_g2, eV_isPlayed, iV_isPlayed_0, iV_isPlayed_13, iV_isPlayed_14, vV_isPlayed, wps, x_cnd, reduceIte, Nat.reduceAdd, Nat.reduceSub, Nat.reduceEqDiff, Nat.reduceLeDiff, Nat.lt_irrefl, Nat.reduceLT, Int.cast_ofNat_Int, wq_c0, wq_c1, true_and, and_true, and_self, true_implies, forall_const, ne_eq, Decidable.not_not, not_true_eq_false, not_false_eq_true, List.map_nil, List.map_cons, List.sum_nil, List.sum_cons, List.length_cons, List.length_nil, Nat.le_refl, Nat.zero_le, reduceCtorEq, true_or, or_true, false_or, or_false, false_and, and_false, false_implies, Nat.zero_add, Nat.add_zero, fxs F, V.cov hp]
  refine ⟨by omega, fun c0 => ?_, fun c0 => ?_⟩
  · rw [b01_f c0] at k
    exact k
  · rw [b01_t c0] at k
    exact k
theorem cV_placeShown (F : Fx h) (R : repC S M h 17) (w : wfS S nid) (V : VR S M) {l : Int} (k : Φ (.inl (some (xI (shl S l)))) M h) : x_Cal zV_placeShown [xA 16, xI l] M h Φ := by
  have hN := w.N
  refine x_met0 kV_placeShown (Nat.le_of_ble_eq_true rfl) ?_
  simp only [wq_g3, wq_gc, wq_g, wq_g1, wq_g2, eV_placeShown, iV_placeShown_0, iV_placeShown_13, iV_placeShown_39, iV_placeShown_44, vV_placeShown, wps, x_cnd, reduceIte, Nat.reduceAdd, Nat.reduceSub, Nat.reduceEqDiff, Nat.reduceLeDiff, Nat.lt_irrefl, Nat.reduceLT, Int.cast_ofNat_Int, wq_c0, wq_c1, true_and, and_true, and_self, true_implies, forall_const, ne_eq, Decidable.not_not, not_true_eq_false, not_false_eq_true, List.map_nil, List.map_cons, List.sum_nil, List.sum_cons, List.length_cons, List.length_nil, Nat.le_refl, Nat.zero_le, reduceCtorEq, true_or, or_true, false_or, or_false, false_and, and_false, false_implies, Nat.zero_add, Nat.add_zero, fxs F]
  refine cS_hasMark F.s17 ?_
  rw [show (17 : Nat) + 7 = 24 from rfl]
  simp only [wq_g3, wq_gc, wq_g, wq_g1, wq_g2, eV_placeShown, iV_placeShown_0, iV_placeShown_13, iV_placeShown_39, iV_placeShown_44, vV_placeShown, wps, x_cnd, reduceIte, Nat.reduceAdd, Nat.reduceSub, Nat.reduceEqDiff, Nat.reduceLeDiff, Nat.lt_irrefl, Nat.reduceLT, Int.cast_ofNat_Int, wq_c0, wq_c1, true_and, and_true, and_self, true_implies, forall_const, ne_eq, Decidable.not_not, not_true_eq_false, not_false_eq_true, List.map_nil, List.map_cons, List.sum_nil, List.sum_cons, List.length_cons, List.length_nil, Nat.le_refl, Nat.zero_le, reduceCtorEq, true_or, or_true, false_or, or_false, false_and, and_false, false_implies, Nat.zero_add, Nat.add_zero, fxs F, b01_0]
  by_cases hl : 1 ≤ l ∧ l ≤ 40
  · obtain ⟨n, hn⟩ : ∃ n : Nat, l = n := ⟨l.toNat, by omega⟩
    subst hn
    have e : M 24 n = sM S n := R.mk (by omega) (by omega)
    rw [e]
    refine ⟨fun c0 => ⟨by omega, cS_placeOf F.s17 R.n (by omega) ?_⟩, fun c0 => ?_⟩
    · rw [R.fi]
      obtain ⟨q, q1, q2, q3⟩ := w.mkp (l := n) (by omega) (by omega) c0.2.2
      simp only [wq_g3, wq_gc, wq_g, wq_g1, wq_g2, eV_placeShown, iV_placeShown_0, iV_placeShown_13, iV_placeShown_39, iV_placeShown_44, vV_placeShown, wps, x_cnd, reduceIte, Nat.reduceAdd, Nat.reduceSub, Nat.reduceEqDiff, Nat.reduceLeDiff, Nat.lt_irrefl, Nat.reduceLT, Int.cast_ofNat_Int, wq_c0, wq_c1, true_and, and_true, and_self, true_implies, forall_const, ne_eq, Decidable.not_not, not_true_eq_false, not_false_eq_true, List.map_nil, List.map_cons, List.sum_nil, List.sum_cons, List.length_cons, List.length_nil, Nat.le_refl, Nat.zero_le, reduceCtorEq, true_or, or_true, false_or, or_false, false_and, and_false, false_implies, Nat.zero_add, Nat.add_zero, fxs F, q3]
      refine cV_firstPlayed F w V.VP q1 ?_
      simp only [wq_g3, wq_gc, wq_g, wq_g1, wq_g2, eV_placeShown, iV_placeShown_0, iV_placeShown_13, iV_placeShown_39, iV_placeShown_44, vV_placeShown, wps, x_cnd, reduceIte, Nat.reduceAdd, Nat.reduceSub, Nat.reduceEqDiff, Nat.reduceLeDiff, Nat.lt_irrefl, Nat.reduceLT, Int.cast_ofNat_Int, wq_c0, wq_c1, true_and, and_true, and_self, true_implies, forall_const, ne_eq, Decidable.not_not, not_true_eq_false, not_false_eq_true, List.map_nil, List.map_cons, List.sum_nil, List.sum_cons, List.length_cons, List.length_nil, Nat.le_refl, Nat.zero_le, reduceCtorEq, true_or, or_true, false_or, or_false, false_and, and_false, false_implies, Nat.zero_add, Nat.add_zero, fxs F]
      refine kr k ?_
      unfold shl
      rw [if_pos ⟨hl.1, hl.2, c0.2.2⟩, q3]
      rfl
    · refine kr k ?_
      unfold shl
      rw [if_neg (fun q => c0 ⟨q.1, q.2.1, q.2.2⟩)]
  · refine ⟨fun c0 => by omega, fun c0 => kr k ?_⟩
    unfold shl
    rw [if_neg (by omega)]
theorem shl_rng {l : Int} : -1 ≤ shl S l ∧ shl S l < sN S := by
  unfold shl
  split
  · exact sh_rng
  · omega
theorem cts_rng {l : Int} : -1 ≤ cts S l ∧ cts S l < sN S := by
  unfold cts
  split
  · exact shl_rng
  · omega
theorem cV_placeOfLetter (F : Fx h) (R : repC S M h 17) (w : wfS S nid) (V : VR S M) {l : Int} (k : Φ (.inl (some (xI (cts S l)))) M h) : x_Cal zV_placeOfLetter [xA 16, xI l] M h Φ := by
  have hN := w.N
  have hr := shl_rng (S := S) (l := l)
  refine x_met0 kV_placeOfLetter (Nat.le_of_ble_eq_true rfl) ?_
  simp only [wq_g3, wq_gc, wq_g, wq_g1, wq_g2, eV_placeOfLetter, iV_placeOfLetter_0, iV_placeOfLetter_25, iV_placeOfLetter_26, vV_placeOfLetter, wps, x_cnd, reduceIte, Nat.reduceAdd, Nat.reduceSub, Nat.reduceEqDiff, Nat.reduceLeDiff, Nat.lt_irrefl, Nat.reduceLT, Int.cast_ofNat_Int, wq_c0, wq_c1, true_and, and_true, and_self, true_implies, forall_const, ne_eq, Decidable.not_not, not_true_eq_false, not_false_eq_true, List.map_nil, List.map_cons, List.sum_nil, List.sum_cons, List.length_cons, List.length_nil, Nat.le_refl, Nat.zero_le, reduceCtorEq, true_or, or_true, false_or, or_false, false_and, and_false, false_implies, Nat.zero_add, Nat.add_zero, fxs F]
  refine cV_placeShown F R w V ?_
  simp only [wq_g3, wq_gc, wq_g, wq_g1, wq_g2, eV_placeOfLetter, iV_placeOfLetter_0, iV_placeOfLetter_25, iV_placeOfLetter_26, vV_placeOfLetter, wps, x_cnd, reduceIte, Nat.reduceAdd, Nat.reduceSub, Nat.reduceEqDiff, Nat.reduceLeDiff, Nat.lt_irrefl, Nat.reduceLT, Int.cast_ofNat_Int, wq_c0, wq_c1, true_and, and_true, and_self, true_implies, forall_const, ne_eq, Decidable.not_not, not_true_eq_false, not_false_eq_true, List.map_nil, List.map_cons, List.sum_nil, List.sum_cons, List.length_cons, List.length_nil, Nat.le_refl, Nat.zero_le, reduceCtorEq, true_or, or_true, false_or, or_false, false_and, and_false, false_implies, Nat.zero_add, Nat.add_zero, fxs F]
  refine ⟨fun c0 => ?_, fun c0 => ⟨by omega, ?_⟩⟩
  · refine kr k ?_
    unfold cts
    rw [if_neg (by omega)]
  · obtain ⟨n, hn⟩ : ∃ n : Nat, shl S l = n := ⟨(shl S l).toNat, by omega⟩
    have e : M 33 n = lt S n := V.lt (by omega)
    rw [hn, e]
    unfold cts at k
    rw [hn] at k
    refine ⟨fun c1 => ?_, fun c1 => ?_⟩
    · refine kr k ?_
      rw [if_neg (by omega)]
    · refine kr k ?_
      rw [if_pos (by omega)]
theorem cV_sumBeats (F : Fx h) (R : repC S M h 17) (w : wfS S nid) (V : VR S M) {a b : Nat} (hab : a ≤ b) (hb : (b : Int) ≤ pN S) (k : Φ (.inl (some (xI (bts S a b)))) M h) : x_Cal zV_sumBeats [xA 16, xI a, xI b] M h Φ := by
  have hN := w.N
  have hpn := pN_rng (S := S)
  refine x_metI kV_sumBeats (Nat.le_of_ble_eq_true rfl) (fun t m ls st M' h' cc n => t = 5 ∧ st = [] ∧ M' = M ∧ h' = h ∧ cc = 0 ∧ n = 0 ∧ ls 0 = some (xA 16) ∧ ls 2 = some (xI b) ∧ ∃ p : Nat, a ≤ p ∧ p ≤ b ∧ ls 4 = some (xI p) ∧ m = b - p ∧ ls 3 = some (xI (bts S a p))) 20 ?_ ?_
  · simp only [wq_g3, wq_gc, wq_g, wq_g1, wq_g2, eV_sumBeats, iV_sumBeats_0, iV_sumBeats_5, iV_sumBeats_35, vV_sumBeats, wps, x_cnd, reduceIte, Nat.reduceAdd, Nat.reduceSub, Nat.reduceEqDiff, Nat.reduceLeDiff, Nat.lt_irrefl, Nat.reduceLT, Int.cast_ofNat_Int, wq_c0, wq_c1, true_and, and_true, and_self, true_implies, forall_const, ne_eq, Decidable.not_not, not_true_eq_false, not_false_eq_true, List.map_nil, List.map_cons, List.sum_nil, List.sum_cons, List.length_cons, List.length_nil, Nat.le_refl, Nat.zero_le, reduceCtorEq, true_or, or_true, false_or, or_false, false_and, and_false, false_implies, Nat.zero_add, Nat.add_zero, fxs F]
    exact ⟨b - a, a, by omega, by omega, rfl, rfl, by rw [bts, sm_z (Nat.le_refl _)]⟩
  · rintro t m ls st M' h' cc n ⟨rfl, rfl, rfl, rfl, rfl, rfl, l0, l2, p, p1, p2, l4, p3, l3⟩
    have hs : 0 ≤ bts S a p ∧ bts S a p ≤ 12 * p := sm_rng (by omega) (fun q q1 q2 => by
      obtain ⟨r, r1, r2, r3, r4⟩ := pp_some (S := S) (k := (q : Int)) (by omega) (by omega)
      rw [r4]
      have := w.b r1
      omega)
    simp only [wq_g3, wq_gc, wq_g, wq_g1, wq_g2, eV_sumBeats, iV_sumBeats_0, iV_sumBeats_5, iV_sumBeats_35, vV_sumBeats, wps, x_cnd, reduceIte, Nat.reduceAdd, Nat.reduceSub, Nat.reduceEqDiff, Nat.reduceLeDiff, Nat.lt_irrefl, Nat.reduceLT, Int.cast_ofNat_Int, wq_c0, wq_c1, true_and, and_true, and_self, true_implies, forall_const, ne_eq, Decidable.not_not, not_true_eq_false, not_false_eq_true, List.map_nil, List.map_cons, List.sum_nil, List.sum_cons, List.length_cons, List.length_nil, Nat.le_refl, Nat.zero_le, reduceCtorEq, true_or, or_true, false_or, or_false, false_and, and_false, false_implies, Nat.zero_add, Nat.add_zero, fxs F, l0, l2, l3, l4]
    refine ⟨fun c0 => ?_, fun c0 => ?_⟩
    · rw [show p = b by omega]
      exact k
    · obtain ⟨r, r1, r2, r3, r4⟩ := pp_some (S := S) (k := (p : Int)) (by omega) (by omega)
      have e1 : M' 28 p = r := (V.ppk (by omega)).trans r4
      have e2 : M' 19 r = sB S r := R.bt r1
      have e3 := w.b r1
      rw [e1, e2]
      simp (disch := omega) only [w32_of]
      refine ⟨by omega, by omega, b - (p + 1), by omega, p + 1, by omega, by omega, rfl, rfl, ?_⟩
      unfold bts
      rw [sm_s p1, r4]
theorem cV_startsItem (F : Fx h) (R : repC S M h 17) (w : wfS S nid) (V : VR S M) {part i : Nat} (h6 : part < 6) (hi : (i : Int) < pN S) (k : Φ (.inl (some (xI (b01 (stt S part i = true))))) M h) : x_Cal zV_startsItem [xA 16, xI part, xI i] M h Φ := by
  have hN := w.N
  have hpn := pN_rng (S := S)
  refine x_met0 kV_startsItem (Nat.le_of_ble_eq_true rfl) ?_
  simp only [wq_g3, wq_gc, wq_g, wq_g1, wq_g2, eV_startsItem, iV_startsItem_0, iV_startsItem_6, iV_startsItem_57, iV_startsItem_61, iV_startsItem_62, vV_startsItem, wps, x_cnd, reduceIte, Nat.reduceAdd, Nat.reduceSub, Nat.reduceEqDiff, Nat.reduceLeDiff, Nat.lt_irrefl, Nat.reduceLT, Int.cast_ofNat_Int, wq_c0, wq_c1, true_and, and_true, and_self, true_implies, forall_const, ne_eq, Decidable.not_not, not_true_eq_false, not_false_eq_true, List.map_nil, List.map_cons, List.sum_nil, List.sum_cons, List.length_cons, List.length_nil, Nat.le_refl, Nat.zero_le, reduceCtorEq, true_or, or_true, false_or, or_false, false_and, and_false, false_implies, Nat.zero_add, Nat.add_zero, fxs F]
  by_cases hi0 : i = 0
  · subst hi0
    refine ⟨fun c0 => absurd rfl c0, fun c0 => kr k ?_⟩
    rw [b01_t (by simp [stt])]
  · refine ⟨fun c0 => ?_, fun c0 => by omega⟩
    obtain ⟨r, r1, r2, r3, r4⟩ := pp_some (S := S) (k := (i : Int)) (by omega) (by omega)
    obtain ⟨q, q1, q2, q3, q4⟩ := pp_some (S := S) (k := ((i - 1 : Nat) : Int)) (by omega) (by omega)
    have e1 : M 28 i = r := (V.ppk hi).trans r4
    have e2 : M 28 ((i : Int) - 1) = q := by
      rw [show (i : Int) - 1 = ((i - 1 : Nat) : Int) by omega]
      exact (V.ppk (k := i - 1) (by omega)).trans q4
    have e3 : M 34 r = rsn S i := by
      rw [← r4]
      exact V.rsn hi
    have e4 : pp S ((i : Int) - 1) = q := by
      rw [show (i : Int) - 1 = ((i - 1 : Nat) : Int) by omega]
      exact q4
    simp (disch := omega) only [w32_of]
    rw [e1, e2]
    have k2 : ∀ v : Int, (v = 1 ∨ v = 0) → (v = 1 ↔ stt S part i = true) → Φ (.inl (some (xI v))) M h := fun v hv hw => by
      refine kr k ?_
      by_cases hs : stt S part i = true
      · rw [b01_t hs, hw.mpr hs]
      · rw [b01_f hs]
        rcases hv with hv | hv
        · exact absurd (hw.mp hv) hs
        · exact hv.symm
    have hst : stt S part i = true ↔ (sC S part r ≠ 0 ∨ sC S part q ≠ 0 ∨ rsn S i ≠ 0) := by
      unfold stt
      rw [r4, e4]
      simp
      omega
    refine ⟨by omega, by omega, cS_contentAt F.s17 h6 (by omega) ?_⟩
    have g1 : M (17 + 6) ((part : Int) * 150 + r) = sC S part r := R.c r1 h6
    have g2 : M (17 + 6) ((part : Int) * 150 + q) = sC S part q := R.c q1 h6
    rw [g1]
    simp only [wq_g3, wq_gc, wq_g, wq_g1, wq_g2, eV_startsItem, iV_startsItem_0, iV_startsItem_6, iV_startsItem_57, iV_startsItem_61, iV_startsItem_62, vV_startsItem, wps, x_cnd, reduceIte, Nat.reduceAdd, Nat.reduceSub, Nat.reduceEqDiff, Nat.reduceLeDiff, Nat.lt_irrefl, Nat.reduceLT, Int.cast_ofNat_Int, wq_c0, wq_c1, true_and, and_true, and_self, true_implies, forall_const, ne_eq, Decidable.not_not, not_true_eq_false, not_false_eq_true, List.map_nil, List.map_cons, List.sum_nil, List.sum_cons, List.length_cons, List.length_nil, Nat.le_refl, Nat.zero_le, reduceCtorEq, true_or, or_true, false_or, or_false, false_and, and_false, false_implies, Nat.zero_add, Nat.add_zero, fxs F]
    refine ⟨fun c1 => k2 1 (Or.inl rfl) ⟨fun _ => hst.mpr (Or.inl c1), fun _ => rfl⟩, fun c1 => cS_contentAt F.s17 h6 (by omega) ?_⟩
    rw [g2]
    simp only [wq_g3, wq_gc, wq_g, wq_g1, wq_g2, eV_startsItem, iV_startsItem_0, iV_startsItem_6, iV_startsItem_57, iV_startsItem_61, iV_startsItem_62, vV_startsItem, wps, x_cnd, reduceIte, Nat.reduceAdd, Nat.reduceSub, Nat.reduceEqDiff, Nat.reduceLeDiff, Nat.lt_irrefl, Nat.reduceLT, Int.cast_ofNat_Int, wq_c0, wq_c1, true_and, and_true, and_self, true_implies, forall_const, ne_eq, Decidable.not_not, not_true_eq_false, not_false_eq_true, List.map_nil, List.map_cons, List.sum_nil, List.sum_cons, List.length_cons, List.length_nil, Nat.le_refl, Nat.zero_le, reduceCtorEq, true_or, or_true, false_or, or_false, false_and, and_false, false_implies, Nat.zero_add, Nat.add_zero, fxs F, e3]
    refine ⟨fun c2 => k2 1 (Or.inl rfl) ⟨fun _ => hst.mpr (Or.inr (Or.inl c2)), fun _ => rfl⟩, fun c2 => ⟨by omega, fun c3 => k2 0 (Or.inr rfl) ⟨fun h => by omega, fun h => by have := hst.mp h; omega⟩, fun c3 => k2 1 (Or.inl rfl) ⟨fun _ => hst.mpr (Or.inr (Or.inr c3)), fun _ => rfl⟩⟩⟩
theorem cV_countItems (F : Fx h) (R : repC S M h 17) (w : wfS S nid) (V : VR S M) {part e : Nat} (h6 : part < 6) (he : (e : Int) ≤ pN S) (k : Φ (.inl (some (xI (cn (stt S part) e)))) M h) : x_Cal zV_countItems [xA 16, xI part, xI e] M h Φ := by
  have hN := w.N
  have hpn := pN_rng (S := S)
  refine x_metI kV_countItems (Nat.le_of_ble_eq_true rfl) (fun t m ls st M' h' cc n => t = 5 ∧ st = [] ∧ M' = M ∧ h' = h ∧ cc = 0 ∧ n = 0 ∧ ls 0 = some (xA 16) ∧ ls 1 = some (xI part) ∧ ls 2 = some (xI e) ∧ ∃ p : Nat, p ≤ e ∧ ls 4 = some (xI p) ∧ m = e - p ∧ ls 3 = some (xI (cn (stt S part) p))) 20 ?_ ?_
  · simp only [wq_g3, wq_gc, wq_g, wq_g1, wq_g2, eV_countItems, iV_countItems_0, iV_countItems_5, iV_countItems_26, iV_countItems_27, iV_countItems_35, vV_countItems, wps, x_cnd, reduceIte, Nat.reduceAdd, Nat.reduceSub, Nat.reduceEqDiff, Nat.reduceLeDiff, Nat.lt_irrefl, Nat.reduceLT, Int.cast_ofNat_Int, wq_c0, wq_c1, true_and, and_true, and_self, true_implies, forall_const, ne_eq, Decidable.not_not, not_true_eq_false, not_false_eq_true, List.map_nil, List.map_cons, List.sum_nil, List.sum_cons, List.length_cons, List.length_nil, Nat.le_refl, Nat.zero_le, reduceCtorEq, true_or, or_true, false_or, or_false, false_and, and_false, false_implies, Nat.zero_add, Nat.add_zero]
    exact ⟨e, 0, by omega, rfl, rfl, rfl⟩
  · rintro t m ls st M' h' cc n ⟨rfl, rfl, rfl, rfl, rfl, rfl, l0, l1, l2, p, p2, l4, p3, l3⟩
    have hcn := cn_rng (P := stt S part) (n := p)
    simp only [wq_g3, wq_gc, wq_g, wq_g1, wq_g2, eV_countItems, iV_countItems_0, iV_countItems_5, iV_countItems_26, iV_countItems_27, iV_countItems_35, vV_countItems, wps, x_cnd, reduceIte, Nat.reduceAdd, Nat.reduceSub, Nat.reduceEqDiff, Nat.reduceLeDiff, Nat.lt_irrefl, Nat.reduceLT, Int.cast_ofNat_Int, wq_c0, wq_c1, true_and, and_true, and_self, true_implies, forall_const, ne_eq, Decidable.not_not, not_true_eq_false, not_false_eq_true, List.map_nil, List.map_cons, List.sum_nil, List.sum_cons, List.length_cons, List.length_nil, Nat.le_refl, Nat.zero_le, reduceCtorEq, true_or, or_true, false_or, or_false, false_and, and_false, false_implies, Nat.zero_add, Nat.add_zero, fxs F, l0, l1, l2, l3, l4]
    refine ⟨fun c0 => ?_, fun c0 => cV_startsItem F R w V h6 (by omega) ?_⟩
    · rw [show p = e by omega] 
      exact k
    simp only [wq_g3, wq_gc, wq_g, wq_g1, wq_g2, eV_countItems, iV_countItems_0, iV_countItems_5, iV_countItems_26, iV_countItems_27, iV_countItems_35, vV_countItems, wps, x_cnd, reduceIte, Nat.reduceAdd, Nat.reduceSub, Nat.reduceEqDiff, Nat.reduceLeDiff, Nat.lt_irrefl, Nat.reduceLT, Int.cast_ofNat_Int, wq_c0, wq_c1, true_and, and_true, and_self, true_implies, forall_const, ne_eq, Decidable.not_not, not_true_eq_false, not_false_eq_true, List.map_nil, List.map_cons, List.sum_nil, List.sum_cons, List.length_cons, List.length_nil, Nat.le_refl, Nat.zero_le, reduceCtorEq, true_or, or_true, false_or, or_false, false_and, and_false, false_implies, Nat.zero_add, Nat.add_zero, fxs F, l0, l1, l2, l3, l4, b01_0]
    refine ⟨fun c1 => ?_, fun c1 => ?_⟩
    · simp (disch := omega) only [w32_of]
      refine ⟨e - (p + 1), by omega, p + 1, by omega, rfl, rfl, ?_⟩
      rw [cn_s0 (by simpa using c1)]
      simp
    · simp (disch := omega) only [w32_of]
      refine ⟨e - (p + 1), by omega, p + 1, by omega, rfl, rfl, ?_⟩
      rw [cn_s1 c1]
theorem cV_startOfItem (F : Fx h) (R : repC S M h 17) (w : wfS S nid) (V : VR S M) {part : Nat} {it : Int} (h6 : part < 6) (k : Φ (.inl (some (xI (nth (stt S part) (pN S).toNat it)))) M h) : x_Cal zV_startOfItem [xA 16, xI part, xI it] M h Φ := by
  have hN := w.N
  have hpn := pN_rng (S := S)
  refine x_metI kV_startOfItem (Nat.le_of_ble_eq_true rfl) (fun t m ls st M' h' cc n => t = 5 ∧ st = [] ∧ M' = M ∧ h' = h ∧ cc = 0 ∧ n = 0 ∧ ls 0 = some (xA 16) ∧ ls 1 = some (xI part) ∧ ls 2 = some (xI it) ∧ ∃ p : Nat, (p : Int) ≤ pN S ∧ ls 4 = some (xI p) ∧ m = 150 - p ∧ ls 3 = some (xI (cn (stt S part) p)) ∧ (it < 0 ∨ cn (stt S part) p ≤ it)) 20 ?_ ?_
  · simp only [wq_g3, wq_gc, wq_g, wq_g1, wq_g2, eV_startOfItem, iV_startOfItem_0, iV_startOfItem_5, iV_startOfItem_32, iV_startOfItem_35, iV_startOfItem_41, vV_startOfItem, wps, x_cnd, reduceIte, Nat.reduceAdd, Nat.reduceSub, Nat.reduceEqDiff, Nat.reduceLeDiff, Nat.lt_irrefl, Nat.reduceLT, Int.cast_ofNat_Int, wq_c0, wq_c1, true_and, and_true, and_self, true_implies, forall_const, ne_eq, Decidable.not_not, not_true_eq_false, not_false_eq_true, List.map_nil, List.map_cons, List.sum_nil, List.sum_cons, List.length_cons, List.length_nil, Nat.le_refl, Nat.zero_le, reduceCtorEq, true_or, or_true, false_or, or_false, false_and, and_false, false_implies, Nat.zero_add, Nat.add_zero]
    exact ⟨_, 0, by omega, rfl, rfl, rfl, by rw [cn_z]; omega⟩
  · rintro t m ls st M' h' cc n ⟨rfl, rfl, rfl, rfl, rfl, rfl, l0, l1, l2, p, p2, l4, p3, l3, p4⟩
    have hcn := cn_rng (P := stt S part) (n := p)
    simp only [wq_g3, wq_gc, wq_g, wq_g1, wq_g2, eV_startOfItem, iV_startOfItem_0, iV_startOfItem_5, iV_startOfItem_32, iV_startOfItem_35, iV_startOfItem_41, vV_startOfItem, wps, x_cnd, reduceIte, Nat.reduceAdd, Nat.reduceSub, Nat.reduceEqDiff, Nat.reduceLeDiff, Nat.lt_irrefl, Nat.reduceLT, Int.cast_ofNat_Int, wq_c0, wq_c1, true_and, and_true, and_self, true_implies, forall_const, ne_eq, Decidable.not_not, not_true_eq_false, not_false_eq_true, List.map_nil, List.map_cons, List.sum_nil, List.sum_cons, List.length_cons, List.length_nil, Nat.le_refl, Nat.zero_le, reduceCtorEq, true_or, or_true, false_or, or_false, false_and, and_false, false_implies, Nat.zero_add, Nat.add_zero, fxs F, l0, l1, l2, l3, l4, V.n]
    refine ⟨fun c0 => ?_, fun c0 => cV_startsItem F R w V h6 (by omega) ?_⟩
    · refine kr k ?_
      rw [show (pN S).toNat = p by omega]
      exact nth_none p4
    simp only [wq_g3, wq_gc, wq_g, wq_g1, wq_g2, eV_startOfItem, iV_startOfItem_0, iV_startOfItem_5, iV_startOfItem_32, iV_startOfItem_35, iV_startOfItem_41, vV_startOfItem, wps, x_cnd, reduceIte, Nat.reduceAdd, Nat.reduceSub, Nat.reduceEqDiff, Nat.reduceLeDiff, Nat.lt_irrefl, Nat.reduceLT, Int.cast_ofNat_Int, wq_c0, wq_c1, true_and, and_true, and_self, true_implies, forall_const, ne_eq, Decidable.not_not, not_true_eq_false, not_false_eq_true, List.map_nil, List.map_cons, List.sum_nil, List.sum_cons, List.length_cons, List.length_nil, Nat.le_refl, Nat.zero_le, reduceCtorEq, true_or, or_true, false_or, or_false, false_and, and_false, false_implies, Nat.zero_add, Nat.add_zero, fxs F, l0, l1, l2, l3, l4, b01_0]
    refine ⟨fun c1 => ?_, fun c1 => ⟨fun c2 => ?_, fun c2 => ?_⟩⟩
    · simp (disch := omega) only [w32_of]
      refine ⟨150 - (p + 1), by omega, p + 1, by omega, rfl, rfl, ?_⟩
      rw [cn_s0 (by simpa using c1)]
      exact ⟨rfl, p4⟩
    · simp (disch := omega) only [w32_of]
      refine ⟨150 - (p + 1), by omega, p + 1, by omega, rfl, rfl, ?_⟩
      rw [cn_s1 c1]
      exact ⟨rfl, by omega⟩
    · refine kr k ?_
      rw [← c2]
      exact nth_at (by omega) c1
theorem cV_endOfItem (F : Fx h) (R : repC S M h 17) (w : wfS S nid) (V : VR S M) {part s : Nat} (h6 : part < 6) (hs : (s : Int) < pN S) (k : Φ (.inl (some (xI (nx (stt S part) s (pN S).toNat)))) M h) : x_Cal zV_endOfItem [xA 16, xI part, xI s] M h Φ := by
  have hN := w.N
  have hpn := pN_rng (S := S)
  refine x_metI kV_endOfItem (Nat.le_of_ble_eq_true rfl) (fun t m ls st M' h' cc n => t = 4 ∧ st = [] ∧ M' = M ∧ h' = h ∧ cc = 0 ∧ n = 0 ∧ ls 0 = some (xA 16) ∧ ls 1 = some (xI part) ∧ ∃ p : Nat, (p : Int) ≤ pN S ∧ s < p ∧ ls 3 = some (xI p) ∧ m = 150 - p ∧ ∀ q : Nat, s < q → q < p → stt S part q = false) 20 ?_ ?_
  · simp only [wq_g3, wq_gc, wq_g, wq_g1, wq_g2, eV_endOfItem, iV_endOfItem_0, iV_endOfItem_4, iV_endOfItem_23, iV_endOfItem_29, vV_endOfItem, wps, x_cnd, reduceIte, Nat.reduceAdd, Nat.reduceSub, Nat.reduceEqDiff, Nat.reduceLeDiff, Nat.lt_irrefl, Nat.reduceLT, Int.cast_ofNat_Int, wq_c0, wq_c1, true_and, and_true, and_self, true_implies, forall_const, ne_eq, Decidable.not_not, not_true_eq_false, not_false_eq_true, List.map_nil, List.map_cons, List.sum_nil, List.sum_cons, List.length_cons, List.length_nil, Nat.le_refl, Nat.zero_le, reduceCtorEq, true_or, or_true, false_or, or_false, false_and, and_false, false_implies, Nat.zero_add, Nat.add_zero]
    simp (disch := omega) only [w32_of]
    exact ⟨_, s + 1, by omega, by omega, rfl, rfl, fun q h1 h2 => by omega⟩
  · rintro t m ls st M' h' cc n ⟨rfl, rfl, rfl, rfl, rfl, rfl, l0, l1, p, p2, p3, l3, p4, p5⟩
    simp only [wq_g3, wq_gc, wq_g, wq_g1, wq_g2, eV_endOfItem, iV_endOfItem_0, iV_endOfItem_4, iV_endOfItem_23, iV_endOfItem_29, vV_endOfItem, wps, x_cnd, reduceIte, Nat.reduceAdd, Nat.reduceSub, Nat.reduceEqDiff, Nat.reduceLeDiff, Nat.lt_irrefl, Nat.reduceLT, Int.cast_ofNat_Int, wq_c0, wq_c1, true_and, and_true, and_self, true_implies, forall_const, ne_eq, Decidable.not_not, not_true_eq_false, not_false_eq_true, List.map_nil, List.map_cons, List.sum_nil, List.sum_cons, List.length_cons, List.length_nil, Nat.le_refl, Nat.zero_le, reduceCtorEq, true_or, or_true, false_or, or_false, false_and, and_false, false_implies, Nat.zero_add, Nat.add_zero, fxs F, l0, l1, l3, V.n]
    refine ⟨fun c0 => ?_, fun c0 => cV_startsItem F R w V h6 (by omega) ?_⟩
    · refine kr k ?_
      rw [nx_eq (r := p) (by omega) p5 (by omega)]
      omega
    simp only [wq_g3, wq_gc, wq_g, wq_g1, wq_g2, eV_endOfItem, iV_endOfItem_0, iV_endOfItem_4, iV_endOfItem_23, iV_endOfItem_29, vV_endOfItem, wps, x_cnd, reduceIte, Nat.reduceAdd, Nat.reduceSub, Nat.reduceEqDiff, Nat.reduceLeDiff, Nat.lt_irrefl, Nat.reduceLT, Int.cast_ofNat_Int, wq_c0, wq_c1, true_and, and_true, and_self, true_implies, forall_const, ne_eq, Decidable.not_not, not_true_eq_false, not_false_eq_true, List.map_nil, List.map_cons, List.sum_nil, List.sum_cons, List.length_cons, List.length_nil, Nat.le_refl, Nat.zero_le, reduceCtorEq, true_or, or_true, false_or, or_false, false_and, and_false, false_implies, Nat.zero_add, Nat.add_zero, fxs F, l0, l1, l3, b01_0]
    refine ⟨fun c1 => ?_, fun c1 => ?_⟩
    · simp (disch := omega) only [w32_of]
      refine ⟨150 - (p + 1), by omega, p + 1, by omega, by omega, rfl, rfl, fun q h1 h2 => ?_⟩
      by_cases hq : q = p
      · subst hq
        simpa using c1
      · exact p5 q h1 (by omega)
    · refine kr k ?_
      rw [nx_eq (r := p) (by omega) p5 (fun _ => ⟨p3, c1⟩)]
theorem lrl_s (S : xSr) (part : Int) (k : Nat) : lrl S part (k + 1) = if stt S part k = true then 1 else lrl S part k + 1 := rfl
theorem lrb_s (S : xSr) (part : Int) (k : Nat) : lrb S part (k + 1) = if sC S part (pp S k) = 0 then max (lrb S part k) (lrl S part (k + 1)) else lrb S part k := rfl
theorem lrl_rng (S : xSr) (part : Int) : ∀ k : Nat, 0 ≤ lrl S part k ∧ lrl S part k ≤ k
  | 0 => ⟨Int.le_refl _, Int.le_refl _⟩
  | k + 1 => by
    have := lrl_rng S part k
    rw [lrl_s]
    split <;> omega
theorem cV_longestRestOf (F : Fx h) (R : repC S M h 17) (w : wfS S nid) (V : VR S M) {part : Nat} (h6 : part < 6) (k : Φ (.inl (some (xI (lrb S part (pN S).toNat)))) M h) : x_Cal zV_longestRestOf [xA 16, xI part] M h Φ := by
  have hN := w.N
  have hpn := pN_rng (S := S)
  refine x_metI kV_longestRestOf (Nat.le_of_ble_eq_true rfl) (fun t m ls st M' h' cc n => t = 7 ∧ st = [] ∧ M' = M ∧ h' = h ∧ cc = 0 ∧ n = 0 ∧ ls 0 = some (xA 16) ∧ ls 1 = some (xI part) ∧ ∃ p : Nat, (p : Int) ≤ pN S ∧ ls 4 = some (xI p) ∧ m = 150 - p ∧ ls 2 = some (xI (lrb S part p)) ∧ ls 3 = some (xI (lrl S part p))) 20 ?_ ?_
  · simp only [wq_g3, wq_gc, wq_g, wq_g1, wq_g2, eV_longestRestOf, iV_longestRestOf_0, iV_longestRestOf_7, iV_longestRestOf_30, iV_longestRestOf_33, iV_longestRestOf_58, iV_longestRestOf_64, vV_longestRestOf, wps, x_cnd, reduceIte, Nat.reduceAdd, Nat.reduceSub, Nat.reduceEqDiff, Nat.reduceLeDiff, Nat.lt_irrefl, Nat.reduceLT, Int.cast_ofNat_Int, wq_c0, wq_c1, true_and, and_true, and_self, true_implies, forall_const, ne_eq, Decidable.not_not, not_true_eq_false, not_false_eq_true, List.map_nil, List.map_cons, List.sum_nil, List.sum_cons, List.length_cons, List.length_nil, Nat.le_refl, Nat.zero_le, reduceCtorEq, true_or, or_true, false_or, or_false, false_and, and_false, false_implies, Nat.zero_add, Nat.add_zero]
    exact ⟨_, 0, by omega, rfl, rfl, rfl, rfl⟩
  · rintro t m ls st M' h' cc n ⟨rfl, rfl, rfl, rfl, rfl, rfl, l0, l1, p, p2, l4, p3, l2, l3⟩
    have hl := lrl_rng S part p
    simp only [wq_g3, wq_gc, wq_g, wq_g1, wq_g2, eV_longestRestOf, iV_longestRestOf_0, iV_longestRestOf_7, iV_longestRestOf_30, iV_longestRestOf_33, iV_longestRestOf_58, iV_longestRestOf_64, vV_longestRestOf, wps, x_cnd, reduceIte, Nat.reduceAdd, Nat.reduceSub, Nat.reduceEqDiff, Nat.reduceLeDiff, Nat.lt_irrefl, Nat.reduceLT, Int.cast_ofNat_Int, wq_c0, wq_c1, true_and, and_true, and_self, true_implies, forall_const, ne_eq, Decidable.not_not, not_true_eq_false, not_false_eq_true, List.map_nil, List.map_cons, List.sum_nil, List.sum_cons, List.length_cons, List.length_nil, Nat.le_refl, Nat.zero_le, reduceCtorEq, true_or, or_true, false_or, or_false, false_and, and_false, false_implies, Nat.zero_add, Nat.add_zero, fxs F, l0, l1, l2, l3, l4, V.n]
    refine ⟨fun c0 => ?_, fun c0 => cV_startsItem F R w V h6 (by omega) ?_⟩
    · refine kr k ?_
      rw [show (pN S).toNat = p by omega]
    obtain ⟨r, r1, r2, r3, r4⟩ := pp_some (S := S) (k := (p : Int)) (by omega) (by omega)
    have e1 : M' 28 p = r := (V.ppk (by omega)).trans r4
    have g1 : M' (17 + 6) ((part : Int) * 150 + r) = sC S part r := R.c r1 h6
    have hfin : ∀ v u : Int, v = lrl S part (p + 1) → u = lrb S part (p + 1) → ∃ m2, m2 < m ∧ ∃ p_1 : Nat, (p_1 : Int) ≤ pN S ∧ some (xI (w32 ((p : Int) + 1))) = some (xI p_1) ∧ m2 = 150 - p_1 ∧ some (xI u) = some (xI (lrb S part p_1)) ∧ some (xI v) = some (xI (lrl S part p_1)) := fun v u hv hu =>
      ⟨150 - (p + 1), by omega, p + 1, by omega, by rw [w32_of (by omega)]; rfl, rfl, by rw [hu], by rw [hv]⟩
    simp only [wq_g3, wq_gc, wq_g, wq_g1, wq_g2, eV_longestRestOf, iV_longestRestOf_0, iV_longestRestOf_7, iV_longestRestOf_30, iV_longestRestOf_33, iV_longestRestOf_58, iV_longestRestOf_64, vV_longestRestOf, wps, x_cnd, reduceIte, Nat.reduceAdd, Nat.reduceSub, Nat.reduceEqDiff, Nat.reduceLeDiff, Nat.lt_irrefl, Nat.reduceLT, Int.cast_ofNat_Int, wq_c0, wq_c1, true_and, and_true, and_self, true_implies, forall_const, ne_eq, Decidable.not_not, not_true_eq_false, not_false_eq_true, List.map_nil, List.map_cons, List.sum_nil, List.sum_cons, List.length_cons, List.length_nil, Nat.le_refl, Nat.zero_le, reduceCtorEq, true_or, or_true, false_or, or_false, false_and, and_false, false_implies, Nat.zero_add, Nat.add_zero, fxs F, l0, l1, l2, l3, l4, b01_0, e1]
    refine ⟨fun c1 => ?_, fun c1 => ?_⟩
    · rw [w32_of (x := lrl S part p + 1) (by omega)]
      have hv : lrl S part p + 1 = lrl S part (p + 1) := by rw [lrl_s, if_neg c1]
      refine ⟨by omega, cS_contentAt F.s17 h6 (by omega) ?_⟩
      rw [g1]
      simp only [wq_g3, wq_gc, wq_g, wq_g1, wq_g2, eV_longestRestOf, iV_longestRestOf_0, iV_longestRestOf_7, iV_longestRestOf_30, iV_longestRestOf_33, iV_longestRestOf_58, iV_longestRestOf_64, vV_longestRestOf, wps, x_cnd, reduceIte, Nat.reduceAdd, Nat.reduceSub, Nat.reduceEqDiff, Nat.reduceLeDiff, Nat.lt_irrefl, Nat.reduceLT, Int.cast_ofNat_Int, wq_c0, wq_c1, true_and, and_true, and_self, true_implies, forall_const, ne_eq, Decidable.not_not, not_true_eq_false, not_false_eq_true, List.map_nil, List.map_cons, List.sum_nil, List.sum_cons, List.length_cons, List.length_nil, Nat.le_refl, Nat.zero_le, reduceCtorEq, true_or, or_true, false_or, or_false, false_and, and_false, false_implies, Nat.zero_add, Nat.add_zero, fxs F, l0, l1, l2, l3, l4]
      exact ⟨fun c2 => hfin _ _ hv (by rw [lrb_s, r4, if_neg c2]), fun c2 => hfin _ _ hv (by rw [lrb_s, r4, if_pos c2, hv])⟩
    · have hv : 1 = lrl S part (p + 1) := by rw [lrl_s, if_pos c1]
      refine ⟨by omega, cS_contentAt F.s17 h6 (by omega) ?_⟩
      rw [g1]
      simp only [wq_g3, wq_gc, wq_g, wq_g1, wq_g2, eV_longestRestOf, iV_longestRestOf_0, iV_longestRestOf_7, iV_longestRestOf_30, iV_longestRestOf_33, iV_longestRestOf_58, iV_longestRestOf_64, vV_longestRestOf, wps, x_cnd, reduceIte, Nat.reduceAdd, Nat.reduceSub, Nat.reduceEqDiff, Nat.reduceLeDiff, Nat.lt_irrefl, Nat.reduceLT, Int.cast_ofNat_Int, wq_c0, wq_c1, true_and, and_true, and_self, true_implies, forall_const, ne_eq, Decidable.not_not, not_true_eq_false, not_false_eq_true, List.map_nil, List.map_cons, List.sum_nil, List.sum_cons, List.length_cons, List.length_nil, Nat.le_refl, Nat.zero_le, reduceCtorEq, true_or, or_true, false_or, or_false, false_and, and_false, false_implies, Nat.zero_add, Nat.add_zero, fxs F, l0, l1, l2, l3, l4]
      exact ⟨fun c2 => hfin _ _ hv (by rw [lrb_s, r4, if_neg c2]), fun c2 => hfin _ _ hv (by rw [lrb_s, r4, if_pos c2, ← hv])⟩
end VM3
