/-! Proofreader -/
/-- the kind of an id's erratum, 0: none -/
def kd (S : xSr) (part : Int) (f : Int → Int) (id : Int) : Int :=
  if f id = -1 then (if pl S id ≠ -1 ∧ isP S (pl S id) = true then 1 else 0)
  else if ¬ (pl S id ≠ -1 ∧ isP S (pl S id) = true) then 2
  else if lab S (pl S id).toNat ≠ f id / 4096 then 3 else if lt S (pl S id) ≠ f id / 64 % 64 then 4 else if sB S (pl S id) ≠ f id / 4 % 16 then 5 else if sC S part (pl S id) ≠ f id % 4 then 6 else 0
/-- what was noted, for an erratum of kind k -/
def ndF (k n : Int) : Int := if k = 1 then -1 else if k = 4 then n / 64 % 64 else if k = 5 then n / 4 % 16 else if k = 6 then n % 4 else n / 4096
def kdB (S : xSr) (part : Int) (f : Int → Int) : Int → Bool := fun id => kd S part f id != 0
def erN (S : xSr) (part : Int) (f : Int → Int) (nid : Int) : Int := cn (kdB S part f) nid.toNat
theorem pk4_d {l t b c : Int} (h2 : 0 ≤ t ∧ t ≤ 40) (h3 : 1 ≤ b ∧ b ≤ 12) (h4 : 0 ≤ c ∧ c ≤ 2) : pk4 l t b c / 4096 = l ∧ pk4 l t b c / 64 % 64 = t ∧ pk4 l t b c / 4 % 16 = b ∧ pk4 l t b c % 4 = c := by
  unfold pk4
  omega
theorem pk4_p {l t b c : Int} (h1 : 0 ≤ l) (h2 : 0 ≤ t ∧ t ≤ 40) (h3 : 1 ≤ b ∧ b ≤ 12) (h4 : 0 ≤ c ∧ c ≤ 2) : 0 ≤ pk4 l t b c := by
  unfold pk4
  omega
theorem kd_out {S : xSr} {part id : Int} {f : Int → Int} (h1 : pl S id = -1) (h2 : f id = -1) : kd S part f id = 0 := by
  unfold kd
  rw [if_pos h2, if_neg (fun q => q.1 h1)]
section RN
variable {f : Int → Int} {M : xM} {h : xH} {r : Nat}
theorem repN.cnt (R : repN f M h r) : ∃ n : Nat, n ≤ 150 ∧ M r 0 = n ∧ ntc M r = n := ⟨(M r 0).toNat, by have := R.2.1; omega, by have := R.2.1; omega, rfl⟩
theorem repN.at (R : repN f M h r) {e : Nat} (he : e < ntc M r) : f (M (r + 1) e) = pk4 (M (r + 2) e) (M (r + 3) e) (M (r + 4) e) (M (r + 5) e) ∧ (0 ≤ M (r + 1) e ∧ (0 ≤ M (r + 2) e ∧ M (r + 2) e ≤ 150150) ∧ (0 ≤ M (r + 3) e ∧ M (r + 3) e ≤ 40) ∧ (1 ≤ M (r + 4) e ∧ M (r + 4) e ≤ 12) ∧ (0 ≤ M (r + 5) e ∧ M (r + 5) e ≤ 2)) := by
  have h1 : fi (M (r + 1)) (M (r + 1) e) (ntc M r) = e := fi_eq he rfl (fun q hq heq => by
    have := R.2.2.1 q e hq he
    omega)
  refine ⟨?_, R.2.2.2.1 e he⟩
  rw [R.2.2.2.2, ntf, h1, if_neg (by omega)]
theorem repN.some (R : repN f M h r) {id : Int} (hf : f id ≠ -1) : ∃ e : Nat, e < ntc M r ∧ M (r + 1) e = id := by
  rw [R.2.2.2.2] at hf
  unfold ntf at hf
  by_cases h1 : fi (M (r + 1)) id (ntc M r) = -1
  · rw [if_pos h1] at hf
    exact absurd rfl hf
  · obtain ⟨e, e1, e2, e3, -⟩ := fi_some h1
    exact ⟨e, e1, e3⟩
theorem repN.mono (R : repN f M h r) {i j : Nat} (hj : j < ntc M r) (hi : i < ntc M r) (h : M (r + 1) i < M (r + 1) j) : i < j := by
  by_cases h1 : i < j
  · exact h1
  · by_cases h2 : i = j
    · subst h2; omega
    · have := R.2.2.1 j i (by omega) hi
      omega
end RN
section EM
variable {M : xM} {h : xH} {Φ : xO → xM → xH → Prop} {S : xSr} {nid : Int} {f : Int → Int} {r : Nat}
set_option maxHeartbeats 1000000
theorem cE_notedFor (R : repN f M h r) {e : Nat} {kk : Int} (he : e < ntc M r) (hk : 1 < kk) (k : Φ (.inl (some (xI (ndF kk (f (M (r + 1) e)))))) M h) : x_Cal zE_notedFor [xI kk, xA r, xI e] M h Φ := by
  obtain ⟨n, n1, n2, n3⟩ := R.cnt
  obtain ⟨h1, h2, h3, h4, h5, h6⟩ := R.at he
  obtain ⟨d1, d2, d3, d4⟩ := pk4_d (l := M (r + 2) e) h4 h5 h6
  refine x_met0 kE_notedFor (Nat.le_of_ble_eq_true rfl) ?_
  simp only [wq_g3, wq_gc, wq_g, wq_g1, wq_g2, eE_notedFor, iE_notedFor_0, iE_notedFor_28, iE_notedFor_35, iE_notedFor_42, iE_notedFor_49, vE_notedFor, wps, x_cnd, reduceIte, Nat.reduceAdd, Nat.reduceSub, Nat.reduceEqDiff, Nat.reduceLeDiff, Nat.lt_irrefl, Nat.reduceLT, Int.cast_ofNat_Int, wq_c0, wq_c1, true_and, and_true, and_self, true_implies, forall_const, ne_eq, Decidable.not_not, not_true_eq_false, not_false_eq_true, List.map_nil, List.map_cons, List.sum_nil, List.sum_cons, List.length_cons, List.length_nil, Nat.le_refl, Nat.zero_le, reduceCtorEq, true_or, or_true, false_or, or_false, false_and, and_false, false_implies, Nat.zero_add, Nat.add_zero, Int.reduceEq, Int.reduceNe, Int.reduceLT, Int.reduceLE, Int.reduceNeg, Int.reduceToNat, Nat.not_lt_zero, nts R.1.1]
  rw [h1] at k
  unfold ndF at k
  rw [d1, d2, d3, d4, if_neg (by omega)] at k
  (repeat' (first | apply And.intro | intro _)) <;> first | omega | exact kr k (by (repeat' split) <;> omega)
/-- how a bar stands to a note -/
theorem cE_compare (F : Fx h) (R : repC S M h 17) (w : wfS S nid) (V : VR S M) (N : repN f M h r) {part : Nat} {p e id : Int} (h6 : part < 6) (hp : p = pl S id) (he : (e = -1 ∧ f id = -1) ∨ ∃ q : Nat, e = q ∧ q < ntc M r ∧ M (r + 1) q = id) (k : Φ (.inl (some (xI (kd S part f id)))) M h) : x_Cal zE_compare [xA 16, xI part, xI p, xA r, xI e] M h Φ := by
  have hN := w.N
  obtain ⟨n, n1, n2, n3⟩ := N.cnt
  refine x_met0 kE_compare (Nat.le_of_ble_eq_true rfl) ?_
  simp only [wq_g3, wq_gc, wq_g, wq_g1, wq_g2, eE_compare, iE_compare_0, iE_compare_17, iE_compare_18, iE_compare_35, iE_compare_36, iE_compare_37, iE_compare_44, iE_compare_62, iE_compare_80, iE_compare_101, iE_compare_124, iE_compare_126, vE_compare, wps, x_cnd, reduceIte, Nat.reduceAdd, Nat.reduceSub, Nat.reduceEqDiff, Nat.reduceLeDiff, Nat.lt_irrefl, Nat.reduceLT, Int.cast_ofNat_Int, wq_c0, wq_c1, true_and, and_true, and_self, true_implies, forall_const, ne_eq, Decidable.not_not, not_true_eq_false, not_false_eq_true, List.map_nil, List.map_cons, List.sum_nil, List.sum_cons, List.length_cons, List.length_nil, Nat.le_refl, Nat.zero_le, reduceCtorEq, true_or, or_true, false_or, or_false, false_and, and_false, false_implies, Nat.zero_add, Nat.add_zero, Int.reduceEq, Int.reduceNe, Int.reduceLT, Int.reduceLE, Int.reduceNeg, Int.reduceToNat, Nat.not_lt_zero, fxs F]
  have hpr := pl_rng (S := S) (x := id)
  subst hp
  have k1 : ∀ v : Int, v = kd S part f id → Φ (.inl (some (xI v))) M h := fun v hv => kr k hv.symm
  by_cases hpl : pl S id = -1
  · refine ⟨fun c0 => ⟨fun c1 => ?_, fun c1 => ?_⟩, fun c0 => absurd hpl c0⟩
    · rcases he with ⟨he, -⟩ | ⟨q, q1, q2, q3⟩
      · exact absurd he c1
      · refine k1 2 ?_
        have h1 := (N.at q2).1
        have h2 := (N.at q2).2
        have h3 := pk4_p (l := M (r + 2) q) h2.2.1.1 h2.2.2.1 h2.2.2.2.1 h2.2.2.2.2
        unfold kd
        rw [← q3] at hpl ⊢
        rw [if_neg (by omega), if_pos (fun c => c.1 hpl)]
    · rcases he with ⟨-, he⟩ | ⟨q, q1, q2, q3⟩
      · exact k1 0 (kd_out hpl he).symm
      · omega
  · obtain ⟨pn, p1, p2, p3⟩ := pl_some hpl
    rw [p2]
    have g1 := V.lab p1
    have g2 := V.lt p1
    have g3 : M 19 pn = sB S pn := R.bt p1
    have g5 : M (17 + 6) ((part : Int) * 150 + pn) = sC S part pn := R.c p1 h6
    refine ⟨fun c0 => by omega, fun c0 => cV_isPlayed F w V p1 ?_⟩
    have hkd0 : cov S pn ≠ 0 → kd S part f id = if f id = -1 then 0 else 2 := fun hc => by
      have : ¬ (pl S id ≠ -1 ∧ isP S (pl S id) = true) := fun q => by
        rw [p2] at q
        exact hc (isP_iff.mp q.2)
      unfold kd
      rw [if_neg this, if_pos this]
    have hkd1 : cov S pn = 0 → (pl S id ≠ -1 ∧ isP S (pl S id) = true) := fun hc => ⟨hpl, by rw [p2]; exact isP_iff.mpr hc⟩
    rcases he with ⟨he1, he2⟩ | ⟨q, q1, q2, q3⟩
    · subst he1
      simp only [wq_g3, wq_gc, wq_g, wq_g1, wq_g2, eE_compare, iE_compare_0, iE_compare_17, iE_compare_18, iE_compare_35, iE_compare_36, iE_compare_37, iE_compare_44, iE_compare_62, iE_compare_80, iE_compare_101, iE_compare_124, iE_compare_126, vE_compare, wps, x_cnd, reduceIte, Nat.reduceAdd, Nat.reduceSub, Nat.reduceEqDiff, Nat.reduceLeDiff, Nat.lt_irrefl, Nat.reduceLT, Int.cast_ofNat_Int, wq_c0, wq_c1, true_and, and_true, and_self, true_implies, forall_const, ne_eq, Decidable.not_not, not_true_eq_false, not_false_eq_true, List.map_nil, List.map_cons, List.sum_nil, List.sum_cons, List.length_cons, List.length_nil, Nat.le_refl, Nat.zero_le, reduceCtorEq, true_or, or_true, false_or, or_false, false_and, and_false, false_implies, Nat.zero_add, Nat.add_zero, Int.reduceEq, Int.reduceNe, Int.reduceLT, Int.reduceLE, Int.reduceNeg, Int.reduceToNat, Nat.not_lt_zero, fxs F, b01_0]
      refine ⟨fun c1 => k1 0 ?_, fun c1 => k1 1 ?_⟩
      · rw [hkd0 c1, if_pos he2]
      · unfold kd
        rw [if_pos he2, if_pos (hkd1 c1)]
    · subst q1
      have hq := N.at q2
      rw [q3] at hq
      obtain ⟨h1, h2, h3, h4, h5, h7⟩ := hq
      obtain ⟨d1, d2, d3, d4⟩ := pk4_d (l := M (r + 2) q) h4 h5 h7
      have h8 := pk4_p (l := M (r + 2) q) h3.1 h4 h5 h7
      rw [← h1] at d1 d2 d3 d4 h8
      have hkd2 : cov S pn = 0 → kd S part f id = if lab S pn ≠ M (r + 2) q then 3 else if lt S pn ≠ M (r + 3) q then 4 else if sB S pn ≠ M (r + 4) q then 5 else if sC S part pn ≠ M (r + 5) q then 6 else 0 := fun hc => by
        unfold kd
        rw [if_neg (by omega), if_neg (fun z => z (hkd1 hc)), p2, d1, d2, d3, d4]
        rfl
      simp only [wq_g3, wq_gc, wq_g, wq_g1, wq_g2, eE_compare, iE_compare_0, iE_compare_17, iE_compare_18, iE_compare_35, iE_compare_36, iE_compare_37, iE_compare_44, iE_compare_62, iE_compare_80, iE_compare_101, iE_compare_124, iE_compare_126, vE_compare, wps, x_cnd, reduceIte, Nat.reduceAdd, Nat.reduceSub, Nat.reduceEqDiff, Nat.reduceLeDiff, Nat.lt_irrefl, Nat.reduceLT, Int.cast_ofNat_Int, wq_c0, wq_c1, true_and, and_true, and_self, true_implies, forall_const, ne_eq, Decidable.not_not, not_true_eq_false, not_false_eq_true, List.map_nil, List.map_cons, List.sum_nil, List.sum_cons, List.length_cons, List.length_nil, Nat.le_refl, Nat.zero_le, reduceCtorEq, true_or, or_true, false_or, or_false, false_and, and_false, false_implies, Nat.zero_add, Nat.add_zero, Int.reduceEq, Int.reduceNe, Int.reduceLT, Int.reduceLE, Int.reduceNeg, Int.reduceToNat, Nat.not_lt_zero, fxs F, nts N.1.1, b01_0, g1, g2, g3]
      refine ⟨fun c1 => k1 2 (by rw [hkd0 c1, if_neg (by omega)]), fun c1 => ⟨by omega, by omega, fun c2 => ⟨by omega, by omega, fun c3 => ⟨by omega, by omega, fun c4 => cS_contentAt F.s17 h6 (by omega) ?_, fun c4 => ?_⟩, fun c3 => ?_⟩, fun c2 => ?_⟩⟩
      · rw [g5]
        simp only [wq_g3, wq_gc, wq_g, wq_g1, wq_g2, eE_compare, iE_compare_0, iE_compare_17, iE_compare_18, iE_compare_35, iE_compare_36, iE_compare_37, iE_compare_44, iE_compare_62, iE_compare_80, iE_compare_101, iE_compare_124, iE_compare_126, vE_compare, wps, x_cnd, reduceIte, Nat.reduceAdd, Nat.reduceSub, Nat.reduceEqDiff, Nat.reduceLeDiff, Nat.lt_irrefl, Nat.reduceLT, Int.cast_ofNat_Int, wq_c0, wq_c1, true_and, and_true, and_self, true_implies, forall_const, ne_eq, Decidable.not_not, not_true_eq_false, not_false_eq_true, List.map_nil, List.map_cons, List.sum_nil, List.sum_cons, List.length_cons, List.length_nil, Nat.le_refl, Nat.zero_le, reduceCtorEq, true_or, or_true, false_or, or_false, false_and, and_false, false_implies, Nat.zero_add, Nat.add_zero, Int.reduceEq, Int.reduceNe, Int.reduceLT, Int.reduceLE, Int.reduceNeg, Int.reduceToNat, Nat.not_lt_zero, nts N.1.1]
        refine ⟨by omega, fun c5 => k1 6 ?_, fun c5 => k1 0 ?_⟩
        · rw [hkd2 c1, if_neg (fun z => z c2), if_neg (fun z => z c3), if_neg (fun z => z c4), if_pos c5]
        · rw [hkd2 c1, if_neg (fun z => z c2), if_neg (fun z => z c3), if_neg (fun z => z c4), if_neg (fun z => z c5)]
      · exact k1 5 (by rw [hkd2 c1, if_neg (fun z => z c2), if_neg (fun z => z c3), if_pos c4])
      · exact k1 4 (by rw [hkd2 c1, if_neg (fun z => z c2), if_pos c3])
      · exact k1 3 (by rw [hkd2 c1, if_pos c2])
/-- what the walk has seen below x -/
def wkI (S : xSr) (part : Int) (f : Int → Int) (nid : Int) (seen : Int) (M : xM) : Prop := 1 ≤ seen → M 36 0 = nth (kdB S part f) nid.toNat (seen - 1) ∧ M 36 1 = kd S part f (nth (kdB S part f) nid.toNat (seen - 1)) ∧ M 36 2 = ndF (kd S part f (nth (kdB S part f) nid.toNat (seen - 1))) (f (nth (kdB S part f) nid.toNat (seen - 1)))
theorem kdB_none {part : Int} {x y : Nat} (h : ∀ id : Nat, x ≤ id → id < y → pl S id = -1 ∧ f id = -1) : ∀ d : Nat, x + d ≤ y → cn (kdB S part f) (x + d) = cn (kdB S part f) x
  | 0, _ => rfl
  | d + 1, hd => by
    obtain ⟨h1, h2⟩ := h (x + d) (by omega) (by omega)
    rw [← Nat.add_assoc, cn_s0 (by unfold kdB; rw [kd_out h1 h2]; rfl)]
    exact kdB_none h d (by omega)
def wkJ (S : xSr) (M : xM) (r : Nat) (slot entry x : Nat) : Prop := (∀ p : Nat, p < sN S → (rk S (sN S) p < slot ↔ sI S p < x)) ∧ ∀ e : Nat, e < ntc M r → (e < entry ↔ M (r + 1) e < x)
theorem wk_none (N : repN f M h r) {slot entry x y : Nat} (J : wkJ S M r slot entry x) (hs : ∀ p : Nat, p < sN S → ¬ rk S (sN S) p < slot → (y : Int) ≤ sI S p) (he : ∀ e : Nat, e < ntc M r → ¬ e < entry → (y : Int) ≤ M (r + 1) e) : ∀ id : Nat, x ≤ id → id < y → pl S id = -1 ∧ f id = -1 := by
  intro id h1 h2
  constructor
  · by_cases hp : pl S id = -1
    · exact hp
    · obtain ⟨p, p1, p2, p3⟩ := pl_some hp
      have h4 := J.1 p p1
      by_cases h5 : rk S (sN S) p < slot
      · have := h4.mp h5
        omega
      · have := hs p p1 h5
        omega
  · by_cases hf : f id = -1
    · exact hf
    · obtain ⟨e, e1, e2⟩ := N.some hf
      have h4 := J.2 e e1
      by_cases h5 : e < entry
      · have := h4.mp h5
        omega
      · have := he e e1 h5
        omega
theorem wk_adv (w : wfS S nid) (N : repN f M h r) {slot entry x y tb te : Nat} (J : wkJ S M r slot entry x)
    (hb : (tb = 1 ∧ ∃ p : Nat, p < sN S ∧ rk S (sN S) p = slot ∧ sI S p = y) ∨ (tb = 0 ∧ ∀ p : Nat, p < sN S → (slot : Int) ≤ rk S (sN S) p → (y : Int) < sI S p))
    (he : (te = 1 ∧ entry < ntc M r ∧ M (r + 1) entry = y) ∨ (te = 0 ∧ ∀ e : Nat, e < ntc M r → entry ≤ e → (y : Int) < M (r + 1) e)) (ht : tb = 1 ∨ te = 1) :
    x ≤ y ∧ (∀ id : Nat, x ≤ id → id < y → pl S id = -1 ∧ f id = -1) ∧ wkJ S M r (slot + tb) (entry + te) (y + 1) ∧ (tb = 0 → pl S y = -1) ∧ (te = 0 → f y = -1) := by
  have hxy : x ≤ y := by
    rcases ht with ht | ht
    · obtain ⟨p, p1, p2, p3⟩ := (hb.resolve_right (by omega)).2
      have := (J.1 p p1)
      have h2 : ¬ rk S (sN S) p < slot := by omega
      have h3 : ¬ sI S p < x := fun z => h2 (this.mpr z)
      omega
    · obtain ⟨-, e1, e2⟩ := he.resolve_right (by omega)
      have := (J.2 entry e1)
      have h3 : ¬ M (r + 1) entry < x := fun z => by have := this.mpr z; omega
      omega
  have hb2 : ∀ p : Nat, p < sN S → ¬ rk S (sN S) p < slot → (y : Int) ≤ sI S p := fun p p1 p2 => by
    rcases hb with ⟨-, q, q1, q2, q3⟩ | ⟨-, hb⟩
    · have := rk_le (S := S) (p := q) (q := p) p1 (by omega)
      omega
    · have := hb p p1 (by omega)
      omega
  have he2 : ∀ e : Nat, e < ntc M r → ¬ e < entry → (y : Int) ≤ M (r + 1) e := fun e e1 e2 => by
    rcases he with ⟨-, q1, q2⟩ | ⟨-, he⟩
    · by_cases h1 : e = entry
      · subst h1; omega
      · have := N.2.2.1 entry e (by omega) e1
        omega
    · have := he e e1 (by omega)
      omega
  refine ⟨hxy, wk_none N J hb2 he2, ⟨fun p p1 => ?_, fun e e1 => ?_⟩, fun ht0 => ?_, fun ht0 => ?_⟩
  · have h1 := J.1 p p1
    rcases hb with ⟨h2, q, q1, q2, q3⟩ | ⟨h2, hb⟩
    · constructor
      · intro h3
        have := rk_le (S := S) (p := p) (q := q) q1 (by omega)
        omega
      · intro h3
        have := rk_rng (S := S) (k := sN S) (p := p)
        by_cases h4 : rk S (sN S) p < slot
        · omega
        · have h5 := hb2 p p1 h4
          have : p = q := w.inj p1 q1 (by omega)
          subst this
          omega
    · constructor
      · intro h3
        have := h1.mp (by omega)
        omega
      · intro h3
        by_cases h4 : rk S (sN S) p < slot
        · omega
        · have := hb p p1 (by omega)
          omega
  · have h1 := J.2 e e1
    rcases he with ⟨h2, q1, q2⟩ | ⟨h2, he⟩
    · constructor
      · intro h3
        by_cases h4 : e = entry
        · subst h4; omega
        · have := h1.mp (by omega)
          omega
      · intro h3
        by_cases h4 : e < entry
        · omega
        · by_cases h5 : e = entry
          · omega
          · have := N.2.2.1 entry e (by omega) e1
            omega
    · constructor
      · intro h3
        have := h1.mp (by omega)
        omega
      · intro h3
        by_cases h4 : e < entry
        · omega
        · have := he e e1 (by omega)
          omega
  · by_cases hp : pl S y = -1
    · exact hp
    · obtain ⟨p, p1, p2, p3⟩ := pl_some hp
      have hb3 := (hb.resolve_left (by omega)).2
      by_cases h4 : rk S (sN S) p < slot
      · have := (J.1 p p1).mp h4
        omega
      · have := hb3 p p1 (by omega)
        omega
  · by_cases hf : f y = -1
    · exact hf
    · obtain ⟨e, e1, e2⟩ := N.some hf
      have he3 := (he.resolve_left (by omega)).2
      by_cases h4 : e < entry
      · have := (J.2 e e1).mp h4
        omega
      · have := he3 e e1 (by omega)
        omega
theorem wkI_of {part y : Int} {seen : Int} (h0 : nth (kdB S part f) nid.toNat (seen - 1) = y) (h1 : M 36 0 = y) (h2 : M 36 1 = kd S part f y) (h3 : M 36 2 = ndF (kd S part f y) (f y)) : wkI S part f nid seen M := fun _ => by
  rw [h0]
  exact ⟨h1, h2, h3⟩
theorem w36 {v0 v1 v2 : Int} : x_w (x_w (x_w M 36 1 v1) 36 0 v0) 36 2 v2 36 0 = v0 ∧ x_w (x_w (x_w M 36 1 v1) 36 0 v0) 36 2 v2 36 1 = v1 ∧ x_w (x_w (x_w M 36 1 v1) 36 0 v0) 36 2 v2 36 2 = v2 := by
  refine ⟨?_, ?_, w_eq⟩
  · rw [w_nj (by decide), w_eq]
  · rw [w_nj (by decide), w_nj (by decide), w_eq]
theorem cE_walk (F : Fx h) (R : repC S M h 17) (w : wfS S nid) (V : VR S M) (N : repN f M h r) {part : Nat} {wn : Int} (h6 : part < 6) (h0 : 0 ≤ wn) (hn0 : 0 ≤ nid ∧ nid ≤ 100000) (hf : ∀ id, f id ≠ -1 → id < nid)
    (k : ∀ M' n, (∀ a j, ¬ (a = 36 ∧ 0 ≤ j ∧ j ≤ 2) → M' a j = M a j) → 0 ≤ n → ((n = erN S part f nid ∧ n ≤ wn) ∨ (n = wn + 1 ∧ n ≤ erN S part f nid)) → wkI S part f nid n M' → Φ (.inl (some (xI n))) M' h) : x_Cal zE_walk [xA 36, xA 16, xI part, xA r, xI wn] M h Φ := by
  have hN := w.N
  obtain ⟨c, c1, c2, c3⟩ := N.cnt
  have hr58 := N.1.2.1
  refine x_metI kE_walk (Nat.le_of_ble_eq_true rfl) (fun t m ls st M' h' cc n => t = 30 ∧ st = [] ∧ h' = h ∧ cc = 0 ∧ n = 0 ∧ ls 0 = some (xA 36) ∧ ls 1 = some (xA 16) ∧ ls 2 = some (xI part) ∧ ls 3 = some (xA r) ∧ ls 4 = some (xI wn) ∧ ls 5 = some (xA 17) ∧ ls 9 = some (xI ((sN S : Int) + c)) ∧ (∀ a j, ¬ (a = 36 ∧ 0 ≤ j ∧ j ≤ 2) → M' a j = M a j) ∧ ∃ slot entry step x : Nat, slot ≤ sN S ∧ entry ≤ c ∧ step ≤ sN S + c ∧ (step ≤ slot + entry ∨ (slot = sN S ∧ entry = c)) ∧ (x : Int) ≤ nid ∧ ls 6 = some (xI (cn (kdB S part f) x)) ∧ ls 7 = some (xI slot) ∧ ls 8 = some (xI entry) ∧ ls 10 = some (xI step) ∧ m = sN S + c - step ∧ wkJ S M r slot entry x ∧ wkI S part f nid (cn (kdB S part f) x) M' ∧ cn (kdB S part f) x ≤ wn + 1) 40 ?_ ?_
  · simp only [wq_g3, wq_gc, wq_g, wq_g1, wq_g2, eE_walk, iE_walk_0, iE_walk_30, iE_walk_58, iE_walk_59, iE_walk_74, iE_walk_75, iE_walk_92, iE_walk_93, iE_walk_123, iE_walk_127, iE_walk_128, iE_walk_158, iE_walk_162, iE_walk_163, iE_walk_177, iE_walk_178, iE_walk_189, iE_walk_190, iE_walk_226, iE_walk_233, iE_walk_253, iE_walk_254, iE_walk_257, iE_walk_268, iE_walk_269, iE_walk_283, iE_walk_284, iE_walk_293, vE_walk, wps, x_cnd, reduceIte, Nat.reduceAdd, Nat.reduceSub, Nat.reduceEqDiff, Nat.reduceLeDiff, Nat.lt_irrefl, Nat.reduceLT, Int.cast_ofNat_Int, wq_c0, wq_c1, true_and, and_true, and_self, true_implies, forall_const, ne_eq, Decidable.not_not, not_true_eq_false, not_false_eq_true, List.map_nil, List.map_cons, List.sum_nil, List.sum_cons, List.length_cons, List.length_nil, Nat.le_refl, Nat.zero_le, reduceCtorEq, true_or, or_true, false_or, or_false, false_and, and_false, false_implies, Nat.zero_add, Nat.add_zero, Int.reduceEq, Int.reduceNe, Int.reduceLT, Int.reduceLE, Int.reduceNeg, Int.reduceToNat, Nat.not_lt_zero, fxs F, nts N.1.1, R.n, c2]
    simp (disch := omega) only [w32_of]
    refine ⟨_, trivial, fun a j _ => trivial, 0, 0, 0, 0, by omega, by omega, by omega, by omega, by omega, rfl, rfl, rfl, rfl, rfl, ⟨fun p hp => ?_, fun e he => ?_⟩, ?_, ?_⟩
    · have h1 := rk_rng (S := S) (k := sN S) (p := p)
      have h2 := w.id hp
      omega
    · have h2 := (N.at he).2.1
      omega
    · intro h1
      rw [cn_z] at h1
      omega
    · rw [cn_z]
      omega
  · rintro t m ls st M' h' cc n ⟨rfl, rfl, rfl, rfl, rfl, l0, l1, l2, l3, l4, l5, l9, hfr, slot, entry, step, x, q1, q2, q3, q4, q5, l6, l7, l8, l10, q6, J, I, q7⟩
    have g0 : M' 17 0 = sN S := (hfr _ _ (by omega)).trans R.n
    have g1 : M' r 0 = c := (hfr _ _ (by omega)).trans c2
    have g2 : M' (r + 1) = M (r + 1) := by
      funext j
      exact hfr _ _ (by omega)
    have N' : repN f M' h' r := N.frame (fun a j ha => hfr a j (by omega))
    have V' : VR S M' := V.frame (fun a j ha => hfr a j (by omega))
    have R' : repC S M' h' 17 := R.frame (fun a j ha => hfr a j (by omega))
    have hcn := cn_rng (P := kdB S part f) (n := x)
    by_cases hx : (sN S : Int) + c ≤ step ∨ wn < cn (kdB S part f) x
    · have hend : Φ (.inl (some (xI (cn (kdB S part f) x)))) M' h' := by
        refine k M' _ hfr hcn.1 ?_ I
        unfold erN
        have hmono := cn_mono (P := kdB S part f) (show x ≤ nid.toNat by omega)
        by_cases hw : wn < cn (kdB S part f) x
        · exact Or.inr ⟨by omega, hmono⟩
        · refine Or.inl ⟨?_, by omega⟩
          have hsl : slot = sN S ∧ entry = c := by omega
          have := kdB_none (S := S) (f := f) (part := part) (x := x) (y := nid.toNat) (wk_none N J (fun p p1 p2 => absurd (by have := rk_ltk (S := S) p1; omega) p2) (fun e e1 e2 => absurd (by omega) e2)) (nid.toNat - x) (by omega)
          rw [show x + (nid.toNat - x) = nid.toNat by omega] at this
          exact this.symm
      by_cases hx1 : (sN S : Int) + c ≤ step
      · simp only [wq_g3, wq_gc, wq_g, wq_g1, wq_g2, eE_walk, iE_walk_0, iE_walk_30, iE_walk_58, iE_walk_59, iE_walk_74, iE_walk_75, iE_walk_92, iE_walk_93, iE_walk_123, iE_walk_127, iE_walk_128, iE_walk_158, iE_walk_162, iE_walk_163, iE_walk_177, iE_walk_178, iE_walk_189, iE_walk_190, iE_walk_226, iE_walk_233, iE_walk_253, iE_walk_254, iE_walk_257, iE_walk_268, iE_walk_269, iE_walk_283, iE_walk_284, iE_walk_293, vE_walk, wps, x_cnd, reduceIte, Nat.reduceAdd, Nat.reduceSub, Nat.reduceEqDiff, Nat.reduceLeDiff, Nat.lt_irrefl, Nat.reduceLT, Int.cast_ofNat_Int, wq_c0, wq_c1, true_and, and_true, and_self, true_implies, forall_const, ne_eq, Decidable.not_not, not_true_eq_false, not_false_eq_true, List.map_nil, List.map_cons, List.sum_nil, List.sum_cons, List.length_cons, List.length_nil, Nat.le_refl, Nat.zero_le, reduceCtorEq, true_or, or_true, false_or, or_false, false_and, and_false, false_implies, Nat.zero_add, Nat.add_zero, Int.reduceEq, Int.reduceNe, Int.reduceLT, Int.reduceLE, Int.reduceNeg, Int.reduceToNat, Nat.not_lt_zero, l0, l1, l2, l3, l4, l5, l6, l7, l8, l9, l10, fxs F, nts N.1.1, hx1]
        exact hend
      · have hx2 : wn < cn (kdB S part f) x := by omega
        simp only [wq_g3, wq_gc, wq_g, wq_g1, wq_g2, eE_walk, iE_walk_0, iE_walk_30, iE_walk_58, iE_walk_59, iE_walk_74, iE_walk_75, iE_walk_92, iE_walk_93, iE_walk_123, iE_walk_127, iE_walk_128, iE_walk_158, iE_walk_162, iE_walk_163, iE_walk_177, iE_walk_178, iE_walk_189, iE_walk_190, iE_walk_226, iE_walk_233, iE_walk_253, iE_walk_254, iE_walk_257, iE_walk_268, iE_walk_269, iE_walk_283, iE_walk_284, iE_walk_293, vE_walk, wps, x_cnd, reduceIte, Nat.reduceAdd, Nat.reduceSub, Nat.reduceEqDiff, Nat.reduceLeDiff, Nat.lt_irrefl, Nat.reduceLT, Int.cast_ofNat_Int, wq_c0, wq_c1, true_and, and_true, and_self, true_implies, forall_const, ne_eq, Decidable.not_not, not_true_eq_false, not_false_eq_true, List.map_nil, List.map_cons, List.sum_nil, List.sum_cons, List.length_cons, List.length_nil, Nat.le_refl, Nat.zero_le, reduceCtorEq, true_or, or_true, false_or, or_false, false_and, and_false, false_implies, Nat.zero_add, Nat.add_zero, Int.reduceEq, Int.reduceNe, Int.reduceLT, Int.reduceLE, Int.reduceNeg, Int.reduceToNat, Nat.not_lt_zero, l0, l1, l2, l3, l4, l5, l6, l7, l8, l9, l10, fxs F, nts N.1.1, hx1, hx2]
        exact hend
    have hx1 : ¬ (sN S : Int) + c ≤ step := fun z => hx (Or.inl z)
    have hx2 : ¬ wn < cn (kdB S part f) x := fun z => hx (Or.inr z)
    have fin : ∀ (y tb te : Nat) (M1 : xM) (sn sl en : Int), wkJ S M r (slot + tb) (entry + te) (y + 1) → slot + tb ≤ sN S → entry + te ≤ c → (tb = 1 ∨ te = 1) → (y : Int) < nid → (∀ (a : Nat) (j : Int), ¬ (a = 36 ∧ 0 ≤ j ∧ j ≤ 2) → M1 a j = M a j) → sn = cn (kdB S part f) (y + 1) → sn ≤ wn + 1 → sl = slot + tb → en = entry + te → wkI S part f nid sn M1 → ∃ m2, m2 < m ∧ (∀ (a : Nat) (j : Int), ¬ (a = 36 ∧ 0 ≤ j ∧ j ≤ 2) → M1 a j = M a j) ∧ ∃ slot_1 entry_1 step_1 x_1 : Nat, slot_1 ≤ sN S ∧ entry_1 ≤ c ∧ step_1 ≤ sN S + c ∧ (step_1 ≤ slot_1 + entry_1 ∨ slot_1 = sN S ∧ entry_1 = c) ∧ (x_1 : Int) ≤ nid ∧ some (xI sn) = some (xI (cn (kdB S part f) x_1)) ∧ some (xI sl) = some (xI slot_1) ∧ some (xI en) = some (xI entry_1) ∧ some (xI ((step : Int) + 1)) = some (xI step_1) ∧ m2 = sN S + c - step_1 ∧ wkJ S M r slot_1 entry_1 x_1 ∧ wkI S part f nid (cn (kdB S part f) x_1) M1 ∧ cn (kdB S part f) x_1 ≤ wn + 1 := fun y tb te M1 sn sl en hJ h1 h2 h3 h4 h5 h6 h7 h8 h9 h10 =>
      ⟨sN S + c - (step + 1), by omega, h5, slot + tb, entry + te, step + 1, y + 1, by omega, by omega, by omega, by omega, by omega, by rw [h6], by rw [h8]; rfl, by rw [h9]; rfl, rfl, rfl, hJ, by rw [← h6]; exact h10, by rw [← h6]; exact h7⟩
    have hseen : ∀ (y : Nat), x ≤ y → (∀ id : Nat, x ≤ id → id < y → pl S id = -1 ∧ f id = -1) → cn (kdB S part f) (y + 1) = cn (kdB S part f) x + if kd S part f y = 0 then 0 else 1 := fun y hy hnone => by
      have h1 := kdB_none (S := S) (f := f) (part := part) hnone (y - x) (by omega)
      rw [show x + (y - x) = y by omega] at h1
      rw [cn_s, h1]
      congr 1
      unfold kdB
      by_cases hk : kd S part f y = 0
      · rw [if_pos hk, if_neg (by simp [hk])]
      · rw [if_neg hk, if_pos (by simp [hk])]
    have hnth : ∀ (y : Nat), (y : Int) < nid → kd S part f y ≠ 0 → cn (kdB S part f) (y + 1) = cn (kdB S part f) x + 1 → nth (kdB S part f) nid.toNat (cn (kdB S part f) x) = y := fun y hy hk hc => by
      have h1 : kdB S part f y = true := by unfold kdB; simp [hk]
      rw [cn_s1 h1] at hc
      rw [show cn (kdB S part f) x = cn (kdB S part f) y by omega]
      exact nth_at (by omega) h1
    by_cases hs : (sN S : Int) ≤ slot
    · by_cases he : (c : Int) ≤ entry
      · -- nothing is left
        simp only [wq_g3, wq_gc, wq_g, wq_g1, wq_g2, eE_walk, iE_walk_0, iE_walk_30, iE_walk_58, iE_walk_59, iE_walk_74, iE_walk_75, iE_walk_92, iE_walk_93, iE_walk_123, iE_walk_127, iE_walk_128, iE_walk_158, iE_walk_162, iE_walk_163, iE_walk_177, iE_walk_178, iE_walk_189, iE_walk_190, iE_walk_226, iE_walk_233, iE_walk_253, iE_walk_254, iE_walk_257, iE_walk_268, iE_walk_269, iE_walk_283, iE_walk_284, iE_walk_293, vE_walk, wps, x_cnd, reduceIte, Nat.reduceAdd, Nat.reduceSub, Nat.reduceEqDiff, Nat.reduceLeDiff, Nat.lt_irrefl, Nat.reduceLT, Int.cast_ofNat_Int, wq_c0, wq_c1, true_and, and_true, and_self, true_implies, forall_const, ne_eq, Decidable.not_not, not_true_eq_false, not_false_eq_true, List.map_nil, List.map_cons, List.sum_nil, List.sum_cons, List.length_cons, List.length_nil, Nat.le_refl, Nat.zero_le, reduceCtorEq, true_or, or_true, false_or, or_false, false_and, and_false, false_implies, Nat.zero_add, Nat.add_zero, Int.reduceEq, Int.reduceNe, Int.reduceLT, Int.reduceLE, Int.reduceNeg, Int.reduceToNat, Nat.not_lt_zero, l0, l1, l2, l3, l4, l5, l6, l7, l8, l9, l10, fxs F, nts N.1.1, hx1, hx2, g0, g1, hs, he]
        have p0 : pl S nid = -1 := by
          by_cases hp : pl S nid = -1
          · exact hp
          · obtain ⟨p, p1, p2, p3⟩ := pl_some hp
            have := w.id p1
            omega
        have f0 : f nid = -1 := by
          by_cases hp : f nid = -1
          · exact hp
          · have := hf _ hp
            omega
        refine cE_compare F R' w V' N' h6 p0.symm (Or.inl ⟨rfl, f0⟩) ?_
        rw [kd_out p0 f0]
        simp only [wq_g3, wq_gc, wq_g, wq_g1, wq_g2, eE_walk, iE_walk_0, iE_walk_30, iE_walk_58, iE_walk_59, iE_walk_74, iE_walk_75, iE_walk_92, iE_walk_93, iE_walk_123, iE_walk_127, iE_walk_128, iE_walk_158, iE_walk_162, iE_walk_163, iE_walk_177, iE_walk_178, iE_walk_189, iE_walk_190, iE_walk_226, iE_walk_233, iE_walk_253, iE_walk_254, iE_walk_257, iE_walk_268, iE_walk_269, iE_walk_283, iE_walk_284, iE_walk_293, vE_walk, wps, x_cnd, reduceIte, Nat.reduceAdd, Nat.reduceSub, Nat.reduceEqDiff, Nat.reduceLeDiff, Nat.lt_irrefl, Nat.reduceLT, Int.cast_ofNat_Int, wq_c0, wq_c1, true_and, and_true, and_self, true_implies, forall_const, ne_eq, Decidable.not_not, not_true_eq_false, not_false_eq_true, List.map_nil, List.map_cons, List.sum_nil, List.sum_cons, List.length_cons, List.length_nil, Nat.le_refl, Nat.zero_le, reduceCtorEq, true_or, or_true, false_or, or_false, false_and, and_false, false_implies, Nat.zero_add, Nat.add_zero, Int.reduceEq, Int.reduceNe, Int.reduceLT, Int.reduceLE, Int.reduceNeg, Int.reduceToNat, Nat.not_lt_zero, l0, l1, l2, l3, l4, l5, l6, l7, l8, l9, l10, fxs F, nts N.1.1]
        simp (disch := omega) only [w32_of]
        exact ⟨sN S + c - (step + 1), by omega, hfr, slot, entry, step + 1, x, by omega, by omega, by omega, by omega, by omega, rfl, by rw [Int.add_zero], by rw [Int.add_zero], rfl, rfl, J, I, q7⟩
      · -- a note alone
        have e0 : entry < ntc M r := by omega
        obtain ⟨y, hy⟩ : ∃ y : Nat, M (r + 1) entry = y := ⟨(M (r + 1) entry).toNat, by have := (N.at e0).2.1; omega⟩
        obtain ⟨a1, a2, a3, a4, a5⟩ := wk_adv w N (tb := 0) (te := 1) J (Or.inr ⟨rfl, fun p p1 p2 => by have := rk_ltk (S := S) p1; omega⟩) (Or.inl ⟨rfl, e0, hy⟩) (Or.inr rfl)
        have hyn : (y : Int) < nid := by
          rw [← hy]
          refine hf _ ?_
          have h1 := (N.at e0).1
          have h2 := (N.at e0).2
          have h3 := pk4_p (l := M (r + 2) entry) h2.2.1.1 h2.2.2.1 h2.2.2.2.1 h2.2.2.2.2
          omega
        simp only [wq_g3, wq_gc, wq_g, wq_g1, wq_g2, eE_walk, iE_walk_0, iE_walk_30, iE_walk_58, iE_walk_59, iE_walk_74, iE_walk_75, iE_walk_92, iE_walk_93, iE_walk_123, iE_walk_127, iE_walk_128, iE_walk_158, iE_walk_162, iE_walk_163, iE_walk_177, iE_walk_178, iE_walk_189, iE_walk_190, iE_walk_226, iE_walk_233, iE_walk_253, iE_walk_254, iE_walk_257, iE_walk_268, iE_walk_269, iE_walk_283, iE_walk_284, iE_walk_293, vE_walk, wps, x_cnd, reduceIte, Nat.reduceAdd, Nat.reduceSub, Nat.reduceEqDiff, Nat.reduceLeDiff, Nat.lt_irrefl, Nat.reduceLT, Int.cast_ofNat_Int, wq_c0, wq_c1, true_and, and_true, and_self, true_implies, forall_const, ne_eq, Decidable.not_not, not_true_eq_false, not_false_eq_true, List.map_nil, List.map_cons, List.sum_nil, List.sum_cons, List.length_cons, List.length_nil, Nat.le_refl, Nat.zero_le, reduceCtorEq, true_or, or_true, false_or, or_false, false_and, and_false, false_implies, Nat.zero_add, Nat.add_zero, Int.reduceEq, Int.reduceNe, Int.reduceLT, Int.reduceLE, Int.reduceNeg, Int.reduceToNat, Nat.not_lt_zero, l0, l1, l2, l3, l4, l5, l6, l7, l8, l9, l10, fxs F, nts N.1.1, hx1, hx2, g0, g1, hs, he]

        have e0' : entry < ntc M' r := by
          unfold ntc
          rw [g1]
          omega
        refine cE_compare F R' w V' N' h6 (id := y) (a4 rfl).symm (Or.inr ⟨entry, rfl, e0', by rw [g2]; exact hy⟩) ?_
        have hse := hseen y a1 a2
        have hkd2 : kd S part f y = 0 ∨ kd S part f y = 2 := by
          unfold kd
          have : ¬ (pl S y ≠ -1 ∧ isP S (pl S y) = true) := fun q => q.1 (a4 rfl)
          rw [if_neg this, if_pos this]
          split <;> simp
        have hend : ∀ (M1 : xM) (sn : Int), (∀ (a : Nat) (j : Int), ¬ (a = 36 ∧ 0 ≤ j ∧ j ≤ 2) → M1 a j = M a j) → sn = cn (kdB S part f) (y + 1) → wkI S part f nid sn M1 → _ := fun M1 sn z1 z2 z3 => fin y 0 1 M1 sn ((slot : Int) + 0) ((entry : Int) + 1) a3 (by omega) (by omega) (Or.inr rfl) hyn z1 z2 (by rw [z2, hse]; split <;> omega) rfl rfl z3
        rcases hkd2 with hk0 | hk0
        · simp only [wq_g3, wq_gc, wq_g, wq_g1, wq_g2, eE_walk, iE_walk_0, iE_walk_30, iE_walk_58, iE_walk_59, iE_walk_74, iE_walk_75, iE_walk_92, iE_walk_93, iE_walk_123, iE_walk_127, iE_walk_128, iE_walk_158, iE_walk_162, iE_walk_163, iE_walk_177, iE_walk_178, iE_walk_189, iE_walk_190, iE_walk_226, iE_walk_233, iE_walk_253, iE_walk_254, iE_walk_257, iE_walk_268, iE_walk_269, iE_walk_283, iE_walk_284, iE_walk_293, vE_walk, wps, x_cnd, reduceIte, Nat.reduceAdd, Nat.reduceSub, Nat.reduceEqDiff, Nat.reduceLeDiff, Nat.lt_irrefl, Nat.reduceLT, Int.cast_ofNat_Int, wq_c0, wq_c1, true_and, and_true, and_self, true_implies, forall_const, ne_eq, Decidable.not_not, not_true_eq_false, not_false_eq_true, List.map_nil, List.map_cons, List.sum_nil, List.sum_cons, List.length_cons, List.length_nil, Nat.le_refl, Nat.zero_le, reduceCtorEq, true_or, or_true, false_or, or_false, false_and, and_false, false_implies, Nat.zero_add, Nat.add_zero, Int.reduceEq, Int.reduceNe, Int.reduceLT, Int.reduceLE, Int.reduceNeg, Int.reduceToNat, Nat.not_lt_zero, l0, l1, l2, l3, l4, l5, l6, l7, l8, l9, l10, fxs F, nts N.1.1, hk0]
          simp (disch := omega) only [w32_of]
          rw [if_pos hk0] at hse
          exact hend M' _ hfr (by omega) I
        · simp only [wq_g3, wq_gc, wq_g, wq_g1, wq_g2, eE_walk, iE_walk_0, iE_walk_30, iE_walk_58, iE_walk_59, iE_walk_74, iE_walk_75, iE_walk_92, iE_walk_93, iE_walk_123, iE_walk_127, iE_walk_128, iE_walk_158, iE_walk_162, iE_walk_163, iE_walk_177, iE_walk_178, iE_walk_189, iE_walk_190, iE_walk_226, iE_walk_233, iE_walk_253, iE_walk_254, iE_walk_257, iE_walk_268, iE_walk_269, iE_walk_283, iE_walk_284, iE_walk_293, vE_walk, wps, x_cnd, reduceIte, Nat.reduceAdd, Nat.reduceSub, Nat.reduceEqDiff, Nat.reduceLeDiff, Nat.lt_irrefl, Nat.reduceLT, Int.cast_ofNat_Int, wq_c0, wq_c1, true_and, and_true, and_self, true_implies, forall_const, ne_eq, Decidable.not_not, not_true_eq_false, not_false_eq_true, List.map_nil, List.map_cons, List.sum_nil, List.sum_cons, List.length_cons, List.length_nil, Nat.le_refl, Nat.zero_le, reduceCtorEq, true_or, or_true, false_or, or_false, false_and, and_false, false_implies, Nat.zero_add, Nat.add_zero, Int.reduceEq, Int.reduceNe, Int.reduceLT, Int.reduceLE, Int.reduceNeg, Int.reduceToNat, Nat.not_lt_zero, l0, l1, l2, l3, l4, l5, l6, l7, l8, l9, l10, fxs F, nts N.1.1, hk0]
          simp (disch := omega) only [w32_of]
          simp (disch := omega) only [w_ne]
          rw [g2, hy]
          have N2 : repN f (x_w (x_w M' 36 1 2) 36 0 y) h' r := N'.frame (fun a j ha => by rw [w_ne (by omega), w_ne (by omega)])
          have e2 : x_w (x_w M' 36 1 2) 36 0 y (r + 1) = M (r + 1) := by
            funext j
            rw [w_ne (by omega), w_ne (by omega), g2]
          refine ⟨by omega, cE_notedFor N2 (e := entry) (by unfold ntc; rw [w_ne (by omega), w_ne (by omega), g1]; omega) (by omega) ?_⟩
          rw [e2, hy]
          simp only [wq_g3, wq_gc, wq_g, wq_g1, wq_g2, eE_walk, iE_walk_0, iE_walk_30, iE_walk_58, iE_walk_59, iE_walk_74, iE_walk_75, iE_walk_92, iE_walk_93, iE_walk_123, iE_walk_127, iE_walk_128, iE_walk_158, iE_walk_162, iE_walk_163, iE_walk_177, iE_walk_178, iE_walk_189, iE_walk_190, iE_walk_226, iE_walk_233, iE_walk_253, iE_walk_254, iE_walk_257, iE_walk_268, iE_walk_269, iE_walk_283, iE_walk_284, iE_walk_293, vE_walk, wps, x_cnd, reduceIte, Nat.reduceAdd, Nat.reduceSub, Nat.reduceEqDiff, Nat.reduceLeDiff, Nat.lt_irrefl, Nat.reduceLT, Int.cast_ofNat_Int, wq_c0, wq_c1, true_and, and_true, and_self, true_implies, forall_const, ne_eq, Decidable.not_not, not_true_eq_false, not_false_eq_true, List.map_nil, List.map_cons, List.sum_nil, List.sum_cons, List.length_cons, List.length_nil, Nat.le_refl, Nat.zero_le, reduceCtorEq, true_or, or_true, false_or, or_false, false_and, and_false, false_implies, Nat.zero_add, Nat.add_zero, Int.reduceEq, Int.reduceNe, Int.reduceLT, Int.reduceLE, Int.reduceNeg, Int.reduceToNat, Nat.not_lt_zero, l0, l1, l2, l3, l4, l5, l6, l7, l8, l9, l10, fxs F, nts N.1.1, hk0]
          simp (disch := omega) only [w32_of]
          rw [if_neg (by omega)] at hse
          refine hend _ _ (fun a j ha => ?_) (by omega) ?_
          · unfold x_w
            rw [if_neg (by omega), if_neg (by omega), if_neg (by omega)]
            exact hfr a j ha
          · have h3 := w36 (M := M') (v0 := y) (v1 := 2) (v2 := ndF 2 (f y))
            exact wkI_of (by rw [show cn (kdB S part f) x + 1 - 1 = cn (kdB S part f) x by omega]; exact hnth y hyn (by omega) hse) h3.1 (by rw [hk0]; exact h3.2.1) (by rw [hk0]; exact h3.2.2)
    · obtain ⟨p, p1, p2, p3⟩ := V'.srt (j := slot) (by omega)
      have g3 : M' 18 p = sI S p := (hfr _ _ (by omega)).trans (R.id p1)
      obtain ⟨y, hy⟩ : ∃ y : Nat, sI S p = y := ⟨(sI S p).toNat, by have := w.id p1; omega⟩
      have hply : pl S y = p := by rw [← hy]; exact pl_at w p1
      have hyn : (y : Int) < nid := by have := w.id p1; omega
      rw [hy] at g3
      by_cases he : (c : Int) ≤ entry
      · obtain ⟨a1, a2, a3, a4, a5⟩ := wk_adv w N (tb := 1) (te := 0) J (Or.inl ⟨rfl, p, p1, p3, hy⟩) (Or.inr ⟨rfl, fun e e1 e2 => by omega⟩) (Or.inl rfl)
        simp only [wq_g3, wq_gc, wq_g, wq_g1, wq_g2, eE_walk, iE_walk_0, iE_walk_30, iE_walk_58, iE_walk_59, iE_walk_74, iE_walk_75, iE_walk_92, iE_walk_93, iE_walk_123, iE_walk_127, iE_walk_128, iE_walk_158, iE_walk_162, iE_walk_163, iE_walk_177, iE_walk_178, iE_walk_189, iE_walk_190, iE_walk_226, iE_walk_233, iE_walk_253, iE_walk_254, iE_walk_257, iE_walk_268, iE_walk_269, iE_walk_283, iE_walk_284, iE_walk_293, vE_walk, wps, x_cnd, reduceIte, Nat.reduceAdd, Nat.reduceSub, Nat.reduceEqDiff, Nat.reduceLeDiff, Nat.lt_irrefl, Nat.reduceLT, Int.cast_ofNat_Int, wq_c0, wq_c1, true_and, and_true, and_self, true_implies, forall_const, ne_eq, Decidable.not_not, not_true_eq_false, not_false_eq_true, List.map_nil, List.map_cons, List.sum_nil, List.sum_cons, List.length_cons, List.length_nil, Nat.le_refl, Nat.zero_le, reduceCtorEq, true_or, or_true, false_or, or_false, false_and, and_false, false_implies, Nat.zero_add, Nat.add_zero, Int.reduceEq, Int.reduceNe, Int.reduceLT, Int.reduceLE, Int.reduceNeg, Int.reduceToNat, Nat.not_lt_zero, l0, l1, l2, l3, l4, l5, l6, l7, l8, l9, l10, fxs F, nts N.1.1, hx1, hx2, g0, g1, p2, g3, hs, he]
        refine ⟨by omega, ?_⟩
        refine cE_compare F R' w V' N' h6 (id := y) hply.symm (Or.inl ⟨rfl, a5 rfl⟩) ?_
        have hse := hseen y a1 a2
        have hkd2 : kd S part f y = 0 ∨ kd S part f y = 1 := by
          unfold kd
          rw [if_pos (a5 rfl)]
          split <;> simp
        have hend : ∀ (M1 : xM) (sn : Int), (∀ (a : Nat) (j : Int), ¬ (a = 36 ∧ 0 ≤ j ∧ j ≤ 2) → M1 a j = M a j) → sn = cn (kdB S part f) (y + 1) → wkI S part f nid sn M1 → _ := fun M1 sn z1 z2 z3 => fin y 1 0 M1 sn ((slot : Int) + 1) ((entry : Int) + 0) a3 (by omega) (by omega) (Or.inl rfl) hyn z1 z2 (by rw [z2, hse]; split <;> omega) rfl rfl z3
        rcases hkd2 with hk0 | hk0
        · simp only [wq_g3, wq_gc, wq_g, wq_g1, wq_g2, eE_walk, iE_walk_0, iE_walk_30, iE_walk_58, iE_walk_59, iE_walk_74, iE_walk_75, iE_walk_92, iE_walk_93, iE_walk_123, iE_walk_127, iE_walk_128, iE_walk_158, iE_walk_162, iE_walk_163, iE_walk_177, iE_walk_178, iE_walk_189, iE_walk_190, iE_walk_226, iE_walk_233, iE_walk_253, iE_walk_254, iE_walk_257, iE_walk_268, iE_walk_269, iE_walk_283, iE_walk_284, iE_walk_293, vE_walk, wps, x_cnd, reduceIte, Nat.reduceAdd, Nat.reduceSub, Nat.reduceEqDiff, Nat.reduceLeDiff, Nat.lt_irrefl, Nat.reduceLT, Int.cast_ofNat_Int, wq_c0, wq_c1, true_and, and_true, and_self, true_implies, forall_const, ne_eq, Decidable.not_not, not_true_eq_false, not_false_eq_true, List.map_nil, List.map_cons, List.sum_nil, List.sum_cons, List.length_cons, List.length_nil, Nat.le_refl, Nat.zero_le, reduceCtorEq, true_or, or_true, false_or, or_false, false_and, and_false, false_implies, Nat.zero_add, Nat.add_zero, Int.reduceEq, Int.reduceNe, Int.reduceLT, Int.reduceLE, Int.reduceNeg, Int.reduceToNat, Nat.not_lt_zero, l0, l1, l2, l3, l4, l5, l6, l7, l8, l9, l10, fxs F, nts N.1.1, hk0]
          simp (disch := omega) only [w32_of]
          rw [if_pos hk0] at hse
          exact hend M' _ hfr (by omega) I
        · simp only [wq_g3, wq_gc, wq_g, wq_g1, wq_g2, eE_walk, iE_walk_0, iE_walk_30, iE_walk_58, iE_walk_59, iE_walk_74, iE_walk_75, iE_walk_92, iE_walk_93, iE_walk_123, iE_walk_127, iE_walk_128, iE_walk_158, iE_walk_162, iE_walk_163, iE_walk_177, iE_walk_178, iE_walk_189, iE_walk_190, iE_walk_226, iE_walk_233, iE_walk_253, iE_walk_254, iE_walk_257, iE_walk_268, iE_walk_269, iE_walk_283, iE_walk_284, iE_walk_293, vE_walk, wps, x_cnd, reduceIte, Nat.reduceAdd, Nat.reduceSub, Nat.reduceEqDiff, Nat.reduceLeDiff, Nat.lt_irrefl, Nat.reduceLT, Int.cast_ofNat_Int, wq_c0, wq_c1, true_and, and_true, and_self, true_implies, forall_const, ne_eq, Decidable.not_not, not_true_eq_false, not_false_eq_true, List.map_nil, List.map_cons, List.sum_nil, List.sum_cons, List.length_cons, List.length_nil, Nat.le_refl, Nat.zero_le, reduceCtorEq, true_or, or_true, false_or, or_false, false_and, and_false, false_implies, Nat.zero_add, Nat.add_zero, Int.reduceEq, Int.reduceNe, Int.reduceLT, Int.reduceLE, Int.reduceNeg, Int.reduceToNat, Nat.not_lt_zero, l0, l1, l2, l3, l4, l5, l6, l7, l8, l9, l10, fxs F, nts N.1.1, hk0]
          simp (disch := omega) only [w32_of]
          simp (disch := omega) only [w_ne]
          rw [g3]
          rw [if_neg (by omega)] at hse
          refine ⟨by omega, hend _ _ (fun a j ha => ?_) (by omega) ?_⟩
          · unfold x_w
            rw [if_neg (by omega), if_neg (by omega), if_neg (by omega)]
            exact hfr a j ha
          · have h3 := w36 (M := M') (v0 := y) (v1 := 1) (v2 := -1)
            exact wkI_of (by rw [show cn (kdB S part f) x + 1 - 1 = cn (kdB S part f) x by omega]; exact hnth y hyn (by omega) hse) h3.1 (by rw [hk0]; exact h3.2.1) (by rw [hk0]; exact h3.2.2)
      · have e0 : entry < ntc M r := by omega
        by_cases hlt : (y : Int) < M (r + 1) entry
        · have d1 : ¬ M' (r + 1) entry < y := by rw [g2]; omega
          have d2 : (y : Int) < M' (r + 1) entry := by rw [g2]; exact hlt
          obtain ⟨a1, a2, a3, a4, a5⟩ := wk_adv w N (tb := 1) (te := 0) J (Or.inl ⟨rfl, p, p1, p3, hy⟩) (Or.inr ⟨rfl, fun e e1 e2 => by by_cases h7 : e = entry; (subst h7; exact hlt); (have := N.2.2.1 entry e (by omega) e1; omega)⟩) (Or.inl rfl)
          simp only [wq_g3, wq_gc, wq_g, wq_g1, wq_g2, eE_walk, iE_walk_0, iE_walk_30, iE_walk_58, iE_walk_59, iE_walk_74, iE_walk_75, iE_walk_92, iE_walk_93, iE_walk_123, iE_walk_127, iE_walk_128, iE_walk_158, iE_walk_162, iE_walk_163, iE_walk_177, iE_walk_178, iE_walk_189, iE_walk_190, iE_walk_226, iE_walk_233, iE_walk_253, iE_walk_254, iE_walk_257, iE_walk_268, iE_walk_269, iE_walk_283, iE_walk_284, iE_walk_293, vE_walk, wps, x_cnd, reduceIte, Nat.reduceAdd, Nat.reduceSub, Nat.reduceEqDiff, Nat.reduceLeDiff, Nat.lt_irrefl, Nat.reduceLT, Int.cast_ofNat_Int, wq_c0, wq_c1, true_and, and_true, and_self, true_implies, forall_const, ne_eq, Decidable.not_not, not_true_eq_false, not_false_eq_true, List.map_nil, List.map_cons, List.sum_nil, List.sum_cons, List.length_cons, List.length_nil, Nat.le_refl, Nat.zero_le, reduceCtorEq, true_or, or_true, false_or, or_false, false_and, and_false, false_implies, Nat.zero_add, Nat.add_zero, Int.reduceEq, Int.reduceNe, Int.reduceLT, Int.reduceLE, Int.reduceNeg, Int.reduceToNat, Nat.not_lt_zero, l0, l1, l2, l3, l4, l5, l6, l7, l8, l9, l10, fxs F, nts N.1.1, hx1, hx2, g0, g1, p2, g3, hs, he, d1, d2]
          (repeat refine ⟨by omega, ?_⟩)
          refine cE_compare F R' w V' N' h6 (id := y) hply.symm (Or.inl ⟨rfl, a5 rfl⟩) ?_
          have hse := hseen y a1 a2
          have hkd2 : kd S part f y = 0 ∨ kd S part f y = 1 := by
            unfold kd
            rw [if_pos (a5 rfl)]
            split <;> simp
          have hend : ∀ (M1 : xM) (sn : Int), (∀ (a : Nat) (j : Int), ¬ (a = 36 ∧ 0 ≤ j ∧ j ≤ 2) → M1 a j = M a j) → sn = cn (kdB S part f) (y + 1) → wkI S part f nid sn M1 → _ := fun M1 sn z1 z2 z3 => fin y 1 0 M1 sn ((slot : Int) + 1) ((entry : Int) + 0) a3 (by omega) (by omega) (Or.inl rfl) hyn z1 z2 (by rw [z2, hse]; split <;> omega) rfl rfl z3
          rcases hkd2 with hk0 | hk0
          · simp only [wq_g3, wq_gc, wq_g, wq_g1, wq_g2, eE_walk, iE_walk_0, iE_walk_30, iE_walk_58, iE_walk_59, iE_walk_74, iE_walk_75, iE_walk_92, iE_walk_93, iE_walk_123, iE_walk_127, iE_walk_128, iE_walk_158, iE_walk_162, iE_walk_163, iE_walk_177, iE_walk_178, iE_walk_189, iE_walk_190, iE_walk_226, iE_walk_233, iE_walk_253, iE_walk_254, iE_walk_257, iE_walk_268, iE_walk_269, iE_walk_283, iE_walk_284, iE_walk_293, vE_walk, wps, x_cnd, reduceIte, Nat.reduceAdd, Nat.reduceSub, Nat.reduceEqDiff, Nat.reduceLeDiff, Nat.lt_irrefl, Nat.reduceLT, Int.cast_ofNat_Int, wq_c0, wq_c1, true_and, and_true, and_self, true_implies, forall_const, ne_eq, Decidable.not_not, not_true_eq_false, not_false_eq_true, List.map_nil, List.map_cons, List.sum_nil, List.sum_cons, List.length_cons, List.length_nil, Nat.le_refl, Nat.zero_le, reduceCtorEq, true_or, or_true, false_or, or_false, false_and, and_false, false_implies, Nat.zero_add, Nat.add_zero, Int.reduceEq, Int.reduceNe, Int.reduceLT, Int.reduceLE, Int.reduceNeg, Int.reduceToNat, Nat.not_lt_zero, l0, l1, l2, l3, l4, l5, l6, l7, l8, l9, l10, fxs F, nts N.1.1, hk0]
            simp (disch := omega) only [w32_of]
            rw [if_pos hk0] at hse
            exact hend M' _ hfr (by omega) I
          · simp only [wq_g3, wq_gc, wq_g, wq_g1, wq_g2, eE_walk, iE_walk_0, iE_walk_30, iE_walk_58, iE_walk_59, iE_walk_74, iE_walk_75, iE_walk_92, iE_walk_93, iE_walk_123, iE_walk_127, iE_walk_128, iE_walk_158, iE_walk_162, iE_walk_163, iE_walk_177, iE_walk_178, iE_walk_189, iE_walk_190, iE_walk_226, iE_walk_233, iE_walk_253, iE_walk_254, iE_walk_257, iE_walk_268, iE_walk_269, iE_walk_283, iE_walk_284, iE_walk_293, vE_walk, wps, x_cnd, reduceIte, Nat.reduceAdd, Nat.reduceSub, Nat.reduceEqDiff, Nat.reduceLeDiff, Nat.lt_irrefl, Nat.reduceLT, Int.cast_ofNat_Int, wq_c0, wq_c1, true_and, and_true, and_self, true_implies, forall_const, ne_eq, Decidable.not_not, not_true_eq_false, not_false_eq_true, List.map_nil, List.map_cons, List.sum_nil, List.sum_cons, List.length_cons, List.length_nil, Nat.le_refl, Nat.zero_le, reduceCtorEq, true_or, or_true, false_or, or_false, false_and, and_false, false_implies, Nat.zero_add, Nat.add_zero, Int.reduceEq, Int.reduceNe, Int.reduceLT, Int.reduceLE, Int.reduceNeg, Int.reduceToNat, Nat.not_lt_zero, l0, l1, l2, l3, l4, l5, l6, l7, l8, l9, l10, fxs F, nts N.1.1, hk0]
            simp (disch := omega) only [w32_of]
            simp (disch := omega) only [w_ne]
            rw [g3]
            rw [if_neg (by omega)] at hse
            refine ⟨by omega, hend _ _ (fun a j ha => ?_) (by omega) ?_⟩
            · unfold x_w
              rw [if_neg (by omega), if_neg (by omega), if_neg (by omega)]
              exact hfr a j ha
            · have h3 := w36 (M := M') (v0 := y) (v1 := 1) (v2 := -1)
              exact wkI_of (by rw [show cn (kdB S part f) x + 1 - 1 = cn (kdB S part f) x by omega]; exact hnth y hyn (by omega) hse) h3.1 (by rw [hk0]; exact h3.2.1) (by rw [hk0]; exact h3.2.2)
        · by_cases hge : M (r + 1) entry < (y : Int)
          · have d1 : M' (r + 1) entry < y := by rw [g2]; exact hge
            have d2 : ¬ (y : Int) < M' (r + 1) entry := by rw [g2]; omega
            have hpy := hy
            clear hply hyn
            have e0 : entry < ntc M r := by omega
            obtain ⟨y, hy⟩ : ∃ y : Nat, M (r + 1) entry = y := ⟨(M (r + 1) entry).toNat, by have := (N.at e0).2.1; omega⟩
            obtain ⟨a1, a2, a3, a4, a5⟩ := wk_adv w N (tb := 0) (te := 1) J (Or.inr ⟨rfl, fun q z1 z2 => by have := rk_le (S := S) (p := p) (q := q) z1 (by omega); omega⟩) (Or.inl ⟨rfl, e0, hy⟩) (Or.inr rfl)
            have hyn : (y : Int) < nid := by
              rw [← hy]
              refine hf _ ?_
              have h1 := (N.at e0).1
              have h2 := (N.at e0).2
              have h3 := pk4_p (l := M (r + 2) entry) h2.2.1.1 h2.2.2.1 h2.2.2.2.1 h2.2.2.2.2
              omega
            simp only [wq_g3, wq_gc, wq_g, wq_g1, wq_g2, eE_walk, iE_walk_0, iE_walk_30, iE_walk_58, iE_walk_59, iE_walk_74, iE_walk_75, iE_walk_92, iE_walk_93, iE_walk_123, iE_walk_127, iE_walk_128, iE_walk_158, iE_walk_162, iE_walk_163, iE_walk_177, iE_walk_178, iE_walk_189, iE_walk_190, iE_walk_226, iE_walk_233, iE_walk_253, iE_walk_254, iE_walk_257, iE_walk_268, iE_walk_269, iE_walk_283, iE_walk_284, iE_walk_293, vE_walk, wps, x_cnd, reduceIte, Nat.reduceAdd, Nat.reduceSub, Nat.reduceEqDiff, Nat.reduceLeDiff, Nat.lt_irrefl, Nat.reduceLT, Int.cast_ofNat_Int, wq_c0, wq_c1, true_and, and_true, and_self, true_implies, forall_const, ne_eq, Decidable.not_not, not_true_eq_false, not_false_eq_true, List.map_nil, List.map_cons, List.sum_nil, List.sum_cons, List.length_cons, List.length_nil, Nat.le_refl, Nat.zero_le, reduceCtorEq, true_or, or_true, false_or, or_false, false_and, and_false, false_implies, Nat.zero_add, Nat.add_zero, Int.reduceEq, Int.reduceNe, Int.reduceLT, Int.reduceLE, Int.reduceNeg, Int.reduceToNat, Nat.not_lt_zero, l0, l1, l2, l3, l4, l5, l6, l7, l8, l9, l10, fxs F, nts N.1.1, hx1, hx2, g0, g1, p2, g3, hs, he, d1, d2]
            (repeat refine ⟨by omega, ?_⟩)
            have e0' : entry < ntc M' r := by
              unfold ntc
              rw [g1]
              omega
            refine cE_compare F R' w V' N' h6 (id := y) (a4 rfl).symm (Or.inr ⟨entry, rfl, e0', by rw [g2]; exact hy⟩) ?_
            have hse := hseen y a1 a2
            have hkd2 : kd S part f y = 0 ∨ kd S part f y = 2 := by
              unfold kd
              have : ¬ (pl S y ≠ -1 ∧ isP S (pl S y) = true) := fun q => q.1 (a4 rfl)
              rw [if_neg this, if_pos this]
              split <;> simp
            have hend : ∀ (M1 : xM) (sn : Int), (∀ (a : Nat) (j : Int), ¬ (a = 36 ∧ 0 ≤ j ∧ j ≤ 2) → M1 a j = M a j) → sn = cn (kdB S part f) (y + 1) → wkI S part f nid sn M1 → _ := fun M1 sn z1 z2 z3 => fin y 0 1 M1 sn ((slot : Int) + 0) ((entry : Int) + 1) a3 (by omega) (by omega) (Or.inr rfl) hyn z1 z2 (by rw [z2, hse]; split <;> omega) rfl rfl z3
            rcases hkd2 with hk0 | hk0
            · simp only [wq_g3, wq_gc, wq_g, wq_g1, wq_g2, eE_walk, iE_walk_0, iE_walk_30, iE_walk_58, iE_walk_59, iE_walk_74, iE_walk_75, iE_walk_92, iE_walk_93, iE_walk_123, iE_walk_127, iE_walk_128, iE_walk_158, iE_walk_162, iE_walk_163, iE_walk_177, iE_walk_178, iE_walk_189, iE_walk_190, iE_walk_226, iE_walk_233, iE_walk_253, iE_walk_254, iE_walk_257, iE_walk_268, iE_walk_269, iE_walk_283, iE_walk_284, iE_walk_293, vE_walk, wps, x_cnd, reduceIte, Nat.reduceAdd, Nat.reduceSub, Nat.reduceEqDiff, Nat.reduceLeDiff, Nat.lt_irrefl, Nat.reduceLT, Int.cast_ofNat_Int, wq_c0, wq_c1, true_and, and_true, and_self, true_implies, forall_const, ne_eq, Decidable.not_not, not_true_eq_false, not_false_eq_true, List.map_nil, List.map_cons, List.sum_nil, List.sum_cons, List.length_cons, List.length_nil, Nat.le_refl, Nat.zero_le, reduceCtorEq, true_or, or_true, false_or, or_false, false_and, and_false, false_implies, Nat.zero_add, Nat.add_zero, Int.reduceEq, Int.reduceNe, Int.reduceLT, Int.reduceLE, Int.reduceNeg, Int.reduceToNat, Nat.not_lt_zero, l0, l1, l2, l3, l4, l5, l6, l7, l8, l9, l10, fxs F, nts N.1.1, hk0]
              simp (disch := omega) only [w32_of]
              rw [if_pos hk0] at hse
              exact hend M' _ hfr (by omega) I
            · simp only [wq_g3, wq_gc, wq_g, wq_g1, wq_g2, eE_walk, iE_walk_0, iE_walk_30, iE_walk_58, iE_walk_59, iE_walk_74, iE_walk_75, iE_walk_92, iE_walk_93, iE_walk_123, iE_walk_127, iE_walk_128, iE_walk_158, iE_walk_162, iE_walk_163, iE_walk_177, iE_walk_178, iE_walk_189, iE_walk_190, iE_walk_226, iE_walk_233, iE_walk_253, iE_walk_254, iE_walk_257, iE_walk_268, iE_walk_269, iE_walk_283, iE_walk_284, iE_walk_293, vE_walk, wps, x_cnd, reduceIte, Nat.reduceAdd, Nat.reduceSub, Nat.reduceEqDiff, Nat.reduceLeDiff, Nat.lt_irrefl, Nat.reduceLT, Int.cast_ofNat_Int, wq_c0, wq_c1, true_and, and_true, and_self, true_implies, forall_const, ne_eq, Decidable.not_not, not_true_eq_false, not_false_eq_true, List.map_nil, List.map_cons, List.sum_nil, List.sum_cons, List.length_cons, List.length_nil, Nat.le_refl, Nat.zero_le, reduceCtorEq, true_or, or_true, false_or, or_false, false_and, and_false, false_implies, Nat.zero_add, Nat.add_zero, Int.reduceEq, Int.reduceNe, Int.reduceLT, Int.reduceLE, Int.reduceNeg, Int.reduceToNat, Nat.not_lt_zero, l0, l1, l2, l3, l4, l5, l6, l7, l8, l9, l10, fxs F, nts N.1.1, hk0]
              simp (disch := omega) only [w32_of]
              simp (disch := omega) only [w_ne]
              rw [g2, hy]
              have N2 : repN f (x_w (x_w M' 36 1 2) 36 0 y) h' r := N'.frame (fun a j ha => by rw [w_ne (by omega), w_ne (by omega)])
              have e2 : x_w (x_w M' 36 1 2) 36 0 y (r + 1) = M (r + 1) := by
                funext j
                rw [w_ne (by omega), w_ne (by omega), g2]
              refine ⟨by omega, cE_notedFor N2 (e := entry) (by unfold ntc; rw [w_ne (by omega), w_ne (by omega), g1]; omega) (by omega) ?_⟩
              rw [e2, hy]
              simp only [wq_g3, wq_gc, wq_g, wq_g1, wq_g2, eE_walk, iE_walk_0, iE_walk_30, iE_walk_58, iE_walk_59, iE_walk_74, iE_walk_75, iE_walk_92, iE_walk_93, iE_walk_123, iE_walk_127, iE_walk_128, iE_walk_158, iE_walk_162, iE_walk_163, iE_walk_177, iE_walk_178, iE_walk_189, iE_walk_190, iE_walk_226, iE_walk_233, iE_walk_253, iE_walk_254, iE_walk_257, iE_walk_268, iE_walk_269, iE_walk_283, iE_walk_284, iE_walk_293, vE_walk, wps, x_cnd, reduceIte, Nat.reduceAdd, Nat.reduceSub, Nat.reduceEqDiff, Nat.reduceLeDiff, Nat.lt_irrefl, Nat.reduceLT, Int.cast_ofNat_Int, wq_c0, wq_c1, true_and, and_true, and_self, true_implies, forall_const, ne_eq, Decidable.not_not, not_true_eq_false, not_false_eq_true, List.map_nil, List.map_cons, List.sum_nil, List.sum_cons, List.length_cons, List.length_nil, Nat.le_refl, Nat.zero_le, reduceCtorEq, true_or, or_true, false_or, or_false, false_and, and_false, false_implies, Nat.zero_add, Nat.add_zero, Int.reduceEq, Int.reduceNe, Int.reduceLT, Int.reduceLE, Int.reduceNeg, Int.reduceToNat, Nat.not_lt_zero, l0, l1, l2, l3, l4, l5, l6, l7, l8, l9, l10, fxs F, nts N.1.1, hk0]
              simp (disch := omega) only [w32_of]
              rw [if_neg (by omega)] at hse
              refine hend _ _ (fun a j ha => ?_) (by omega) ?_
              · unfold x_w
                rw [if_neg (by omega), if_neg (by omega), if_neg (by omega)]
                exact hfr a j ha
              · have h3 := w36 (M := M') (v0 := y) (v1 := 2) (v2 := ndF 2 (f y))
                exact wkI_of (by rw [show cn (kdB S part f) x + 1 - 1 = cn (kdB S part f) x by omega]; exact hnth y hyn (by omega) hse) h3.1 (by rw [hk0]; exact h3.2.1) (by rw [hk0]; exact h3.2.2)
          · have hye : M (r + 1) entry = y := by omega
            have d1 : ¬ M' (r + 1) entry < y := by rw [g2]; omega
            have d2 : ¬ (y : Int) < M' (r + 1) entry := by rw [g2]; omega
            obtain ⟨a1, a2, a3, a4, a5⟩ := wk_adv w N (tb := 1) (te := 1) J (Or.inl ⟨rfl, p, p1, p3, hy⟩) (Or.inl ⟨rfl, e0, hye⟩) (Or.inl rfl)
            have e0' : entry < ntc M' r := by
              unfold ntc
              rw [g1]
              omega
            simp only [wq_g3, wq_gc, wq_g, wq_g1, wq_g2, eE_walk, iE_walk_0, iE_walk_30, iE_walk_58, iE_walk_59, iE_walk_74, iE_walk_75, iE_walk_92, iE_walk_93, iE_walk_123, iE_walk_127, iE_walk_128, iE_walk_158, iE_walk_162, iE_walk_163, iE_walk_177, iE_walk_178, iE_walk_189, iE_walk_190, iE_walk_226, iE_walk_233, iE_walk_253, iE_walk_254, iE_walk_257, iE_walk_268, iE_walk_269, iE_walk_283, iE_walk_284, iE_walk_293, vE_walk, wps, x_cnd, reduceIte, Nat.reduceAdd, Nat.reduceSub, Nat.reduceEqDiff, Nat.reduceLeDiff, Nat.lt_irrefl, Nat.reduceLT, Int.cast_ofNat_Int, wq_c0, wq_c1, true_and, and_true, and_self, true_implies, forall_const, ne_eq, Decidable.not_not, not_true_eq_false, not_false_eq_true, List.map_nil, List.map_cons, List.sum_nil, List.sum_cons, List.length_cons, List.length_nil, Nat.le_refl, Nat.zero_le, reduceCtorEq, true_or, or_true, false_or, or_false, false_and, and_false, false_implies, Nat.zero_add, Nat.add_zero, Int.reduceEq, Int.reduceNe, Int.reduceLT, Int.reduceLE, Int.reduceNeg, Int.reduceToNat, Nat.not_lt_zero, l0, l1, l2, l3, l4, l5, l6, l7, l8, l9, l10, fxs F, nts N.1.1, hx1, hx2, g0, g1, p2, g3, hs, he, d1, d2]
            (repeat refine ⟨by omega, ?_⟩)
            refine cE_compare F R' w V' N' h6 (id := y) hply.symm (Or.inr ⟨entry, rfl, e0', by rw [g2]; exact hye⟩) ?_
            have hse := hseen y a1 a2
            have hkd2 : kd S part f y = 0 ∨ 1 < kd S part f y := by
              have h1 := (N.at e0).1
              have h2 := (N.at e0).2
              have h3 := pk4_p (l := M (r + 2) entry) h2.2.1.1 h2.2.2.1 h2.2.2.2.1 h2.2.2.2.2
              rw [hye] at h1
              unfold kd
              rw [if_neg (by omega)]
              (repeat' split) <;> omega
            have hend : ∀ (M1 : xM) (sn : Int), (∀ (a : Nat) (j : Int), ¬ (a = 36 ∧ 0 ≤ j ∧ j ≤ 2) → M1 a j = M a j) → sn = cn (kdB S part f) (y + 1) → wkI S part f nid sn M1 → _ := fun M1 sn z1 z2 z3 => fin y 1 1 M1 sn ((slot : Int) + 1) ((entry : Int) + 1) a3 (by omega) (by omega) (Or.inl rfl) hyn z1 z2 (by rw [z2, hse]; split <;> omega) rfl rfl z3
            rcases hkd2 with hk0 | hk0
            · simp only [wq_g3, wq_gc, wq_g, wq_g1, wq_g2, eE_walk, iE_walk_0, iE_walk_30, iE_walk_58, iE_walk_59, iE_walk_74, iE_walk_75, iE_walk_92, iE_walk_93, iE_walk_123, iE_walk_127, iE_walk_128, iE_walk_158, iE_walk_162, iE_walk_163, iE_walk_177, iE_walk_178, iE_walk_189, iE_walk_190, iE_walk_226, iE_walk_233, iE_walk_253, iE_walk_254, iE_walk_257, iE_walk_268, iE_walk_269, iE_walk_283, iE_walk_284, iE_walk_293, vE_walk, wps, x_cnd, reduceIte, Nat.reduceAdd, Nat.reduceSub, Nat.reduceEqDiff, Nat.reduceLeDiff, Nat.lt_irrefl, Nat.reduceLT, Int.cast_ofNat_Int, wq_c0, wq_c1, true_and, and_true, and_self, true_implies, forall_const, ne_eq, Decidable.not_not, not_true_eq_false, not_false_eq_true, List.map_nil, List.map_cons, List.sum_nil, List.sum_cons, List.length_cons, List.length_nil, Nat.le_refl, Nat.zero_le, reduceCtorEq, true_or, or_true, false_or, or_false, false_and, and_false, false_implies, Nat.zero_add, Nat.add_zero, Int.reduceEq, Int.reduceNe, Int.reduceLT, Int.reduceLE, Int.reduceNeg, Int.reduceToNat, Nat.not_lt_zero, l0, l1, l2, l3, l4, l5, l6, l7, l8, l9, l10, fxs F, nts N.1.1, hk0]
              simp (disch := omega) only [w32_of]
              rw [if_pos hk0] at hse
              exact hend M' _ hfr (by omega) I
            · have hk1 : ¬ kd S part f y = 0 := by omega
              simp only [wq_g3, wq_gc, wq_g, wq_g1, wq_g2, eE_walk, iE_walk_0, iE_walk_30, iE_walk_58, iE_walk_59, iE_walk_74, iE_walk_75, iE_walk_92, iE_walk_93, iE_walk_123, iE_walk_127, iE_walk_128, iE_walk_158, iE_walk_162, iE_walk_163, iE_walk_177, iE_walk_178, iE_walk_189, iE_walk_190, iE_walk_226, iE_walk_233, iE_walk_253, iE_walk_254, iE_walk_257, iE_walk_268, iE_walk_269, iE_walk_283, iE_walk_284, iE_walk_293, vE_walk, wps, x_cnd, reduceIte, Nat.reduceAdd, Nat.reduceSub, Nat.reduceEqDiff, Nat.reduceLeDiff, Nat.lt_irrefl, Nat.reduceLT, Int.cast_ofNat_Int, wq_c0, wq_c1, true_and, and_true, and_self, true_implies, forall_const, ne_eq, Decidable.not_not, not_true_eq_false, not_false_eq_true, List.map_nil, List.map_cons, List.sum_nil, List.sum_cons, List.length_cons, List.length_nil, Nat.le_refl, Nat.zero_le, reduceCtorEq, true_or, or_true, false_or, or_false, false_and, and_false, false_implies, Nat.zero_add, Nat.add_zero, Int.reduceEq, Int.reduceNe, Int.reduceLT, Int.reduceLE, Int.reduceNeg, Int.reduceToNat, Nat.not_lt_zero, l0, l1, l2, l3, l4, l5, l6, l7, l8, l9, l10, fxs F, nts N.1.1, hk1]
              simp (disch := omega) only [w32_of]
              simp (disch := omega) only [w_ne]
              rw [g3]
              have N2 : repN f (x_w (x_w M' 36 1 (kd S part f y)) 36 0 y) h' r := N'.frame (fun a j ha => by rw [w_ne (by omega), w_ne (by omega)])
              have e2 : x_w (x_w M' 36 1 (kd S part f y)) 36 0 y (r + 1) = M (r + 1) := by
                funext j
                rw [w_ne (by omega), w_ne (by omega), g2]
              refine ⟨by omega, cE_notedFor N2 (e := entry) (by unfold ntc; rw [w_ne (by omega), w_ne (by omega), g1]; omega) hk0 ?_⟩
              rw [e2, hye]
              simp only [wq_g3, wq_gc, wq_g, wq_g1, wq_g2, eE_walk, iE_walk_0, iE_walk_30, iE_walk_58, iE_walk_59, iE_walk_74, iE_walk_75, iE_walk_92, iE_walk_93, iE_walk_123, iE_walk_127, iE_walk_128, iE_walk_158, iE_walk_162, iE_walk_163, iE_walk_177, iE_walk_178, iE_walk_189, iE_walk_190, iE_walk_226, iE_walk_233, iE_walk_253, iE_walk_254, iE_walk_257, iE_walk_268, iE_walk_269, iE_walk_283, iE_walk_284, iE_walk_293, vE_walk, wps, x_cnd, reduceIte, Nat.reduceAdd, Nat.reduceSub, Nat.reduceEqDiff, Nat.reduceLeDiff, Nat.lt_irrefl, Nat.reduceLT, Int.cast_ofNat_Int, wq_c0, wq_c1, true_and, and_true, and_self, true_implies, forall_const, ne_eq, Decidable.not_not, not_true_eq_false, not_false_eq_true, List.map_nil, List.map_cons, List.sum_nil, List.sum_cons, List.length_cons, List.length_nil, Nat.le_refl, Nat.zero_le, reduceCtorEq, true_or, or_true, false_or, or_false, false_and, and_false, false_implies, Nat.zero_add, Nat.add_zero, Int.reduceEq, Int.reduceNe, Int.reduceLT, Int.reduceLE, Int.reduceNeg, Int.reduceToNat, Nat.not_lt_zero, l0, l1, l2, l3, l4, l5, l6, l7, l8, l9, l10, fxs F, nts N.1.1]
              simp (disch := omega) only [w32_of]
              rw [if_neg hk1] at hse
              refine hend _ _ (fun a j ha => ?_) (by omega) ?_
              · unfold x_w
                rw [if_neg (by omega), if_neg (by omega), if_neg (by omega)]
                exact hfr a j ha
              · have h3 := w36 (M := M') (v0 := y) (v1 := kd S part f y) (v2 := ndF (kd S part f y) (f y))
                exact wkI_of (by rw [show cn (kdB S part f) x + 1 - 1 = cn (kdB S part f) x by omega]; exact hnth y hyn (by omega) hse) h3.1 h3.2.1 h3.2.2
/-- no more errata than bars of the score and notes together -/
theorem erN_300 (w : wfS S nid) (N : repN f M h r) {part : Int} {n : Nat} : cn (kdB S part f) n ≤ 300 := by
  have hN := w.N
  obtain ⟨c, c1, c2, c3⟩ := N.cnt
  have := cn_cover (P := kdB S part f) (f := fun p => if p < sN S then sI S p else M (r + 1) (p - sN S)) (N := sN S + ntc M r) (n := n) (fun q hq hp => by
    by_cases h1 : pl S q = -1
    · by_cases h2 : f q = -1
      · unfold kdB at hp
        rw [kd_out h1 h2] at hp
        exact absurd hp (by decide)
      · obtain ⟨e, e1, e2⟩ := N.some h2
        refine ⟨sN S + e, by omega, ?_⟩
        show (if ((sN S + e : Nat) : Int) < sN S then _ else M (r + 1) (((sN S + e : Nat) : Int) - sN S)) = _
        rw [if_neg (by omega), show ((sN S + e : Nat) : Int) - sN S = e by omega, e2]
    · obtain ⟨p, p1, p2, p3⟩ := pl_some h1
      refine ⟨p, by omega, ?_⟩
      show (if (p : Int) < sN S then _ else _) = _
      rw [if_pos (by omega), p3])
  omega
end EM
