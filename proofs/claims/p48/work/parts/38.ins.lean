/-! insert -/
def shf (t c : Int) (g v : Int → Int) : Int → Int := fun p => if p < t then g p else if p < t + c then v p else g (p - c)
def insS (S : xSr) (t : Int) (c : Nat) (first beats : Int) : xSr := (sN S + c, sP S, shf t c (sI S) (fun p => first + (p - t)), shf t c (sB S) (fun _ => beats), shf t c (sX S) (fun _ => 1), shf t c (sT S) (fun _ => 0), shf t c (sD S) (fun _ => 0), (fun part => shf t c (sC S part) (fun _ => 0)), sM S, sF S, sL S, sQ S, sR S)
def dIns (A : xAb) (after count beats : Int) : xAn × xAb :=
  if after ≠ -1 ∧ pl (aS A) after = -1 then (.inr 2, A)
  else if ¬ (1 ≤ count ∧ count ≤ 20 ∧ 1 ≤ beats ∧ beats ≤ 12) then (.inr 1, A)
  else if 150 < (sN (aS A) : Int) + count then (.inr 0, A)
  else (.inl (aI A), aKeep A (insS (aS A) (if after = -1 then 0 else pl (aS A) after + 1) count.toNat (aI A) beats) (aI A + count))
section INS
variable {A : xAb} {M : xM} {h : xH} {Φ : xO → xM → xH → Prop} {S : xSr} {nid : Int}
set_option maxHeartbeats 1000000
theorem adm_a {t c N a p : Nat} {first beats : Int} (ht : t ≤ N) (h1 : 18 ≤ a) (h2 : a ≤ 22) (hp : p < N + c) : adM (mvM M 17 t (t + c) ((N - t : Nat) : Int)) 17 t c first beats 1 a p = shf t c (M a) (adV 17 t first beats 1 a) p := by
  unfold adM mvM shf
  by_cases h3 : p < t
  · rw [if_neg (by omega), if_neg (by omega), if_neg (by omega), if_neg (by omega), if_pos (by omega)]
  · rw [if_neg (show ¬ (p : Int) < t by omega)]
    by_cases h4 : p < t + c
    · rw [if_pos (by omega), if_pos (by omega)]
    · rw [if_neg (by omega), if_neg (by omega), if_pos (by omega), if_neg (by omega), show (p : Int) + (t - (t + c)) = p - c by omega]
theorem adm_c {t c N p part : Nat} {first beats : Int} (ht : t ≤ N) (h6 : part < 6) (hN : N + c ≤ 150) (hp : p < N + c) : adM (mvM M 17 t (t + c) ((N - t : Nat) : Int)) 17 t c first beats 1 23 ((part : Int) * 150 + p) = shf t c (fun j => M 23 ((part : Int) * 150 + j)) (fun _ => 0) p := by
  unfold adM mvM shf
  rw [if_neg (by omega)]
  by_cases h3 : p < t
  · rw [if_neg (by omega), if_neg (by omega), if_neg (by omega), if_pos (by omega)]
  · rw [if_neg (show ¬ (p : Int) < t by omega)]
    by_cases h4 : p < t + c
    · rw [if_pos (by omega), if_pos (by omega)]
    · rw [if_neg (by omega), if_neg (by omega), if_pos (by omega), if_neg (by omega), show (part : Int) * 150 + p + (t - (t + c)) = part * 150 + (p - c) by omega]
theorem adm_o {t c a : Nat} {d j first beats : Int} (h : a < 18 ∨ 23 < a) : adM (mvM M 17 t (t + c) d) 17 t c first beats 1 a j = M a j := by
  unfold adM mvM
  rw [if_neg (by omega), if_neg (by omega), if_neg (by omega), if_neg (by omega)]
theorem shf_1 {t c : Int} {g v : Int → Int} {p : Int} (h : p < t) : shf t c g v p = g p := if_pos h
theorem shf_2 {t c : Int} {g v : Int → Int} {p : Int} (h : t ≤ p) (h2 : p < t + c) : shf t c g v p = v p := by
  unfold shf
  rw [if_neg (by omega), if_pos h2]
theorem shf_3 {t c : Int} {g v : Int → Int} {p r : Int} (h : t + c ≤ p) (hc : 0 ≤ c) (hr : p = r + c) : shf t c g v p = g r := by
  unfold shf
  rw [if_neg (by omega), if_neg (by omega), show p - c = r by omega]
theorem shf_cg {t c N p : Nat} {g g' v v' : Int → Int} (h : ∀ q : Nat, q < N → g q = g' q) (hv : ∀ q, v q = v' q) (ht : t ≤ N) (hp : p < N + c) : shf t c g v p = shf t c g' v' p := by
  by_cases h3 : p < t
  · rw [shf_1 (by omega), shf_1 (by omega)]
    exact h p (by omega)
  · by_cases h4 : p < t + c
    · rw [shf_2 (by omega) (by omega), shf_2 (by omega) (by omega)]
      exact hv p
    · rw [shf_3 (r := (p - c : Nat)) (by omega) (by omega) (by omega), shf_3 (r := (p - c : Nat)) (by omega) (by omega) (by omega)]
      exact h _ (by omega)
theorem ins_I {t c : Nat} {f b : Int} : sI (insS S t c f b) = shf t c (sI S) (fun p => f + (p - t)) := rfl
theorem ins_B {t c : Nat} {f b : Int} : sB (insS S t c f b) = shf t c (sB S) (fun _ => b) := rfl
theorem ins_X {t c : Nat} {f b : Int} : sX (insS S t c f b) = shf t c (sX S) (fun _ => 1) := rfl
theorem ins_T {t c : Nat} {f b : Int} : sT (insS S t c f b) = shf t c (sT S) (fun _ => 0) := rfl
theorem ins_D {t c : Nat} {f b : Int} : sD (insS S t c f b) = shf t c (sD S) (fun _ => 0) := rfl
theorem ins_C {t c : Nat} {f b : Int} : sC (insS S t c f b) = fun part => shf t c (sC S part) (fun _ => 0) := rfl
theorem repC.ins {t c : Nat} {first beats : Int} (R : repC S M h 17) (ht : t ≤ sN S) (hc : sN S + c ≤ 150) : repC (insS S t c first beats) (x_w (adM (mvM M 17 t (t + c) ((sN S - t : Nat) : Int)) 17 t c first beats 1) 17 0 (sN S + c)) h 17 := by
  obtain ⟨a1, ⟨b1, b2, b3⟩, c1, d1, e1, f1⟩ := R
  refine ⟨a1, ⟨?_, ?_, ?_⟩, fun p hp => ?_, fun l h1 h2 => ?_, fun c h1 => ?_, fun part h6 => ?_⟩
  · rw [w_eq]
    show _ = ((sN S + c : Nat) : Int)
    omega
  · rw [w_nj (by decide), adm_o (by omega)]
    exact b2
  · rw [w_nj (by decide), adm_o (by omega)]
    exact b3
  · replace hp : p < sN S + c := hp
    rw [w_ne (by omega), w_ne (by omega), w_ne (by omega), w_ne (by omega), w_ne (by omega), adm_a ht (by omega) (by omega) hp, adm_a ht (by omega) (by omega) hp, adm_a ht (by omega) (by omega) hp, adm_a ht (by omega) (by omega) hp, adm_a ht (by omega) (by omega) hp]
    refine ⟨shf_cg (fun q hq => (c1 q hq).1) (fun _ => rfl) ht hp, shf_cg (fun q hq => (c1 q hq).2.1) (fun _ => rfl) ht hp, shf_cg (fun q hq => (c1 q hq).2.2.1) (fun _ => rfl) ht hp, shf_cg (fun q hq => (c1 q hq).2.2.2.1) (fun _ => rfl) ht hp, shf_cg (fun q hq => (c1 q hq).2.2.2.2.1) (fun _ => rfl) ht hp, fun part h6 => ?_⟩
    rw [w_ne (by omega)]
    exact (adm_c ht h6 hc hp).trans (shf_cg (fun q hq => (c1 q hq).2.2.2.2.2 part h6) (fun _ => rfl) ht hp)
  · rw [w_ne (by omega), adm_o (by omega)]
    exact d1 l h1 h2
  · rw [w_ne (by omega), w_ne (by omega), adm_o (by omega), adm_o (by omega)]
    exact e1 c h1
  · rcases f1 part h6 with z | ⟨z1, z2⟩
    · exact Or.inl z
    · refine Or.inr ⟨z1, z2.frame (fun a j ha => ?_)⟩
      rw [w_ne (by omega), adm_o (by omega)]
theorem wfS.ins {t c : Nat} {beats : Int} (w : wfS S nid) (h0 : 0 ≤ nid) (ht : t ≤ sN S) (hc : sN S + c ≤ 150) (hb : 1 ≤ beats ∧ beats ≤ 12) : wfS (insS S t c nid beats) (nid + c) := by
  -- the bars behind the new ones
  have at3 : ∀ p : Nat, p < sN S + c → (p < t ∧ ∀ g v : Int → Int, shf t c g v p = g p) ∨ (t ≤ p ∧ p < t + c ∧ ∀ g v : Int → Int, shf t c g v p = v p) ∨ ∃ r : Nat, p = r + c ∧ t ≤ r ∧ r < sN S ∧ ∀ g v : Int → Int, shf t c g v p = g r := fun p hp => by
    by_cases h1 : p < t
    · exact Or.inl ⟨h1, fun g v => if_pos (by omega)⟩
    · by_cases h2 : p < t + c
      · refine Or.inr (Or.inl ⟨by omega, h2, fun g v => ?_⟩)
        unfold shf
        rw [if_neg (by omega), if_pos (by omega)]
      · refine Or.inr (Or.inr ⟨p - c, by omega, by omega, by omega, fun g v => ?_⟩)
        unfold shf
        rw [if_neg (by omega), if_neg (by omega), show (p : Int) - c = (p - c : Nat) by omega]
  have old : ∀ q : Nat, q < sN S → ∃ q' : Nat, q' < sN S + c ∧ (∀ g v : Int → Int, shf t c g v q' = g q) ∧ (q' = if q < t then q else q + c) := fun q hq => by
    by_cases h1 : q < t
    · exact ⟨q, by omega, fun g v => if_pos (by omega), by rw [if_pos h1]⟩
    · refine ⟨q + c, by omega, fun g v => ?_, by rw [if_neg h1]⟩
      unfold shf
      rw [if_neg (by omega), if_neg (by omega), show ((q + c : Nat) : Int) - c = q by omega]
  refine ⟨⟨hc, w.P⟩, fun p hp => ?_, fun p q hp hq e => ?_, fun l h1 h2 => ?_, w.2.2.2.2.1, w.m20, fun k hk => ?_, w.2.2.2.2.2.2.2.1, fun part h6 id => ?_, w.2.2.2.2.2.2.2.2.2⟩
  · replace hp : p < sN S + c := hp
    simp only [ins_I, ins_B, ins_X, ins_T, ins_D, ins_C]
    rcases at3 p hp with ⟨h1, e⟩ | ⟨h1, h2, e⟩ | ⟨r, h1, h2, h3, e⟩
    · rw [e, e, e, e, e]
      obtain ⟨g1, g2⟩ := w.2.1 p (by omega)
      exact ⟨by omega, g2.1, g2.2.1, g2.2.2.1, g2.2.2.2.1, fun part h6 => by rw [e]; exact g2.2.2.2.2 part h6⟩
    · rw [e, e, e, e, e]
      exact ⟨by omega, hb, Or.inr rfl, Or.inl rfl, Or.inl rfl, fun part h6 => by rw [e]; omega⟩
    · rw [e, e, e, e, e]
      obtain ⟨g1, g2⟩ := w.2.1 r h3
      exact ⟨by omega, g2.1, g2.2.1, g2.2.2.1, g2.2.2.2.1, fun part h6 => by rw [e]; exact g2.2.2.2.2 part h6⟩
  · replace hp : p < sN S + c := hp
    replace hq : q < sN S + c := hq
    simp only [ins_I] at e
    rcases at3 p hp with ⟨h1, e1⟩ | ⟨h1, h2, e1⟩ | ⟨r, h1, h2, h3, e1⟩ <;> rcases at3 q hq with ⟨k1, e2⟩ | ⟨k1, k2, e2⟩ | ⟨s, k1, k2, k3, e2⟩ <;> rw [e1, e2] at e
    · exact w.inj (by omega) (by omega) e
    · have := (w.id (p := p) (by omega)).2
      try dsimp only at e
      omega
    · have := w.inj (p := p) (q := s) (by omega) (by omega) e
      omega
    · have := (w.id (p := q) (by omega)).2
      try dsimp only at e
      omega
    · try dsimp only at e
      omega
    · have := (w.id (p := s) (by omega)).2
      try dsimp only at e
      omega
    · have := w.inj (p := r) (q := q) (by omega) (by omega) e
      omega
    · have := (w.id (p := r) (by omega)).2
      try dsimp only at e
      omega
    · have := w.inj (p := r) (q := s) (by omega) (by omega) e
      omega
  · rcases w.mk h1 h2 with z | ⟨q, q1, q2⟩
    · exact Or.inl z
    · obtain ⟨q', y1, y2, -⟩ := old q q1
      exact Or.inr ⟨q', y1, (congrFun ins_I _).trans ((y2 _ _).trans q2)⟩
  · rcases w.cut hk with z | ⟨p, q, z1, z2, z3, z4⟩
    · exact Or.inl z
    · obtain ⟨q', y1, y2, y3⟩ := old q z2
      obtain ⟨p', x1, x2, x3⟩ := old p (by omega)
      refine Or.inr ⟨p', q', ?_, y1, (congrFun ins_I _).trans ((x2 _ _).trans z3), (congrFun ins_I _).trans ((y2 _ _).trans z4)⟩
      rw [x3, y3]
      split <;> split <;> omega
  · rcases w.r h6 id with z | ⟨z1, z2⟩
    · exact Or.inl z
    · exact Or.inr ⟨by omega, z2⟩
theorem cP_insert (C : CW A M h) (hnid : aI A ≤ 49980) {after count beats : Int} (h32 : x_i32 count) (k : ∀ M' h', CW (dIns A after count beats).2 M' h' → Fr M h M' h' → Φ (xo (dIns A after count beats).1) M' h') : x_Cal zP_insert [xA 1, xI after, xI count, xI beats] M h Φ := by
  have hN := C.w.N
  have hi := C.i
  obtain ⟨m1, m2⟩ := h32
  unfold dIns at k
  have e0 : M 17 0 = sN (aS A) := C.R.n
  -- behind the place
  have tail : ∀ (t f c n : Nat), t ≤ sN (aS A) → c ≤ 12 → n ≤ 1736 → 1 ≤ count → (sN (aS A) : Int) + count ≤ 150 → 1 ≤ beats ∧ beats ≤ 12 → count ≤ 20 → (∀ M' h', CW (aKeep A (insS (aS A) t count.toNat (aI A) beats) (aI A + count)) M' h' → Fr M h M' h' → Φ (.inl (some (xI (aI A)))) M' h') → x_Cal zH_keep [xA 37, xA 17] M h (x_k x_Cal (12, 1736, 1, x_sc0) (wpG x_Cal (12, 1736, 1, x_sc0) bP_insert (fun _ _ _ _ _ _ _ => False) Φ f) Φ (iP_insert_71.drop 5) (x_up (x_ent [xA 1, xI after, xI count, xI beats] 0) 4 (xI t)) [] c n) := by
    intro t f c n ht hc hn1 g1 g2 g3 g4 k'
    refine chg_keep C (fun M1 h1 P1 R1 f1 f2 => ?_)
    obtain ⟨d, hd⟩ : ∃ d : Nat, count = d := ⟨count.toNat, by omega⟩
    subst hd
    have e6 : M1 1 6 = aI A := P1.2.2.1.1
    simp only [iP_insert_71, List.drop_succ_cons, List.drop_zero]
    simp only [wq_g3, wq_gc, wq_g, wq_g1, wq_g2, eP_insert, iP_insert_0, iP_insert_9, iP_insert_16, iP_insert_40, iP_insert_48, iP_insert_71, vP_insert, wps, x_cnd, reduceIte, Nat.reduceAdd, Nat.reduceSub, Nat.reduceEqDiff, Nat.reduceLeDiff, Nat.lt_irrefl, Nat.reduceLT, Int.cast_ofNat_Int, wq_c0, wq_c1, true_and, and_true, and_self, true_implies, forall_const, ne_eq, Decidable.not_not, not_true_eq_false, not_false_eq_true, List.map_nil, List.map_cons, List.sum_nil, List.sum_cons, List.length_cons, List.length_nil, Nat.le_refl, Nat.zero_le, reduceCtorEq, true_or, or_true, false_or, or_false, false_and, and_false, false_implies, Nat.zero_add, Nat.add_zero, Int.reduceEq, Int.reduceNe, Int.reduceLT, Int.reduceLE, Int.reduceNeg, Int.reduceToNat, Nat.not_lt_zero, Int.reduceAdd, fxs P1.F, e6, hc, hn1]
    refine cS_addBars P1.F.s17 (N := sN (aS A)) R1.n (by omega) ht (by omega) ?_
    have R2 := R1.ins (first := aI A) (beats := beats) (c := d) ht (by omega)
    have w2 := C.w.ins (c := d) hi.2.1 ht (by omega) g3
    simp only [wq_g3, wq_gc, wq_g, wq_g1, wq_g2, eP_insert, iP_insert_0, iP_insert_9, iP_insert_16, iP_insert_40, iP_insert_48, iP_insert_71, vP_insert, wps, x_cnd, reduceIte, Nat.reduceAdd, Nat.reduceSub, Nat.reduceEqDiff, Nat.reduceLeDiff, Nat.lt_irrefl, Nat.reduceLT, Int.cast_ofNat_Int, wq_c0, wq_c1, true_and, and_true, and_self, true_implies, forall_const, ne_eq, Decidable.not_not, not_true_eq_false, not_false_eq_true, List.map_nil, List.map_cons, List.sum_nil, List.sum_cons, List.length_cons, List.length_nil, Nat.le_refl, Nat.zero_le, reduceCtorEq, true_or, or_true, false_or, or_false, false_and, and_false, false_implies, Nat.zero_add, Nat.add_zero, Int.reduceEq, Int.reduceNe, Int.reduceLT, Int.reduceLE, Int.reduceNeg, Int.reduceToNat, Nat.not_lt_zero, Int.reduceAdd, fxs P1.F, e6, hc, hn1]
    simp (disch := omega) only [w32_of]
    refine chg_ref (A := aKeep A (insS (aS A) t d (aI A) beats) (aI A + d)) ?_ ?_ w2 (fun M3 C3 f3 => ?_)
    · refine PW.nid (P1.frame (M' := x_w (adM (mvM M1 17 t (t + d) ((sN (aS A) - t : Nat) : Int)) 17 t d (aI A) beats 1) 17 0 (sN (aS A) + d)) (fun a j ha => ?_)) (fun a j ha => ?_) ?_ (by omega) (by omega)
      · rw [w_ne (by omega), adm_o (by omega)]
      · unfold x_w
        rw [if_neg (by omega)]
      · rw [w_eq]
    · exact R2.frame (fun a j ha => by rw [w_ne (by omega)])
    · simp only [wq_g3, wq_gc, wq_g, wq_g1, wq_g2, eP_insert, iP_insert_0, iP_insert_9, iP_insert_16, iP_insert_40, iP_insert_48, iP_insert_71, vP_insert, wps, x_cnd, reduceIte, Nat.reduceAdd, Nat.reduceSub, Nat.reduceEqDiff, Nat.reduceLeDiff, Nat.lt_irrefl, Nat.reduceLT, Int.cast_ofNat_Int, wq_c0, wq_c1, true_and, and_true, and_self, true_implies, forall_const, ne_eq, Decidable.not_not, not_true_eq_false, not_false_eq_true, List.map_nil, List.map_cons, List.sum_nil, List.sum_cons, List.length_cons, List.length_nil, Nat.le_refl, Nat.zero_le, reduceCtorEq, true_or, or_true, false_or, or_false, false_and, and_false, false_implies, Nat.zero_add, Nat.add_zero, Int.reduceEq, Int.reduceNe, Int.reduceLT, Int.reduceLE, Int.reduceNeg, Int.reduceToNat, Nat.not_lt_zero, Int.reduceAdd, fxs P1.F]
      refine k' M3 h1 C3 ⟨fun a j z1 z2 => ?_, f2⟩
      rw [f3 a j (by omega), w_ne (by omega), w_ne (by omega), adm_o (by omega), f1 a j z2 (by omega)]
  refine x_met0 kP_insert (Nat.le_of_ble_eq_true rfl) ?_
  simp only [wq_g3, wq_gc, wq_g, wq_g1, wq_g2, eP_insert, iP_insert_0, iP_insert_9, iP_insert_16, iP_insert_40, iP_insert_48, iP_insert_71, vP_insert, wps, x_cnd, reduceIte, Nat.reduceAdd, Nat.reduceSub, Nat.reduceEqDiff, Nat.reduceLeDiff, Nat.lt_irrefl, Nat.reduceLT, Int.cast_ofNat_Int, wq_c0, wq_c1, true_and, and_true, and_self, true_implies, forall_const, ne_eq, Decidable.not_not, not_true_eq_false, not_false_eq_true, List.map_nil, List.map_cons, List.sum_nil, List.sum_cons, List.length_cons, List.length_nil, Nat.le_refl, Nat.zero_le, reduceCtorEq, true_or, or_true, false_or, or_false, false_and, and_false, false_implies, Nat.zero_add, Nat.add_zero, Int.reduceEq, Int.reduceNe, Int.reduceLT, Int.reduceLE, Int.reduceNeg, Int.reduceToNat, Nat.not_lt_zero, Int.reduceAdd, fxs C.F, e0]
  refine ⟨fun c0 => ?_, fun c0 => ?_⟩
  · refine cP_requirePlace C (fun c1 => ?_) (fun p p1 p2 p3 => ?_)
    · simp only [wq_g3, wq_gc, wq_g, wq_g1, wq_g2, eP_insert, iP_insert_0, iP_insert_9, iP_insert_16, iP_insert_40, iP_insert_48, iP_insert_71, vP_insert, wps, x_cnd, reduceIte, Nat.reduceAdd, Nat.reduceSub, Nat.reduceEqDiff, Nat.reduceLeDiff, Nat.lt_irrefl, Nat.reduceLT, Int.cast_ofNat_Int, wq_c0, wq_c1, true_and, and_true, and_self, true_implies, forall_const, ne_eq, Decidable.not_not, not_true_eq_false, not_false_eq_true, List.map_nil, List.map_cons, List.sum_nil, List.sum_cons, List.length_cons, List.length_nil, Nat.le_refl, Nat.zero_le, reduceCtorEq, true_or, or_true, false_or, or_false, false_and, and_false, false_implies, Nat.zero_add, Nat.add_zero, Int.reduceEq, Int.reduceNe, Int.reduceLT, Int.reduceLE, Int.reduceNeg, Int.reduceToNat, Nat.not_lt_zero, Int.reduceAdd]
      rw [if_pos ⟨c0, c1⟩] at k
      exact k M h C ⟨fun _ _ _ _ => rfl, Nat.le_refl _⟩
    rw [if_neg (by omega)] at k
    simp only [wq_g3, wq_gc, wq_g, wq_g1, wq_g2, eP_insert, iP_insert_0, iP_insert_9, iP_insert_16, iP_insert_40, iP_insert_48, iP_insert_71, vP_insert, wps, x_cnd, reduceIte, Nat.reduceAdd, Nat.reduceSub, Nat.reduceEqDiff, Nat.reduceLeDiff, Nat.lt_irrefl, Nat.reduceLT, Int.cast_ofNat_Int, wq_c0, wq_c1, true_and, and_true, and_self, true_implies, forall_const, ne_eq, Decidable.not_not, not_true_eq_false, not_false_eq_true, List.map_nil, List.map_cons, List.sum_nil, List.sum_cons, List.length_cons, List.length_nil, Nat.le_refl, Nat.zero_le, reduceCtorEq, true_or, or_true, false_or, or_false, false_and, and_false, false_implies, Nat.zero_add, Nat.add_zero, Int.reduceEq, Int.reduceNe, Int.reduceLT, Int.reduceLE, Int.reduceNeg, Int.reduceToNat, Nat.not_lt_zero, Int.reduceAdd, fxs C.F, e0]
    simp (disch := omega) only [w32_of]
    refine ⟨fun c1 => ?_, fun c1 => ⟨fun c2 => ?_, fun c2 => ⟨fun c3 => ?_, fun c3 => ⟨fun c4 => ⟨fun c5 => ?_, fun c5 => ?_⟩, fun c4 => ?_⟩⟩⟩⟩
    · rw [if_pos (by omega)] at k
      exact k M h C ⟨fun _ _ _ _ => rfl, Nat.le_refl _⟩
    · rw [if_pos (by omega)] at k
      exact k M h C ⟨fun _ _ _ _ => rfl, Nat.le_refl _⟩
    · rw [if_pos (by omega)] at k
      exact k M h C ⟨fun _ _ _ _ => rfl, Nat.le_refl _⟩
    · rw [w32_of (by omega)] at c5
      rw [if_neg (by omega), if_neg (by omega), if_neg c0, p2] at k
      exact tail (p + 1) 15 12 1736 (by omega) (by omega) (by omega) (by omega) (by omega) (by omega) (by omega) k
    · rw [w32_of (by omega)] at c5
      rw [if_neg (by omega), if_pos (by omega)] at k
      exact k M h C ⟨fun _ _ _ _ => rfl, Nat.le_refl _⟩
    · rw [if_pos (by omega)] at k
      exact k M h C ⟨fun _ _ _ _ => rfl, Nat.le_refl _⟩
  · rw [if_neg (fun q => q.1 c0)] at k
    refine ⟨fun c1 => ?_, fun c1 => ⟨fun c2 => ?_, fun c2 => ⟨fun c3 => ?_, fun c3 => ⟨fun c4 => ⟨fun c5 => ?_, fun c5 => ?_⟩, fun c4 => ?_⟩⟩⟩⟩
    · rw [if_pos (by omega)] at k
      exact k M h C ⟨fun _ _ _ _ => rfl, Nat.le_refl _⟩
    · rw [if_pos (by omega)] at k
      exact k M h C ⟨fun _ _ _ _ => rfl, Nat.le_refl _⟩
    · rw [if_pos (by omega)] at k
      exact k M h C ⟨fun _ _ _ _ => rfl, Nat.le_refl _⟩
    · rw [w32_of (by omega)] at c5
      rw [if_neg (by omega), if_neg (by omega), if_pos c0] at k
      exact tail 0 16 11 1730 (by omega) (by omega) (by omega) (by omega) (by omega) (by omega) (by omega) k
    · rw [w32_of (by omega)] at c5
      rw [if_neg (by omega), if_pos (by omega)] at k
      exact k M h C ⟨fun _ _ _ _ => rfl, Nat.le_refl _⟩
    · rw [if_pos (by omega)] at k
      exact k M h C ⟨fun _ _ _ _ => rfl, Nat.le_refl _⟩
end INS
