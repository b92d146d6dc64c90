/-! History: keep, bringBack, forget -/
theorem wfS.mono {S : xSr} {nid nid' : Int} (w : wfS S nid) (h : nid ≤ nid') : wfS S nid' := by
  refine ⟨w.1, fun p hp => ⟨⟨(w.id hp).1, by have := (w.id hp).2; omega⟩, (w.2.1 p hp).2⟩, w.2.2.1, w.2.2.2.1, w.2.2.2.2.1, w.2.2.2.2.2.1, w.2.2.2.2.2.2.1, w.2.2.2.2.2.2.2.1, fun part hp id => ?_, w.2.2.2.2.2.2.2.2.2⟩
  rcases w.r hp id with h1 | ⟨h1, h2⟩
  · exact Or.inl h1
  · exact Or.inr ⟨⟨h1.1, by omega⟩, h2⟩
def HW (hc : Nat) (H : Nat → xSr) (nid : Int) (M : xM) (h : xH) : Prop := (M 37 2 = hc ∧ hc ≤ 10) ∧ (∃ nx : Nat, nx < 10 ∧ M 37 1 = nx ∧ ∀ j : Nat, j < hc → hP h 38 ((nx + 9 - j) % 10 : Nat) ≠ 0 ∧ repC (H j) M h (hP h 38 ((nx + 9 - j) % 10 : Nat)) ∧ wfS (H j) nid) ∧
  (∀ i : Nat, i < 10 → hP h 38 i = 0 ∨ (scA h (hP h 38 i) ∧ 42 ≤ hP h 38 i ∧ hP h 38 i + 11 ≤ hn h)) ∧ ∀ i j : Nat, i < 10 → j < 10 → i ≠ j → hP h 38 i ≠ 0 → hP h 38 i ≠ hP h 38 j
theorem nx_a {n : Nat} (h : n < 10) (h9 : ¬ n = 9) : ¬ (n : Int) + 1 = 10 ∧ n + 1 < 10 ∧ (n + 1 + 9) % 10 = n := by omega
theorem fR_big {a : Nat} (ha : 42 ≤ a) (i : Int) : fR a i = 0 := by
  unfold fR
  have : ∀ l : List ((Nat × Int) × Nat), (∀ q ∈ l, q.1.1 < 42) → (l.lookup (a, i)).getD 0 = 0 := by
    intro l
    induction l with
    | nil => intro _; rfl
    | cons q l ih =>
      intro hq
      obtain ⟨⟨x, y⟩, v⟩ := q
      have := hq _ List.mem_cons_self
      rw [List.lookup_cons]
      have hne : ((a, i) == (x, y)) = false := by
        simp only [beq_eq_false_iff_ne, ne_eq, Prod.mk.injEq, not_and]
        intro h1
        exact absurd h1 (by simp at this; omega)
      rw [hne]
      exact ih (fun q hq2 => hq q (List.mem_cons_of_mem _ hq2))
  exact this _ (by decide)
theorem fR38 : ∀ n : Nat, fR 38 n = 0 := fun n => by
  unfold fR
  have : ∀ l : List ((Nat × Int) × Nat), (∀ q ∈ l, q.1.1 ≠ 38) → (l.lookup (38, (n : Int))).getD 0 = 0 := by
    intro l
    induction l with
    | nil => intro _; rfl
    | cons q l ih =>
      intro hq
      obtain ⟨⟨x, y⟩, v⟩ := q
      have := hq _ List.mem_cons_self
      rw [List.lookup_cons]
      have hne : (((38 : Nat), (n : Int)) == (x, y)) = false := by
        simp only [beq_eq_false_iff_ne, ne_eq, Prod.mk.injEq, not_and]
        intro h1
        exact absurd h1.symm this
      rw [hne]
      exact ih (fun q hq2 => hq q (List.mem_cons_of_mem _ hq2))
  exact this _ (by decide)
theorem fR27 (i : Int) (h0 : 0 ≤ i) (h6 : i < 6) : fR 27 i = 0 := by
  have : i = 0 ∨ i = 1 ∨ i = 2 ∨ i = 3 ∨ i = 4 ∨ i = 5 := by omega
  rcases this with rfl | rfl | rfl | rfl | rfl | rfl <;> decide
section HW
variable {M M' : xM} {h h' : xH} {Φ : xO → xM → xH → Prop} {S : xSr} {nid nid' : Int} {b hc : Nat} {H : Nat → xSr}
set_option maxHeartbeats 1000000
theorem HW.at (W : HW hc H nid M h) (h58 : 42 ≤ hn h) {j nx : Nat} (hj : j < hc) (hnx : nx < 10) (hm : M 37 1 = nx) : hP h 38 ((nx + 9 - j) % 10 : Nat) ≠ 0 ∧ repC (H j) M h (hP h 38 ((nx + 9 - j) % 10 : Nat)) ∧ wfS (H j) nid := by
  obtain ⟨-, ⟨n, n1, n2, n3⟩, -⟩ := W
  have : n = nx := by omega
  subst this
  exact n3 j hj
theorem HW.mv (W : HW hc H nid M h) (hnid : nid ≤ nid') (h58 : 42 ≤ hn h) (hk : ∀ a, a < hn h → hK h' a = hK h a ∧ hL h' a = hL h a) (hn' : hn h ≤ hn h') (hp : ∀ a i, a < hn h → (a = 38 ∨ 42 ≤ a) → hP h' a i = hP h a i) (hm : ∀ a j, a < hn h → (42 ≤ a ∨ a = 37) → M' a j = M a j) : HW hc H nid' M' h' := by
  obtain ⟨⟨w1, w2⟩, ⟨nx, n1, n2, n3⟩, w4, w5⟩ := W
  have e38 : ∀ i, hP h' 38 i = hP h 38 i := fun i => hp 38 i (by omega) (Or.inl rfl)
  refine ⟨⟨(hm 37 2 (by omega) (Or.inr rfl)).trans w1, w2⟩, ⟨nx, n1, (hm 37 1 (by omega) (Or.inr rfl)).trans n2, fun j hj => ?_⟩, fun i hi => ?_, fun i j hi hj hne h0 => ?_⟩
  · rw [e38]
    obtain ⟨q1, q2, q3⟩ := n3 j hj
    have q4 := w4 ((nx + 9 - j) % 10) (by omega)
    obtain ⟨q5, q6, q7⟩ := q4.resolve_left q1
    exact ⟨q1, q2.mv hk hn' (fun i => hp _ _ (by omega) (Or.inr q6)) (fun i => hp _ _ (by omega) (Or.inr (by omega))) (fun a j h1 h2 => hm a j (by omega) (Or.inl (by omega))) (fun r r1 r2 r3 => ⟨fun i => hp _ _ (by omega) (Or.inr r2), fun a j h1 h2 => hm a j (by omega) (Or.inl (by omega))⟩), q3.mono hnid⟩
  · rw [e38]
    rcases w4 i hi with q | ⟨q1, q2, q3⟩
    · exact Or.inl q
    · exact Or.inr ⟨q1.mv (fun a h1 h2 => hk a (by omega)) (fun i => hp _ _ (by omega) (Or.inr q2)), q2, by omega⟩
  · rw [e38, e38]
    rw [e38] at h0
    exact w5 i j hi hj hne h0
theorem repC.copy {o : Nat} (R : repC S M h o) (hN : sN S ≤ 150) (A : scA h b) (hb : 0 < b ∧ b + 11 ≤ hn h) (h1 : b + 11 ≤ o ∨ o + 11 ≤ b) (q1 : ∀ a i, hP h' a i = if a = b + 10 ∧ 0 ≤ i ∧ i < 6 then hP h (o + 10) i else hP h a i) (q2 : h'.2 = h.2) : repC S (cpM M b o) h' b := by
  obtain ⟨e1, e2, e3⟩ := h2_k q2
  have hk : ∀ a, hK h' a = hK h a ∧ hL h' a = hL h a := fun a => by rw [e1, e2]; exact ⟨rfl, rfl⟩
  have c0 : ∀ i : Nat, 1 ≤ i → i ≤ 9 → ∀ p : Int, 0 ≤ p → p < cpL i → cpM M b o (b + i) p = M (o + i) p := fun i i1 i2 p p1 p2 => by
    unfold cpM
    rw [if_neg (by omega), if_pos ⟨by omega, by omega, p1, by rw [show b + i - b = i by omega]; exact p2⟩, show b + i - b = i by omega]
  have c1 : ∀ p : Int, 0 ≤ p → p < 3 → cpM M b o b p = M o p := fun p p1 p2 => if_pos ⟨rfl, p1, p2⟩
  obtain ⟨⟨a1, a7, a8⟩, ⟨n1, n2, n3⟩, a3, a4, a5, a6⟩ := R
  have r150 : ∀ i : Nat, 1 ≤ i → i ≤ 5 → ∀ p : Nat, p < sN S → cpM M b o (b + i) p = M (o + i) p := fun i i1 i2 p hp => c0 i i1 (by omega) p (by omega) (by unfold cpL; rw [if_pos i2]; omega)
  refine ⟨⟨A.mv (fun a _ _ => hk a) (fun i => by rw [q1, if_neg (by omega)]), hb.1, by omega⟩, ⟨(c1 0 (by omega) (by omega)).trans n1, (c1 1 (by omega) (by omega)).trans n2, (c1 2 (by omega) (by omega)).trans n3⟩, fun p hp => ?_, fun l l1 l2 => ?_, fun c hc => ?_, fun part hp => ?_⟩
  · obtain ⟨g1, g2, g3, g4, g5, g6⟩ := a3 p hp
    refine ⟨(r150 1 (by omega) (by omega) p hp).trans g1, (r150 2 (by omega) (by omega) p hp).trans g2, (r150 3 (by omega) (by omega) p hp).trans g3, (r150 4 (by omega) (by omega) p hp).trans g4, (r150 5 (by omega) (by omega) p hp).trans g5, fun part hp6 => ?_⟩
    exact (c0 6 (by omega) (by omega) _ (by omega) (by show _ < (900 : Int); omega)).trans (g6 part hp6)
  · exact (c0 7 (by omega) (by omega) _ (by omega) (by show _ < (41 : Int); omega)).trans (a4 l l1 l2)
  · obtain ⟨g1, g2⟩ := a5 c hc
    exact ⟨(c0 8 (by omega) (by omega) _ (by omega) (by show _ < (10 : Int); omega)).trans g1, (c0 9 (by omega) (by omega) _ (by omega) (by show _ < (10 : Int); omega)).trans g2⟩
  · have e : hP h' (b + 10) part = hP h (o + 10) part := by rw [q1, if_pos (by omega)]
    rw [e]
    rcases a6 part hp with q | ⟨z1, z2⟩
    · exact Or.inl q
    · have hd := sc_nt A z2.1.1
      refine Or.inr ⟨z1, z2.mv (fun a _ _ => hk a) (fun i => ?_) (by omega) (fun a j z3 z4 => ?_)⟩
      · rw [q1, if_neg (by omega)]
      · unfold cpM
        rw [if_neg (by omega), if_neg (by omega)]
/-- the Score copied from stands as it was -/
theorem repC.copied {o : Nat} (R : repC S M h o) (A : scA h b) (h1 : b + 11 ≤ o ∨ o + 11 ≤ b) (q1 : ∀ a i, hP h' a i = if a = b + 10 ∧ 0 ≤ i ∧ i < 6 then hP h (o + 10) i else hP h a i) (q2 : h'.2 = h.2) : repC S (cpM M b o) h' o := by
  obtain ⟨e1, e2, e3⟩ := h2_k q2
  refine R.mv (fun a _ => by rw [e1, e2]; exact ⟨rfl, rfl⟩) (by omega) (fun i => by rw [q1, if_neg (by omega)]) (fun i => by rw [q1, if_neg (by omega)]) (fun a j z1 z2 => ?_) (fun r r1 r2 r3 => ⟨fun i => ?_, fun a j z1 z2 => ?_⟩)
  · unfold cpM
    rw [if_neg (by omega), if_neg (by omega)]
  · have hd := sc_nt A r1
    rw [q1, if_neg (by omega)]
  · have hd := sc_nt A r1
    unfold cpM
    rw [if_neg (by omega), if_neg (by omega)]
theorem repC.pn {part : Nat} (R : repC S M h b) (hp : part < 6) : hP h (b + 10) part = 0 ∨ hK h (hP h (b + 10) part) = 1 := by
  rcases R.pr hp with ⟨-, q⟩ | ⟨-, q⟩
  · exact Or.inl q
  · exact Or.inr (nts q.1.1).1.1.1.1
theorem cH_keep (F : Fx h) (R : repC S M h 17) (w : wfS S nid) (W : HW hc H nid M h) (k : ∀ M' h', Fx h' → repC S M' h' 17 → HW (min (hc + 1) 10) (fun j => if j = 0 then S else H (j - 1)) nid M' h' → (∀ a j, a < 42 → a ≠ 37 → M' a j = M a j) → hn h ≤ hn h' → (∀ a i, a < 42 → a ≠ 38 → hP h' a i = hP h a i) → Φ (.inl none) M' h') : x_Cal zH_keep [xA 37, xA 17] M h Φ := by
  have hN := w.N
  have h58 := F.n
  obtain ⟨⟨w1, w2⟩, ⟨nx, n1, n2, n3⟩, w4, w5⟩ := id W
  -- from the Score b that is to take the copy, on
  have tail : ∀ (M2 : xM) (h3 : xH) (b c n : Nat), c + 0 ≤ 11 → n + 0 ≤ 1730 → Fx h3 → scA h3 b → 42 ≤ b → b + 11 ≤ hn h3 → hP h3 38 nx = b → hn h ≤ hn h3 → (∀ a, a < hn h → hK h3 a = hK h a ∧ hL h3 a = hL h a) → (∀ (a : Nat) (i : Int), a < hn h → ¬ (a = 38 ∧ i = (nx : Int)) → ¬ (a = b + 10) → hP h3 a i = hP h a i) → (∀ a j, a < hn h → M2 a j = M a j) →
      (∀ r, ntA h r → r + 6 ≤ hn h → r + 5 < b ∨ b + 10 < r) → (∀ i : Nat, i < 10 → i ≠ nx → hP h 38 i ≠ 0 → hP h 38 i + 11 ≤ b ∨ b + 11 ≤ hP h 38 i) →
      ∀ (ls : xL) (f : Nat), ls 0 = some (xA 37) → x_Cal zS_copyFrom [xA b, xA 17] M2 h3 (x_k x_Cal (11, 1730, 0, x_sc0) (wpG x_Cal (11, 1730, 0, x_sc0) bH_keep (fun _ _ _ _ _ _ _ => False) Φ (f + 10)) Φ (iH_keep_32.drop 3) ls [] c n) := by
    intro M2 h3 b c n hc0 hn0 F3 A3 b58 b11 hb hnn hkk hpp hmm hdn hds ls f l0
    have R3 : repC S M2 h3 17 := R.mv hkk hnn (fun i => hpp 17 i (by omega) (by omega) (by omega)) (fun i => hpp 27 i (by omega) (by omega) (by omega)) (fun a j z1 z2 => hmm a j (by omega)) (fun r r1 r2 r3 => ⟨fun i => hpp r i (by omega) (by omega) (by have := hdn r r1 r3; omega), fun a j z1 z2 => hmm a j (by omega)⟩)
    refine cS_copyFrom A3 F3.s17 (by omega) (fun h4 q1 q2 => ?_) (fun i hi => R3.pn hi)
    obtain ⟨e1, e2, e3⟩ := h2_k q2
    have A4 : scA h4 b := A3.mv (fun a _ _ => by rw [e1, e2]; exact ⟨rfl, rfl⟩) (fun i => by rw [q1, if_neg (by omega)])
    have R4 : repC S (cpM M2 b 17) h4 b := R3.copy hN A3 (by omega) (by omega) q1 q2
    have R5 : repC S (cpM M2 b 17) h4 17 := R3.copied A3 (by omega) q1 q2
    have F4 : Fx h4 := F3.keep (fun a _ => by rw [e1, e2]; exact ⟨rfl, rfl⟩) (fun a i hf => by
      rw [q1]
      by_cases ha : a = b + 10
      · exact absurd (fR_big (by omega) i) hf
      · rw [if_neg (by omega)]) (by omega)
    have c37 : ∀ i, cpM M2 b 17 37 i = M 37 i := fun i => by
      unfold cpM
      rw [if_neg (by omega), if_neg (by omega)]
      exact hmm _ _ (by omega)
    have fin : ∀ nx' : Nat, nx' < 10 → (nx' + 9) % 10 = nx → Φ (.inl none) (x_w (x_w (cpM M2 b 17) 37 1 nx') 37 2 (min ((hc : Int) + 1) 10)) h4 := by
      intro nx' hnx' hnn'
      have fr : ∀ a j, a ≠ 37 → x_w (x_w (cpM M2 b 17) 37 1 nx') 37 2 (min ((hc : Int) + 1) 10) a j = cpM M2 b 17 a j := fun a j ha => by rw [w_ne ha, w_ne ha]
      have hb4 : hP h4 38 nx = b := by rw [q1, if_neg (by omega)]; exact hb
      have ho4 : ∀ i : Nat, i ≠ nx → hP h4 38 i = hP h 38 i := fun i hi => by
        rw [q1, if_neg (by omega)]
        exact hpp 38 i (by omega) (by omega) (by omega)
      refine k _ h4 F4 (R5.frame (fun a j ha => fr a j (by omega))) ⟨⟨?_, by omega⟩, ⟨nx', hnx', ?_, fun j hj => ?_⟩, fun i hi => ?_, fun i j hi hj hne h0 => ?_⟩ (fun a j h1 h2 => ?_) (by omega) (fun a i h1 h2 => ?_)
      · rw [w_eq]
        omega
      · rw [w_nj (by decide), w_eq]
      · by_cases hj0 : j = 0
        · subst hj0
          dsimp only
          rw [if_pos rfl, show (nx' + 9 - 0) % 10 = nx by omega, hb4]
          exact ⟨by omega, R4.frame (fun a j ha => fr a j (by omega)), w⟩
        · dsimp only
          rw [if_neg hj0]
          have es : (nx' + 9 - j) % 10 = (nx + 9 - (j - 1)) % 10 := by omega
          have hne : (nx' + 9 - j) % 10 ≠ nx := by omega
          rw [ho4 _ hne, es]
          obtain ⟨g1, g2, g3⟩ := n3 (j - 1) (by omega)
          obtain ⟨g4, g5, g6⟩ := (w4 ((nx + 9 - (j - 1)) % 10) (by omega)).resolve_left g1
          have g7 := hds ((nx + 9 - (j - 1)) % 10) (by omega) (by omega) g1
          refine ⟨g1, g2.mv (fun a ha => by rw [e1, e2]; exact hkk a ha) (by omega) (fun i => ?_) (fun i => ?_) (fun a i z1 z2 => ?_) (fun r r1 r2 r3 => ⟨fun i => ?_, fun a i z1 z2 => ?_⟩), g3⟩
          · rw [q1, if_neg (by omega)]
            exact hpp _ _ (by omega) (by omega) (by omega)
          · rw [q1, if_neg (by omega)]
            exact hpp _ _ (by omega) (by omega) (by omega)
          · rw [fr _ _ (by omega)]
            unfold cpM
            rw [if_neg (by omega), if_neg (by omega)]
            exact hmm _ _ (by omega)
          · have := hdn r r1 r3
            rw [q1, if_neg (by omega)]
            exact hpp _ _ (by omega) (by omega) (by omega)
          · have := hdn r r1 r3
            rw [fr _ _ (by omega)]
            unfold cpM
            rw [if_neg (by omega), if_neg (by omega)]
            exact hmm _ _ (by omega)
      · by_cases hin : i = nx
        · subst hin
          rw [hb4]
          exact Or.inr ⟨A4, b58, by omega⟩
        · rw [ho4 i hin]
          rcases w4 i hi with g | ⟨g1, g2, g3⟩
          · exact Or.inl g
          · have g0 : hP h 38 i ≠ 0 := by omega
            have g7 := hds i hi hin g0
            refine Or.inr ⟨g1.mv (fun a z1 z2 => by rw [e1, e2]; exact hkk a (by omega)) (fun x => ?_), g2, by omega⟩
            rw [q1, if_neg (by omega)]
            exact hpp _ _ (by omega) (by omega) (by omega)
      · by_cases hin : i = nx
        · subst hin
          rw [hb4, ho4 j (by omega)]
          by_cases hj0 : hP h 38 j = 0
          · omega
          · have := hds j hj (by omega) hj0
            omega
        · rw [ho4 i hin] at h0 ⊢
          by_cases hjn : j = nx
          · subst hjn
            rw [hb4]
            have := hds i hi hin h0
            omega
          · rw [ho4 j hjn]
            exact w5 i j hi hj hne h0
      · rw [fr a j h2]
        unfold cpM
        rw [if_neg (by omega), if_neg (by omega)]
        exact hmm _ _ (by omega)
      · rw [q1, if_neg (by omega)]
        exact hpp _ _ (by omega) (by omega) (by omega)
    by_cases h9 : nx = 9
    · have e9 : w32 ((nx : Int) + 1) = 10 := by rw [w32_of (by omega)]; omega
      have e8 : w32 ((hc : Int) + 1) = (hc : Int) + 1 := w32_of (by omega)
      simp only [iH_keep_32, List.drop_succ_cons, List.drop_zero]
      simp only [wq_g3, wq_gc, wq_g, wq_g1, wq_g2, eH_keep, iH_keep_0, iH_keep_32, iH_keep_53, iH_keep_59, vH_keep, wps, x_cnd, reduceIte, Nat.reduceAdd, Nat.reduceSub, Nat.reduceEqDiff, Nat.reduceLeDiff, Nat.lt_irrefl, Nat.reduceLT, Int.cast_ofNat_Int, wq_c0, wq_c1, true_and, and_true, and_self, true_implies, forall_const, ne_eq, Decidable.not_not, not_true_eq_false, not_false_eq_true, List.map_nil, List.map_cons, List.sum_nil, List.sum_cons, List.length_cons, List.length_nil, Nat.le_refl, Nat.zero_le, reduceCtorEq, true_or, or_true, false_or, or_false, false_and, and_false, false_implies, Nat.zero_add, Nat.add_zero, Int.reduceEq, Int.reduceNe, Int.reduceLT, Int.reduceLE, Int.reduceNeg, Int.reduceToNat, Nat.not_lt_zero, l0, fxs F4, c37, n2, w1, e9, e8, w_ne (M := cpM M2 b 17) (show (37 : Nat) ≠ 38 by decide)]
      rw [w_nj (by decide), c37, w1, e8]
      exact fin 0 (by omega) (by omega)
    · have e9 : w32 ((nx : Int) + 1) = (nx : Int) + 1 := w32_of (by omega)
      have e7 := (nx_a n1 h9).1
      have e8 : w32 ((hc : Int) + 1) = (hc : Int) + 1 := w32_of (by omega)
      simp only [iH_keep_32, List.drop_succ_cons, List.drop_zero]
      simp only [wq_g3, wq_gc, wq_g, wq_g1, wq_g2, eH_keep, iH_keep_0, iH_keep_32, iH_keep_53, iH_keep_59, vH_keep, wps, x_cnd, reduceIte, Nat.reduceAdd, Nat.reduceSub, Nat.reduceEqDiff, Nat.reduceLeDiff, Nat.lt_irrefl, Nat.reduceLT, Int.cast_ofNat_Int, wq_c0, wq_c1, true_and, and_true, and_self, true_implies, forall_const, ne_eq, Decidable.not_not, not_true_eq_false, not_false_eq_true, List.map_nil, List.map_cons, List.sum_nil, List.sum_cons, List.length_cons, List.length_nil, Nat.le_refl, Nat.zero_le, reduceCtorEq, true_or, or_true, false_or, or_false, false_and, and_false, false_implies, Nat.zero_add, Nat.add_zero, Int.reduceEq, Int.reduceNe, Int.reduceLT, Int.reduceLE, Int.reduceNeg, Int.reduceToNat, Nat.not_lt_zero, l0, fxs F4, c37, n2, w1, e9, e8, e7, w_ne (M := cpM M2 b 17) (show (37 : Nat) ≠ 38 by decide)]
      rw [w_nj (by decide), c37, w1, e8]
      exact fin (nx + 1) (nx_a n1 h9).2.1 (nx_a n1 h9).2.2
  refine x_met0 kH_keep (Nat.le_of_ble_eq_true rfl) ?_
  simp only [wq_g3, wq_gc, wq_g, wq_g1, wq_g2, eH_keep, iH_keep_0, iH_keep_32, iH_keep_53, iH_keep_59, vH_keep, wps, x_cnd, reduceIte, Nat.reduceAdd, Nat.reduceSub, Nat.reduceEqDiff, Nat.reduceLeDiff, Nat.lt_irrefl, Nat.reduceLT, Int.cast_ofNat_Int, wq_c0, wq_c1, true_and, and_true, and_self, true_implies, forall_const, ne_eq, Decidable.not_not, not_true_eq_false, not_false_eq_true, List.map_nil, List.map_cons, List.sum_nil, List.sum_cons, List.length_cons, List.length_nil, Nat.le_refl, Nat.zero_le, reduceCtorEq, true_or, or_true, false_or, or_false, false_and, and_false, false_implies, Nat.zero_add, Nat.add_zero, Int.reduceEq, Int.reduceNe, Int.reduceLT, Int.reduceLE, Int.reduceNeg, Int.reduceToNat, Nat.not_lt_zero, fxs F, n2]
  refine ⟨by omega, fun c0 => ?_, fun c0 => ?_⟩
  · obtain ⟨g1, g2, g3⟩ := (w4 nx n1).resolve_left c0
    refine ⟨(scs g1).1.1.1.1, ?_⟩
    exact tail M h _ 0 0 (by omega) (by omega) F g1 g2 g3 rfl (Nat.le_refl _) (fun a _ => ⟨rfl, rfl⟩) (fun a i _ _ _ => rfl) (fun a j _ => rfl) (fun r r1 r2 => sc_nt g1 r1) (fun i hi hne h0 => by
      obtain ⟨z1, z2, z3⟩ := (w4 i hi).resolve_left h0
      exact sc_sc g1 z1 (w5 nx i n1 hi (by omega) c0)) _ 8 rfl
  · have hq : hK (x_new h 4 0) (hn h) = 4 := by rw [hK_new, if_pos rfl]
    refine ⟨by decide, hq, by decide, cS_init (by rw [hn_new]) hq (fun M2 h2 z1 z2 z3 z4 z5 z6 z7 z8 z9 => ?_)⟩
    have hk2 : ∀ a, a < hn h → hK h2 a = hK h a ∧ hL h2 a = hL h a ∧ ∀ i, hP h2 a i = hP h a i := fun a ha => by
      obtain ⟨y1, y2, y3⟩ := z8 a ha
      refine ⟨by rw [y1, hK_new, if_neg (by omega)], by rw [y2, hL_new, if_neg (by omega)], fun i => by rw [y3, hP_new, if_neg (by omega)]⟩
    have hm2 : ∀ a j, a < hn h → M2 a j = M a j := fun a j ha => by rw [z1 a j ha, x_z_at, if_neg (by omega)]
    have F2 : Fx h2 := F.keep (fun a ha => ⟨(hk2 a (by omega)).1, (hk2 a (by omega)).2.1⟩) (fun a i hf => by
      by_cases ha : 42 ≤ a
      · exact absurd (fR_big ha i) hf
      · exact (hk2 a (by omega)).2.2 i) (by omega)
    have e37 : M2 37 1 = nx := (hm2 _ _ (by omega)).trans n2
    simp only [wq_g3, wq_gc, wq_g, wq_g1, wq_g2, eH_keep, iH_keep_0, iH_keep_32, iH_keep_53, iH_keep_59, vH_keep, wps, x_cnd, reduceIte, Nat.reduceAdd, Nat.reduceSub, Nat.reduceEqDiff, Nat.reduceLeDiff, Nat.lt_irrefl, Nat.reduceLT, Int.cast_ofNat_Int, wq_c0, wq_c1, true_and, and_true, and_self, true_implies, forall_const, ne_eq, Decidable.not_not, not_true_eq_false, not_false_eq_true, List.map_nil, List.map_cons, List.sum_nil, List.sum_cons, List.length_cons, List.length_nil, Nat.le_refl, Nat.zero_le, reduceCtorEq, true_or, or_true, false_or, or_false, false_and, and_false, false_implies, Nat.zero_add, Nat.add_zero, Int.reduceEq, Int.reduceNe, Int.reduceLT, Int.reduceLE, Int.reduceNeg, Int.reduceToNat, Nat.not_lt_zero, fxs F2, e37, z6]
    have hk4 : hK h2 (hn h) = 4 := (scs z6).1.1.1.1
    rw [hk4]
    refine ⟨Or.inr rfl, by omega, hk4, by decide, ?_⟩
    have hne : ∀ i : Nat, i < 10 → i ≠ nx → hP h2 38 i = hP h 38 i := fun i _ _ => (hk2 38 (by omega)).2.2 i
    have F3 : Fx (x_pw h2 38 nx (hn h)) := F2.keep (fun a ha => ⟨rfl, rfl⟩) (fun a i hf => by
      rw [hP_pw, if_neg]
      rintro ⟨rfl, rfl⟩
      exact hf (fR38 nx)) (Nat.le_refl _)
    refine tail M2 (x_pw h2 38 nx (hn h)) (hn h) 11 1730 (by omega) (by omega) F3 (z6.mv (fun a _ _ => ⟨rfl, rfl⟩) (fun i => ?_)) (by omega) (by rw [hn_pw]; omega) ?_ (by rw [hn_pw]; omega) (fun a ha => ⟨(hk2 a ha).1, (hk2 a ha).2.1⟩) (fun a i ha h1 h2' => ?_) hm2 (fun r r1 r2 => Or.inl (by omega)) (fun i hi hne2 h0 => ?_) _ 8 rfl
    · rw [hP_pw, if_neg (by omega)]
    · rw [hP_pw, if_pos ⟨rfl, rfl⟩]
    · rw [hP_pw, if_neg h1]
      exact (hk2 a ha).2.2 i
    · obtain ⟨y1, y2, y3⟩ := (w4 i hi).resolve_left h0
      omega
theorem cH_forget (F : Fx h) (k : Φ (.inl none) (x_w M 37 2 0) h) : x_Cal zH_forget [xA 37] M h Φ := by
  refine x_met0 kH_forget (Nat.le_of_ble_eq_true rfl) ?_
  simp only [wq_g3, wq_gc, wq_g, wq_g1, wq_g2, eH_forget, iH_forget_0, vH_forget, wps, x_cnd, reduceIte, Nat.reduceAdd, Nat.reduceSub, Nat.reduceEqDiff, Nat.reduceLeDiff, Nat.lt_irrefl, Nat.reduceLT, Int.cast_ofNat_Int, wq_c0, wq_c1, true_and, and_true, and_self, true_implies, forall_const, ne_eq, Decidable.not_not, not_true_eq_false, not_false_eq_true, List.map_nil, List.map_cons, List.sum_nil, List.sum_cons, List.length_cons, List.length_nil, Nat.le_refl, Nat.zero_le, reduceCtorEq, true_or, or_true, false_or, or_false, false_and, and_false, false_implies, Nat.zero_add, Nat.add_zero, Int.reduceEq, Int.reduceNe, Int.reduceLT, Int.reduceLE, Int.reduceNeg, Int.reduceToNat, Nat.not_lt_zero, fxs F]
  exact k
theorem cH_bringBack (F : Fx h) (R : repC S M h 17) (w : wfS S nid) (W : HW hc H nid M h) (hc0 : 0 < hc) (k : ∀ M' h', Fx h' → repC (H 0) M' h' 17 → HW (hc - 1) (fun j => H (j + 1)) nid M' h' → (∀ a j, a < 42 → a ≠ 37 → (a < 17 ∨ 26 < a) → M' a j = M a j) → hn h = hn h' → (∀ a i, a < 42 → a ≠ 27 → hP h' a i = hP h a i) → Φ (.inl none) M' h') : x_Cal zH_bringBack [xA 37, xA 17] M h Φ := by
  have h58 := F.n
  obtain ⟨⟨w1, w2⟩, ⟨nx, n1, n2, n3⟩, w4, w5⟩ := id W
  obtain ⟨g1, g2, g3⟩ := n3 0 hc0
  have hN := g3.N
  have main : ∀ px : Nat, px < 10 → px = (nx + 9) % 10 → ∀ f : Nat, x_Cal zS_copyFrom [xA 17, xA (hP h 38 px)] (x_w (x_w M 37 1 px) 37 2 ((hc : Int) - 1)) h (x_k x_Cal (0, 0, 0, x_sc0) (wpG x_Cal (0, 0, 0, x_sc0) bH_bringBack (fun _ _ _ _ _ _ _ => False) Φ (f + 5)) Φ [(.nop, [51], [])] (x_up (x_ent [xA 37, xA 17] 0) 2 (Sum.inr (Sum.inr (Sum.inl (hP h 38 px))))) [] 0 0) := by
    intro px p1 p2 f
    rw [show (nx + 9 - 0) % 10 = px by omega] at g1 g2
    obtain ⟨y1, y2, y3⟩ := (w4 px p1).resolve_left g1
    have fr : ∀ a j, a ≠ 37 → x_w (x_w M 37 1 px) 37 2 ((hc : Int) - 1) a j = M a j := fun a j ha => by rw [w_ne ha, w_ne ha]
    have G2 : repC (H 0) (x_w (x_w M 37 1 px) 37 2 ((hc : Int) - 1)) h (hP h 38 px) := g2.frame (fun a j ha => fr a j (by omega))
    refine cS_copyFrom F.s17 y1 (by omega) (fun h4 q1 q2 => ?_) (fun i hi => G2.pn hi)
    obtain ⟨e1, e2, e3⟩ := h2_k q2
    have C := G2.copy hN F.s17 (by omega) (by omega) q1 q2
    simp only [wq_g3, wq_gc, wq_g, wq_g1, wq_g2, eH_bringBack, iH_bringBack_0, iH_bringBack_13, iH_bringBack_19, iH_bringBack_51, vH_bringBack, wps, x_cnd, reduceIte, Nat.reduceAdd, Nat.reduceSub, Nat.reduceEqDiff, Nat.reduceLeDiff, Nat.lt_irrefl, Nat.reduceLT, Int.cast_ofNat_Int, wq_c0, wq_c1, true_and, and_true, and_self, true_implies, forall_const, ne_eq, Decidable.not_not, not_true_eq_false, not_false_eq_true, List.map_nil, List.map_cons, List.sum_nil, List.sum_cons, List.length_cons, List.length_nil, Nat.le_refl, Nat.zero_le, reduceCtorEq, true_or, or_true, false_or, or_false, false_and, and_false, false_implies, Nat.zero_add, Nat.add_zero, Int.reduceEq, Int.reduceNe, Int.reduceLT, Int.reduceLE, Int.reduceNeg, Int.reduceToNat, Nat.not_lt_zero]
    have F4 : Fx h4 := F.keep (fun a _ => by rw [e1, e2]; exact ⟨rfl, rfl⟩) (fun a i hf => by
      rw [q1]
      split
      · rename_i hcc
        rw [hcc.1] at hf
        exact absurd (fR27 i hcc.2.1 hcc.2.2) hf
      · rfl) (by omega)
    have hcp : ∀ a j, a < 17 ∨ 26 < a → cpM (x_w (x_w M 37 1 px) 37 2 ((hc : Int) - 1)) 17 (hP h 38 px) a j = x_w (x_w M 37 1 px) 37 2 ((hc : Int) - 1) a j := fun a j ha => by
      unfold cpM
      rw [if_neg (by omega), if_neg (by omega)]
    have e38 : ∀ i, hP h4 38 i = hP h 38 i := fun i => by rw [q1, if_neg (by omega)]
    refine k _ h4 F4 C ⟨⟨?_, by omega⟩, ⟨px, p1, ?_, fun j hj => ?_⟩, fun i hi => ?_, fun i j hi hj hne h0 => ?_⟩ (fun a j h1 h2 h3 => ?_) (by omega) (fun a i h1 h2 => ?_)
    · rw [hcp _ _ (by omega), w_eq]
      omega
    · rw [hcp _ _ (by omega), w_nj (by decide), w_eq]
    · rw [e38, show (px + 9 - j) % 10 = (nx + 9 - (j + 1)) % 10 by omega]
      obtain ⟨x1, x2, x3⟩ := n3 (j + 1) (by omega)
      obtain ⟨x4, x5, x6⟩ := (w4 ((nx + 9 - (j + 1)) % 10) (by omega)).resolve_left x1
      refine ⟨x1, x2.mv (fun a _ => by rw [e1, e2]; exact ⟨rfl, rfl⟩) (by omega) (fun i => by rw [q1, if_neg (by omega)]) (fun i => by rw [q1, if_neg (by omega)]) (fun a i z1 z2 => by rw [hcp _ _ (by omega), fr _ _ (by omega)]) (fun r r1 r2 r3 => ⟨fun i => by rw [q1, if_neg (by omega)], fun a i z1 z2 => by rw [hcp _ _ (by omega), fr _ _ (by omega)]⟩), x3⟩
    · rw [e38]
      rcases w4 i hi with x | ⟨x1, x2, x3⟩
      · exact Or.inl x
      · exact Or.inr ⟨x1.mv (fun a _ _ => by rw [e1, e2]; exact ⟨rfl, rfl⟩) (fun i => by rw [q1, if_neg (by omega)]), x2, by omega⟩
    · rw [e38, e38]
      rw [e38] at h0
      exact w5 i j hi hj hne h0
    · rw [hcp _ _ h3, fr _ _ h2]
    · rw [q1, if_neg (by omega)]
  refine x_met0 kH_bringBack (Nat.le_of_ble_eq_true rfl) ?_
  have hc1 : w32 ((hc : Int) - 1) = (hc : Int) - 1 := w32_of (by omega)
  by_cases h0 : nx = 0
  · have e0 : (nx : Int) = 0 := by omega
    simp only [wq_g3, wq_gc, wq_g, wq_g1, wq_g2, eH_bringBack, iH_bringBack_0, iH_bringBack_13, iH_bringBack_19, iH_bringBack_51, vH_bringBack, wps, x_cnd, reduceIte, Nat.reduceAdd, Nat.reduceSub, Nat.reduceEqDiff, Nat.reduceLeDiff, Nat.lt_irrefl, Nat.reduceLT, Int.cast_ofNat_Int, wq_c0, wq_c1, true_and, and_true, and_self, true_implies, forall_const, ne_eq, Decidable.not_not, not_true_eq_false, not_false_eq_true, List.map_nil, List.map_cons, List.sum_nil, List.sum_cons, List.length_cons, List.length_nil, Nat.le_refl, Nat.zero_le, reduceCtorEq, true_or, or_true, false_or, or_false, false_and, and_false, false_implies, Nat.zero_add, Nat.add_zero, Int.reduceEq, Int.reduceNe, Int.reduceLT, Int.reduceLE, Int.reduceNeg, Int.reduceToNat, Nat.not_lt_zero, fxs F, n2, e0, w_ne (M := M) (show (37 : Nat) ≠ 38 by decide), w_eq]
    rw [w_nj (M := M) (show (2 : Int) ≠ 1 by decide), w1, hc1, w_nj (M := x_w M 37 1 9) (show (1 : Int) ≠ 2 by decide), w_eq]
    have hm := main 9 (by omega) (by omega) 13
    simp only [Nat.reduceAdd, Int.cast_ofNat_Int] at hm
    refine ⟨by omega, fun c0 => ?_, fun c0 => hm⟩
    rw [show (nx + 9 - 0) % 10 = 9 by omega] at g1
    exact absurd c0 g1
  · obtain ⟨px, hpx⟩ : ∃ px : Nat, nx = px + 1 := ⟨nx - 1, by omega⟩
    have e0 : ¬ (nx : Int) = 0 := by omega
    have e1 : w32 ((nx : Int) - 1) = px := by rw [w32_of (by omega)]; omega
    simp only [wq_g3, wq_gc, wq_g, wq_g1, wq_g2, eH_bringBack, iH_bringBack_0, iH_bringBack_13, iH_bringBack_19, iH_bringBack_51, vH_bringBack, wps, x_cnd, reduceIte, Nat.reduceAdd, Nat.reduceSub, Nat.reduceEqDiff, Nat.reduceLeDiff, Nat.lt_irrefl, Nat.reduceLT, Int.cast_ofNat_Int, wq_c0, wq_c1, true_and, and_true, and_self, true_implies, forall_const, ne_eq, Decidable.not_not, not_true_eq_false, not_false_eq_true, List.map_nil, List.map_cons, List.sum_nil, List.sum_cons, List.length_cons, List.length_nil, Nat.le_refl, Nat.zero_le, reduceCtorEq, true_or, or_true, false_or, or_false, false_and, and_false, false_implies, Nat.zero_add, Nat.add_zero, Int.reduceEq, Int.reduceNe, Int.reduceLT, Int.reduceLE, Int.reduceNeg, Int.reduceToNat, Nat.not_lt_zero, fxs F, n2, e0, e1, w_ne (M := M) (show (37 : Nat) ≠ 38 by decide), w_eq]
    rw [w_nj (M := M) (show (2 : Int) ≠ 1 by decide), w1, hc1, w_nj (M := x_w M 37 1 px) (show (1 : Int) ≠ 2 by decide), w_eq]
    have hm := main px (by omega) (by omega) 12
    simp only [Nat.reduceAdd] at hm
    refine ⟨by omega, fun c0 => ?_, fun c0 => hm⟩
    rw [show (nx + 9 - 0) % 10 = px by omega] at g1
    exact absurd c0 g1
end HW
