/-! print, writePart, feed -/
def prS (S : xSr) (part : Int) : xSr := (sN S, sP S, sI S, sB S, sX S, sT S, sD S, sC S, sM S, sF S, sL S, up part 1 (sQ S), (fun k => if k = part then ntS S part else sR S k))
def dPrint (A : xAb) (part : Int) : xAn × xAb :=
  if 0 ≤ part ∧ part < sP (aS A) then (.inl (itN (aS A) part), aKeep A (prS (aS A) part) (aI A)) else (.inr 2, A)
section PRT
variable {A : xAb} {M : xM} {h : xH} {Φ : xO → xM → xH → Prop} {S : xSr} {nid : Int}
set_option maxHeartbeats 1000000
theorem ltk_some {p : Int} : ∀ {n : Nat}, ltk S p n ≠ 0 → ∃ q : Nat, q < n ∧ sit S q = ltk S p n ∧ sh S q = p
  | 0, h => absurd rfl h
  | n + 1, h => by
    have e : ltk S p (n + 1) = if sit S n ≠ 0 ∧ sh S n = p then sit S n else ltk S p n := rfl
    by_cases hc : sit S n ≠ 0 ∧ sh S n = p
    · rw [if_pos hc] at e
      exact ⟨n, by omega, e.symm, hc.2⟩
    · rw [if_neg hc] at e
      rw [e] at h ⊢
      obtain ⟨q, q1, q2⟩ := ltk_some h
      exact ⟨q, by omega, q2⟩
theorem lt_inj (w : wfS S nid) {p q : Int} (h : lt S p ≠ 0) (he : lt S p = lt S q) : p = q := by
  obtain ⟨a, a1, a2, a3⟩ := ltk_some (n := sN S) h
  obtain ⟨b, b1, b2, b3⟩ := ltk_some (n := sN S) (he ▸ h)
  have hr := sit_rng (S := S) (p := (a : Int))
  have hl : sit S a = lt S p := a2
  have hl2 : sit S b = lt S p := b2.trans he.symm
  obtain ⟨l, hl3⟩ : ∃ l : Nat, lt S p = l := ⟨(lt S p).toNat, by omega⟩
  have e1 := (sit_iff w (p := a) (l := l) a1 (by omega) (by omega)).mp (hl.trans hl3)
  have e2 := (sit_iff w (p := b) (l := l) b1 (by omega) (by omega)).mp (hl2.trans hl3)
  have := w.inj a1 b1 (e1.symm.trans e2)
  subst this
  exact a3.symm.trans b3
theorem wfS.prS {part : Nat} (w : wfS S nid) (h6 : part < 6) : wfS (prS S part) nid := by
  have key : ∀ id : Int, ntS S part id ≠ -1 → ∃ p : Nat, p < sN S ∧ pl S id = p ∧ sI S p = id ∧ ntS S part id = pk4 (lab S p) (lt S p) (sB S p) (sC S part p) := fun id hne => by
    unfold ntS at hne ⊢
    by_cases hc : pl S id ≠ -1 ∧ isP S (pl S id) = true
    · obtain ⟨p, p1, p2, p3⟩ := pl_some hc.1
      refine ⟨p, p1, p2, p3, ?_⟩
      rw [if_pos hc, p2]
      rfl
    · rw [if_neg hc] at hne
      exact absurd rfl hne
  refine ⟨w.1, w.2.1, w.2.2.1, w.2.2.2.1, w.2.2.2.2.1, w.m20, w.2.2.2.2.2.2.1, fun k hk => ?_, fun k hk id => ?_, fun k hk id id2 h1 h2 h3 h4 => ?_⟩
  · show up part 1 (sQ S) k = 0 ∨ up part 1 (sQ S) k = 1
    by_cases e : (k : Int) = part
    · rw [e, up_1]
      exact Or.inr rfl
    · rw [up_2 e]
      exact w.q hk
  · show (if (k : Int) = part then ntS S part else sR S k) id = -1 ∨ (_ ∧ ∃ l t b c : Int, (if (k : Int) = part then ntS S part else sR S k) id = pk4 l t b c ∧ _)
    by_cases e : (k : Int) = part
    · rw [if_pos e]
      by_cases hne : ntS S part id = -1
      · exact Or.inl hne
      · obtain ⟨p, p1, p2, p3, p4⟩ := key id hne
        have := w.id p1
        exact Or.inr ⟨by omega, _, _, _, _, p4, lab_rng p1 w, lt_rng, w.b p1, w.c p1 h6⟩
    · rw [if_neg e]
      exact w.r hk id
  · replace h1 : (if (k : Int) = part then ntS S part else sR S k) id ≠ -1 := h1
    replace h2 : (if (k : Int) = part then ntS S part else sR S k) id2 ≠ -1 := h2
    replace h3 : (if (k : Int) = part then ntS S part else sR S k) id / 64 % 64 ≠ 0 := h3
    replace h4 : (if (k : Int) = part then ntS S part else sR S k) id / 64 % 64 = (if (k : Int) = part then ntS S part else sR S k) id2 / 64 % 64 := h4
    by_cases e : (k : Int) = part
    · rw [if_pos e] at h1 h2 h3 h4
      obtain ⟨p, p1, p2, p3, p4⟩ := key id h1
      obtain ⟨q, q1, q2, q3, q4⟩ := key id2 h2
      have d1 := (pk4_d (l := lab S p) (t := lt S p) (b := sB S p) (c := sC S part p) lt_rng (w.b p1) (w.c p1 h6)).2.1
      have d2 := (pk4_d (l := lab S q) (t := lt S q) (b := sB S q) (c := sC S part q) lt_rng (w.b q1) (w.c q1 h6)).2.1
      rw [p4, d1] at h3 h4
      rw [q4, d2] at h4
      have := lt_inj w h3 h4
      have hpq : p = q := by omega
      rw [← p3, ← q3, hpq]
    · rw [if_neg e] at h1 h2 h3 h4
      exact w.u hk h1 h2 h3 h4
theorem VR.prS {part : Int} (V : VR S M) : VR (prS S part) M := V.cg rfl
theorem CW.same36 (C : CW A M h) {M' : xM} (e : ∀ a j, (a < 36 ∨ (36 < a ∧ a < 41) ∨ 42 ≤ a) → M' a j = M a j) : CW A M' h := by
  obtain ⟨c1, c2, c3, c4, c5, c6, ⟨p4, p5, p6, p7⟩, p8, p9, p10⟩ := C
  have n58 := c1.n
  refine ⟨c1, c2.frame (fun a j ha => e a j (by omega)), c3, c4.frame (fun a j ha => e a j (by omega)), c5.mv (Int.le_refl _) (by omega) (fun _ _ => ⟨rfl, rfl⟩) (Nat.le_refl _) (fun _ _ _ _ => rfl) (fun a j _ h2 => e a j (by omega)), ?_, ⟨?_, ?_, fun i hi => ?_, p7⟩, ?_, p9, fun i hi => ?_⟩
  · rw [e 1 6 (by omega)]
    exact c6
  · rw [e 2 3 (by omega)]
    exact p4
  · rw [e 2 1 (by omega), e 2 2 (by omega)]
    exact p5
  · rw [e 14 i (by omega)]
    exact p6 i hi
  · rw [e 39 1 (by omega)]
    exact p8
  · rw [e 40 i (by omega)]
    exact p10 i hi
end PRT
