/-! the changes of ScoreParts -/
def PW (A : xAb) (M : xM) (h : xH) : Prop := Fx h ∧ HW (aH A) (aG A) (aI A) M h ∧ (M 1 6 = aI A ∧ 0 ≤ aI A ∧ aI A ≤ 50000) ∧ RW (aN A) (aB A) (aE A) (aP A) M h ∧ OW (aO A) M
def aKeep (A : xAb) (S : xSr) (nid : Int) : xAb := (S, nid, min (aH A + 1) 10, (fun j => if j = 0 then aS A else aG A (j - 1)), aN A, aB A, aE A, aP A, aO A)
/-- what a call leaves of the cells of others -/
def Fr (M : xM) (h : xH) (M' : xM) (h' : xH) : Prop := (∀ a j, 41 ≤ a → a < 42 → M' a j = M a j) ∧ hn h ≤ hn h'
theorem CW.pw {A : xAb} {M : xM} {h : xH} (C : CW A M h) : PW A M h := ⟨C.F, C.H, C.i, C.r, C.o⟩
theorem PW.F {A : xAb} {M : xM} {h : xH} (P : PW A M h) : Fx h := P.1
theorem PW.frame {A : xAb} {M M' : xM} {h : xH} (P : PW A M h) (e : ∀ a j, (a < 16 ∨ 36 < a) → M' a j = M a j) : PW A M' h := by
  obtain ⟨p1, p2, p3, ⟨p4, p5, p6, p7⟩, p8, p9, p10⟩ := P
  have n58 := p1.n
  refine ⟨p1, p2.mv (Int.le_refl _) (by omega) (fun _ _ => ⟨rfl, rfl⟩) (Nat.le_refl _) (fun _ _ _ _ => rfl) (fun a j _ h2 => e a j (by omega)), ?_, ⟨?_, ?_, fun i hi => ?_, p7⟩, ?_, p9, fun i hi => ?_⟩
  · rw [e 1 6 (by omega)]
    exact p3
  · rw [e 2 3 (by omega)]
    exact p4
  · rw [e 2 1 (by omega), e 2 2 (by omega)]
    exact p5
  · rw [e 14 i (by omega)]
    exact p6 i hi
  · rw [e 39 1 (by omega)]
    exact p8
  · rw [e 40 i (by omega)]
    exact p10 i hi
section CHG
variable {A : xAb} {M : xM} {h : xH} {Φ : xO → xM → xH → Prop}
set_option maxHeartbeats 1000000
theorem chg_keep (C : CW A M h) (k : ∀ M1 h1, PW (aKeep A (aS A) (aI A)) M1 h1 → repC (aS A) M1 h1 17 → (∀ a j, a < 42 → a ≠ 37 → M1 a j = M a j) → hn h ≤ hn h1 → Φ (.inl none) M1 h1) : x_Cal zH_keep [xA 37, xA 17] M h Φ := by
  refine cH_keep C.F C.R C.w C.H (fun M1 h1 F1 R1 H1 e1 e2 e3 => ?_)
  have hi := C.i
  obtain ⟨r1, r2, r3, r4⟩ := C.r
  obtain ⟨o1, o2, o3⟩ := C.o
  refine k M1 h1 ⟨F1, H1, ?_, ⟨?_, ?_, fun i hi => ?_, fun i => ?_⟩, ?_, o2, fun i hi => ?_⟩ R1 e1 e2
  · rw [e1 1 6 (by omega) (by omega)]
    exact hi
  · rw [e1 2 3 (by omega) (by omega)]
    exact r1
  · rw [e1 2 1 (by omega) (by omega), e1 2 2 (by omega) (by omega)]
    exact r2
  · rw [e1 14 i (by omega) (by omega)]
    exact r3 i hi
  · rw [e3 13 i (by omega) (by omega)]
    exact r4 i
  · rw [e1 39 1 (by omega) (by omega)]
    exact o1
  · rw [e1 40 i (by omega) (by omega)]
    exact o3 i hi
theorem chg_ref (P : PW A M h) (R : repC (aS A) M h 17) (w : wfS (aS A) (aI A)) (k : ∀ M', CW A M' h → (∀ a j, ¬ ((28 ≤ a ∧ a ≤ 35) ∨ (a = 16 ∧ j = 1)) → M' a j = M a j) → Φ (.inl none) M' h) : x_Cal zV_refresh [xA 16] M h Φ := by
  refine cV_refresh P.F R w (fun M' e V => ?_)
  obtain ⟨p1, p2, p3, p4, p5⟩ := P.frame (M' := M') (fun a j ha => e a j (by omega))
  exact k M' ⟨p1, R.frame (fun a j ha => e a j (by omega)), w, V, p2, p3, p4, p5⟩ e
theorem PW.nid {M' : xM} {S : xSr} {n : Int} (P : PW (aKeep A S (aI A)) M h) (e : ∀ a j, ¬ (a = 1 ∧ j = 6) → M' a j = M a j) (e6 : M' 1 6 = n) (h1 : aI A ≤ n) (h2 : n ≤ 50000) : PW (aKeep A S n) M' h := by
  obtain ⟨p1, p2, p3, ⟨p4, p5, p6, p7⟩, p8, p9, p10⟩ := P
  have n58 := p1.n
  have h0 : 0 ≤ aI A := p3.2.1
  refine ⟨p1, p2.mv h1 (by omega) (fun _ _ => ⟨rfl, rfl⟩) (Nat.le_refl _) (fun _ _ _ _ => rfl) (fun a j _ h2 => e a j (by omega)), ⟨e6, by show 0 ≤ n; omega, h2⟩, ⟨?_, ?_, fun i hi => ?_, p7⟩, ?_, p9, fun i hi => ?_⟩
  · rw [e 2 3 (by omega)]
    exact p4
  · rw [e 2 1 (by omega), e 2 2 (by omega)]
    exact p5
  · rw [e 14 i (by omega)]
    exact p6 i hi
  · rw [e 39 1 (by omega)]
    exact p8
  · rw [e 40 i (by omega)]
    exact p10 i hi
end CHG
