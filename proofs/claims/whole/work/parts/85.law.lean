/-! the law's cases: what stands around them -/
def lE (b L : Nat) (f : Int → Int) : Nat × Nat × Nat × xSc := (zC zL_law, zS zL_law, x_rtc (zR zL_law), (b, (L : Int), f))
theorem lE_1 (b L : Nat) (f : Int → Int) : (lE b L f).1 = 601024 := rfl
theorem lE_2 (b L : Nat) (f : Int → Int) : (lE b L f).2.1 = 7293034 := rfl
theorem lE_3 (b L : Nat) (f : Int → Int) : (lE b L f).2.2.1 = 2 := rfl
theorem lE_4 (b L : Nat) (f : Int → Int) : (lE b L f).2.2.2.1 = b := rfl
theorem lE_5 (b L : Nat) (f : Int → Int) : (lE b L f).2.2.2.2.1 = (L : Int) := rfl
theorem lE_6 (b L : Nat) (f : Int → Int) (x : Int) : (lE b L f).2.2.2.2.2 x = f x := rfl
/-- how the law ends: with 1 -/
def LPh : xO → xM → xH → Prop := fun o _ _ => o = .inl (some (xI 1))
/-- the law's locals, i the place in the script -/
def LL (b : Nat) (ls : xL) (i : Int) : Prop := ls 0 = some (xE b) ∧ ls 1 = some (xA 1) ∧ ls 2 = some (xA 41) ∧ ls 3 = some (xA 57) ∧ ls 4 = some (xI i)
theorem LL.up {b : Nat} {ls : xL} {i : Int} (l : LL b ls i) {v : Int} {q : Nat} (hq : q = 5 ∨ q = 6 := by decide) : LL b (x_up ls q (xI v)) i := by
  obtain ⟨l0, l1, l2, l3, l4⟩ := l
  unfold LL
  rcases hq with rfl | rfl
  · simp [wq_up, l0, l1, l2, l3, l4, x_nl]
  · simp [wq_up, l0, l1, l2, l3, l4, x_nl]
/-- how a case goes on -/
def LKo (A : xAb) (b : Nat) (i : Int) (c n : Nat) (K : xJT) : Prop := ∀ (A' : xAb) (M' : xM) (h' : xH) (ls' : xL) (c' n' : Nat), CW A' M' h' → MW A' M' h' → LL b ls' i → (aI A' ≤ aI A + 20 ∨ aI A' ≤ 150) → c' ≤ c + 18 → n' ≤ n + 2492 → K 2570 ls' [] M' h' c' n'
theorem x_cmp_r (u : Int) : x_cmp u u = 0 := by
  unfold x_cmp
  rw [if_neg (by omega), if_pos rfl]
theorem y_v0 : (((0 : Fin 2) : Nat) : Int) = 0 := rfl
theorem y_v1 : (((1 : Fin 2) : Nat) : Int) = 1 := rfl
theorem xo_l (v : Int) : xo (.inl v) = .inl (some (xI v)) := rfl
theorem ma_l {v u : Int} {ex : Nat → Int} {M : xM} (h : MA ex (.inl v) u M) : u = v := h.1
theorem la_ma {ex : Nat → Int} {an : xAn} {j u : Int} {M1 M2 : xM} (la : LA ex an j M1) (ma : MA ex an u M2) (fm : FM M1 M2) : M2 41 0 = j ∧ (j = 0 → M2 57 0 = u) := by
  cases an with
  | inl v => exact ⟨ma.2.trans la.1.symm, fun _ => (fm 57 0 (Or.inr (by decide))).trans (la.2.trans ma.1.symm)⟩
  | inr e => exact ⟨ma.trans la.1.symm, fun h => absurd h la.2⟩
/-! the next id, call by call -/
theorem aI_d {A A' : xAb} (h : aI A' = aI A) : aI A' ≤ aI A + 20 := by omega
theorem dLet_1 (A : xAb) : (dLet A).1 = .inl (ro (aS A) (sN (aS A))) := rfl
theorem dNum_1 (A : xAb) : (dNum A).1 = .inl (cn (otN (aS A)) (sN (aS A))) := rfl
theorem aI_dEr {A : xAb} {b : Int} : aI (dEr A b).2 = aI A := by
  unfold dEr
  (repeat' split) <;> rfl
theorem aI_dCut {A : xAb} {f l : Int} : aI (dCut A f l).2 = aI A := by
  unfold dCut
  (repeat' split) <;> rfl
theorem aI_dOpen {A : xAb} {c : Int} : aI (dOpen A c).2 = aI A := by
  unfold dOpen
  (repeat' split) <;> rfl
theorem aI_dPut {A : xAb} {l b : Int} : aI (dPut A l b).2 = aI A := by
  unfold dPut
  (repeat' split) <;> rfl
theorem aI_dRem {A : xAb} {l : Int} : aI (dRem A l).2 = aI A := by
  unfold dRem
  (repeat' split) <;> rfl
theorem aI_dSet {A : xAb} {b w v : Int} : aI (dSet A b w v).2 = aI A := by
  unfold dSet
  (repeat' split) <;> rfl
theorem aI_dCon {A : xAb} {part b v : Int} : aI (dCon A part b v).2 = aI A := by
  unfold dCon
  (repeat' split) <;> rfl
theorem aI_dUndo {A : xAb} : aI (dUndo A ).2 = aI A := by
  unfold dUndo
  (repeat' split) <;> rfl
theorem aI_dNum {A : xAb} : aI (dNum A ).2 = aI A := rfl
theorem aI_dLet {A : xAb} : aI (dLet A ).2 = aI A := rfl
theorem aI_dPrint {A : xAb} {part : Int} : aI (dPrint A part).2 = aI A := by
  unfold dPrint
  (repeat' split) <;> rfl
theorem aI_dWrite {A : xAb} {part : Int} : aI (dWrite A part).2 = aI A := by
  unfold dWrite
  (repeat' split) <;> rfl
theorem aI_dFeed {A : xAb} {v1 v2 v3 v4 v5 : Int} : aI (dFeed A v1 v2 v3 v4 v5).2 = aI A := by
  unfold dFeed
  (repeat' split) <;> rfl
theorem aI_dIns {A : xAb} {after count beats : Int} : aI (dIns A after count beats).2 ≤ aI A + 20 := by
  unfold dIns
  split
  · show aI A ≤ aI A + 20
    omega
  · split
    · show aI A ≤ aI A + 20
      omega
    · split
      · show aI A ≤ aI A + 20
        omega
      · show aI A + count ≤ aI A + 20
        omega
theorem aI_dLoad {A : xAb} {len : Int} {M : xM} {h : xH} (C : CW (dLoad A len).2 M h) : aI (dLoad A len).2 ≤ aI A + 20 ∨ aI (dLoad A len).2 ≤ 150 := by
  have w := C.w.N
  revert w
  unfold dLoad
  split
  · intro _
    exact Or.inl (aI_d rfl)
  · split
    · intro _
      exact Or.inl (aI_d rfl)
    · rename_i R hR
      intro w
      have w' : sN (rS R) ≤ 150 := w
      refine Or.inr ?_
      show ((sN (rS R) : Nat) : Int) ≤ 150
      omega
