/-! the start: what the constructors leave -/
section START
variable {A : xAb} {M M' : xM} {h h' : xH} {Φ : xO → xM → xH → Prop}
set_option maxHeartbeats 1000000
theorem MI.mv (I : MI M h) (H : HE h h' 57) (f : ∀ a j, a < 57 → M' a j = M a j) : MI M' h' := by
  have L2 : ∀ a, a < 57 → hK h' a = hK h a ∧ hL h' a = hL h a := fun a ha => ⟨(H a ha).1, (H a ha).2.1⟩
  have P2 : ∀ i, hP h' 41 i = hP h 41 i := fun i => (H 41 (by decide)).2.2 i
  have e42 : M' 42 = M 42 := funext (fun j => f 42 j (by decide))
  obtain ⟨a, b, c, d, e⟩ := I
  refine ⟨?_, fun x h1 h2 => ?_, ?_, ?_, ?_⟩
  · rw [(L2 41 (by decide)).1]
    exact a
  · rw [(L2 x (by omega)).1, (L2 x (by omega)).2]
    exact b x h1 h2
  · simp only [P2]
    exact c
  · rw [e42]
    exact d
  · rw [f 41 5 (by decide), f 41 6 (by decide), f 41 8 (by decide), f 41 15 (by decide), f 41 16 (by decide), f 41 33 (by decide)]
    exact e
theorem St_Fx (P : PI M h) (I : MI M h) (k57 : hK h 57 = 22) (l57 : hL h 57 = 1) (n58 : 58 ≤ hn h) : Fx h := by
  obtain ⟨⟨a1, a2⟩, b, c, ⟨d1, d2, d3⟩, e, g, m, m1, m2⟩ := P
  obtain ⟨i1, i2, i3, i4, i5⟩ := I
  unfold scA at a1 a2
  simp only [Nat.reduceAdd] at a1 a2
  have w28 : hK h 28 = 20 ∧ hL h 28 = 150 ∧ hP h 16 2 = 28 := d1 28 (by decide) (by decide)
  have w29 : hK h 29 = 20 ∧ hL h 29 = 150 ∧ hP h 16 3 = 29 := d1 29 (by decide) (by decide)
  have w30 : hK h 30 = 20 ∧ hL h 30 = 150 ∧ hP h 16 4 = 30 := d1 30 (by decide) (by decide)
  have w31 : hK h 31 = 20 ∧ hL h 31 = 150 ∧ hP h 16 5 = 31 := d1 31 (by decide) (by decide)
  have w32' : hK h 32 = 20 ∧ hL h 32 = 150 ∧ hP h 16 6 = 32 := d1 32 (by decide) (by decide)
  have w33 : hK h 33 = 20 ∧ hL h 33 = 150 ∧ hP h 16 7 = 33 := d1 33 (by decide) (by decide)
  have w34 : hK h 34 = 20 ∧ hL h 34 = 150 ∧ hP h 16 8 = 34 := d1 34 (by decide) (by decide)
  have w35 : hK h 35 = 20 ∧ hL h 35 = 150 ∧ hP h 16 9 = 35 := d1 35 (by decide) (by decide)
  have v42 : hK h 42 = 20 ∧ hL h 42 = 2171 := i2 42 (by decide) (by decide)
  have v43 : hK h 43 = 20 ∧ hL h 43 = 2171 := i2 43 (by decide) (by decide)
  have v44 : hK h 44 = 20 ∧ hL h 44 = 21710 := i2 44 (by decide) (by decide)
  have v45 : hK h 45 = 22 ∧ hL h 45 = 6 := i2 45 (by decide) (by decide)
  have v46 : hK h 46 = 20 ∧ hL h 46 = 800 := i2 46 (by decide) (by decide)
  have v47 : hK h 47 = 20 ∧ hL h 47 = 150 := i2 47 (by decide) (by decide)
  have v48 : hK h 48 = 20 ∧ hL h 48 = 150 := i2 48 (by decide) (by decide)
  have v49 : hK h 49 = 20 ∧ hL h 49 = 150 := i2 49 (by decide) (by decide)
  have v50 : hK h 50 = 20 ∧ hL h 50 = 41 := i2 50 (by decide) (by decide)
  have v51 : hK h 51 = 20 ∧ hL h 51 = 150 := i2 51 (by decide) (by decide)
  have v52 : hK h 52 = 20 ∧ hL h 52 = 150 := i2 52 (by decide) (by decide)
  have v53 : hK h 53 = 20 ∧ hL h 53 = 151 := i2 53 (by decide) (by decide)
  have v54 : hK h 54 = 20 ∧ hL h 54 = 300 := i2 54 (by decide) (by decide)
  have v55 : hK h 55 = 20 ∧ hL h 55 = 41 := i2 55 (by decide) (by decide)
  have v56 : hK h 56 = 20 ∧ hL h 56 = 4000 := i2 56 (by decide) (by decide)
  refine ⟨?_, n58⟩
  unfold FxK
  simp only [a1, a2, b, c, d2, d3, e, i1, i3, k57, l57, w28, w29, w30, w31, w32', w33, w34, w35, v42, v43, v44, v45, v46, v47, v48, v49, v50, v51, v52, v53, v54, v55, v56, and_self]
/-- the start: nothing stands yet -/
def A0 : xAb := (S0, 0, 0, fun _ => S0, 0, fun _ => 0, 0, -1, [])
theorem S0_w : wfS S0 0 := S0_wf.1
theorem St_CW (P : PI M h) (F : Fx h) : CW A0 M h := by
  obtain ⟨-, -, -, -, -, g, ⟨m1, m2, m3, m4, m5, ⟨m6, m7, m8⟩, m9, m10, m11⟩, q1, q2⟩ := P
  have hm : mkN S0 = 0 := S0_wf.2.2.1.1
  have hp : pN S0 = 0 := by decide
  have n58 := F.n
  refine ⟨F, ⟨⟨F.s17, by decide, by omega⟩, ⟨?_, ?_, ?_⟩, fun p hp => absurd hp (Nat.not_lt_zero p), fun l h1 h2 => ?_, fun c h1 => ⟨?_, ?_⟩, fun part h6 => Or.inl ⟨rfl, ?_⟩⟩, S0_w, ⟨?_, fun p hp => absurd hp (Nat.not_lt_zero p), fun k hk => ?_, fun j hj => absurd hj (Nat.not_lt_zero j)⟩, ⟨⟨m10, by decide⟩, ⟨0, by decide, m9, fun j hj => absurd hj (Nat.not_lt_zero j)⟩, fun i hi => Or.inl (g i).2.2, fun i j _ _ _ hne => absurd (g i).2.2 hne⟩, ⟨m1, by decide, by decide⟩, ⟨⟨m4, by decide⟩, ⟨m2, m3⟩, fun i hi => absurd hi (Nat.not_lt_zero i), fun i => (g i).1⟩, ⟨m11, by decide, fun i hi => absurd hi (Nat.not_lt_zero i)⟩⟩
  · exact m6
  · exact m7
  · exact m8.trans hm.symm
  · exact q1 l (by omega) (by omega)
  · exact (q2 c (by omega) (by omega)).1
  · exact (q2 c (by omega) (by omega)).2
  · exact (g part).2.1
  · exact m5.trans hp.symm
  · have hk' : (k : Int) < pN S0 := hk
    omega
theorem St_MW (I : MI M h) (F : Fx h) : MW A0 M h := by
  obtain ⟨-, -, -, G, g1, g2, g3, g4, g5, g6⟩ := I
  exact ⟨F, G, S0_w, ⟨g1, by decide, fun i hi => absurd hi (Nat.not_lt_zero i)⟩, ⟨g2, by decide, by decide⟩, ⟨g3, by decide, fun i hi => absurd hi (Nat.not_lt_zero i), g4, g5⟩, ⟨g6, by decide, fun i hi => absurd hi (Nat.not_lt_zero i)⟩⟩
/-! frames -/
theorem CW.o57 (C : CW A M h) {v : Int} : CW A (x_w M 57 0 v) h := C.fm (fun a j ha => w_ne (by omega))
theorem MW.o57 (W : MW A M h) {v : Int} : MW A (x_w M 57 0 v) h := W.frame (fun a j ha => w_ne (by omega)) (fun j _ => w_ne (by decide))
theorem CW.FM (C : CW A M h) (f : FM M M') : CW A M' h := C.fm (fun a j ha => f a j (by omega))
theorem CW.k57 (C : CW A M h) : hK h 57 = 22 ∧ hL h 57 = 1 := by
  have F := C.F
  simp only [fxs F, and_self]
/-! the next id never grows by more than 20 at a call -/
end START
