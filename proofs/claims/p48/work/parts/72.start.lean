/-! the start: what the constructor leaves -/
section START
variable {A : xAb} {M M' : xM} {h h' : xH} {Φ : xO → xM → xH → Prop}
set_option maxHeartbeats 1000000
theorem St_Fx (P : PI M h) (k41 : hK h 41 = 20) (l41 : hL h 41 = 1) (n42 : 42 ≤ hn h) : Fx h := by
  obtain ⟨⟨a1, a2⟩, b, c, ⟨d1, d2, d3⟩, e, g, m, m1, m2⟩ := P
  unfold scA at a1 a2
  simp only [Nat.reduceAdd] at a1 a2
  have w28 : hK h 28 = 20 ∧ hL h 28 = 150 ∧ hP h 16 2 = 28 := d1 28 (by decide) (by decide)
  have w29 : hK h 29 = 20 ∧ hL h 29 = 150 ∧ hP h 16 3 = 29 := d1 29 (by decide) (by decide)
  have w30 : hK h 30 = 20 ∧ hL h 30 = 150 ∧ hP h 16 4 = 30 := d1 30 (by decide) (by decide)
  have w31 : hK h 31 = 20 ∧ hL h 31 = 150 ∧ hP h 16 5 = 31 := d1 31 (by decide) (by decide)
  have w32' : hK h 32 = 20 ∧ hL h 32 = 150 ∧ hP h 16 6 = 32 := d1 32 (by decide) (by decide)
  have w33 : hK h 33 = 20 ∧ hL h 33 = 150 ∧ hP h 16 7 = 33 := d1 33 (by decide) (by decide)
  have w34 : hK h 34 = 20 ∧ hL h 34 = 150 ∧ hP h 16 8 = 34 := d1 34 (by decide) (by decide)
  have w35 : hK h 35 = 20 ∧ hL h 35 = 150 ∧ hP h 16 9 = 35 := d1 35 (by decide) (by decide)
  refine ⟨?_, n42⟩
  unfold FxK
  simp only [a1, a2, b, c, d2, d3, e, k41, l41, w28, w29, w30, w31, w32', w33, w34, w35, and_self]
/-- the start: nothing stands yet -/
def A0 : xAb := (S0, 0, 0, fun _ => S0, 0, fun _ => 0, 0, -1, [])
theorem S0_w : wfS S0 0 := S0_wf.1
theorem St_CW (P : PI M h) (F : Fx h) : CW A0 M h := by
  obtain ⟨-, -, -, -, -, g, ⟨m1, m2, m3, m4, m5, ⟨m6, m7, m8⟩, m9, m10, m11⟩, q1, q2⟩ := P
  have hm : mkN S0 = 0 := S0_wf.2.2.1.1
  have hp : pN S0 = 0 := by decide
  have n42 := F.n
  refine ⟨F, ⟨⟨F.s17, by decide, by omega⟩, ⟨?_, ?_, ?_⟩, fun p hp => absurd hp (Nat.not_lt_zero p), fun l h1 h2 => ?_, fun c h1 => ⟨?_, ?_⟩, fun part h6 => Or.inl ⟨rfl, ?_⟩⟩, S0_w, ⟨?_, fun p hp => absurd hp (Nat.not_lt_zero p), fun k hk => ?_, fun j hj => absurd hj (Nat.not_lt_zero j)⟩, ⟨⟨m10, by decide⟩, ⟨0, by decide, m9, fun j hj => absurd hj (Nat.not_lt_zero j)⟩, fun i hi => Or.inl (g i).2.2, fun i j _ _ _ hne => absurd (g i).2.2 hne⟩, ⟨m1, by decide, by decide⟩, ⟨⟨m4, by decide⟩, ⟨m2, m3⟩, fun i hi => absurd hi (Nat.not_lt_zero i), fun i => (g i).1⟩, ⟨m11, by decide, fun i hi => absurd hi (Nat.not_lt_zero i)⟩⟩
  · exact m6
  · exact m7
  · exact m8.trans hm.symm
  · exact q1 l (by omega) (by omega)
  · exact (q2 c (by omega) (by omega)).1
  · exact (q2 c (by omega) (by omega)).2
  · exact (g part).2.1
  · exact m5.trans hp.symm
  · have hk' : (k : Int) < pN S0 := hk
    omega
end START
