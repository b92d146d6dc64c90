/-! the constants' chars are below 128 -/
theorem x_ch_1 {i : Nat} {k : Int} (hi : i < 22) : 0 ≤ x_ch i k ∧ x_ch i k < 128 := by
  have key : ∀ i, i < 22 → ∀ b ∈ x_byt.getD i [], 0 ≤ b.toInt ∧ b.toInt < 128 := by decide +kernel
  unfold x_ch
  by_cases hk : k.toNat < (x_byt.getD i []).length
  · rw [List.getD_eq_getElem?_getD, List.getElem?_eq_getElem hk]
    exact key i hi _ (List.getElem_mem hk)
  · rw [List.getD_eq_getElem?_getD, List.getElem?_eq_none (by omega)]
    decide
