/-! what the law asks of bars, as numbers -/
section LAW7
variable {S : xSr} {nid : Int}
set_option maxHeartbeats 1000000
theorem l64 (a : Int64) : Int64.ofInt a.toInt = a := Int64.ofInt_toInt a
theorem or_bit64 (s t k : Int64) : (s ||| t) >>> k &&& 1 = (s >>> k &&& 1) ||| (t >>> k &&& 1) := by
  apply Int64.toBitVec_inj.mp
  simp only [Int64.toBitVec_and, Int64.toBitVec_or, Int64.toBitVec_shiftRight, BitVec.sshiftRight_eq', BitVec.sshiftRight_or_distrib]
  ext i hi
  simp only [BitVec.getElem_and, BitVec.getElem_or]
  cases (s.toBitVec.sshiftRight (k.toBitVec.smod 64).toNat)[i] <;> cases (t.toBitVec.sshiftRight (k.toBitVec.smod 64).toNat)[i] <;> cases (Int64.toBitVec 1)[i] <;> rfl
/-- the bit j of the long s -/
def bt (s j : Int) : Int := x_landL (x_shrL s j) 1
theorem bt_0 {j : Nat} (hj : j ≤ 40) : bt 0 j = 0 := by
  have : ∀ j : Nat, j < 41 → bt 0 j = 0 := by decide +kernel
  exact this j (by omega)
theorem bt_or {s : Int} {l j : Nat} (hl : l ≤ 40) (hj : j ≤ 40) (h : l ≠ j) : bt (x_orL s (x_shlL 1 l)) j = bt s j := by
  have key : ∀ l : Nat, l < 41 → ∀ j : Nat, j < 41 → l ≠ j → (Int64.ofInt 1 <<< ((Int32.ofInt (l : Int)).toInt64 &&& 63)) >>> ((Int32.ofInt (j : Int)).toInt64 &&& 63) &&& 1 = 0 := by decide +kernel
  have k1 := key l (by omega) j (by omega) h
  unfold bt x_landL x_shrL x_orL x_shlL
  rw [l64, l64, l64, l64, show Int64.ofInt 1 = 1 from rfl, or_bit64]
  rw [show Int64.ofInt 1 = 1 from rfl] at k1
  rw [k1, Int64.or_zero]
theorem bt_or0 {s j : Int} : bt (x_orL s 0) j = bt s j := by
  unfold bt x_landL x_shrL x_orL
  simp only [l64, show Int64.ofInt 0 = 0 from rfl, Int64.or_zero]
theorem cmp0 : x_cmp 0 0 = 0 := rfl
/-- a letter shown at a place -/
theorem lt_at (w : wfS S nid) {k : Nat} (hk : k < sN S) (h0 : lt S k ≠ 0) : (1 ≤ lt S k ∧ lt S k ≤ 40) ∧ isP S k = true ∧ sM S (lt S k) ≠ -1 ∧ shl S (lt S k) = k ∧ cts S (lt S k) = k ∧ ∃ q : Nat, q < sN S ∧ sM S (lt S k) = sI S q ∧ sh S q = k := by
  have hr := lt_rng (S := S) (n := sN S) (p := (k : Int))
  obtain ⟨q, q1, q2, q3⟩ := ltk_some h0
  have e0 : ltk S k (sN S) = lt S k := rfl
  rw [e0] at q2
  change 0 ≤ lt S k ∧ lt S k ≤ 40 at hr
  obtain ⟨l, hl⟩ : ∃ l : Nat, lt S k = l := ⟨(lt S k).toNat, by omega⟩
  rw [hl] at q2 h0 hr ⊢
  have q4 := (sit_iff w q1 (by omega) (by omega)).mp q2
  have hid := w.id q1
  have q5 : sM S l ≠ -1 := by omega
  have q6 : shl S l = k := by
    unfold shl
    rw [if_pos ⟨by omega, by omega, q5⟩, q4, pl_at w q1, Int.toNat_natCast, q3]
  have q7 : isP S k = true := by
    unfold sh at q3
    by_cases hb : pb S q < pN S
    · rw [if_pos hb] at q3
      obtain ⟨p, p1, p2, p3, p4⟩ := pp_some (pb_rng (S := S) (p := q)).1 hb
      have : p = k := by omega
      rw [← this]
      exact p2
    · rw [if_neg hb] at q3
      omega
  refine ⟨by omega, q7, q5, q6, ?_, q, q1, q4, q3⟩
  unfold cts
  rw [q6, hl, if_pos ⟨by omega, rfl⟩]
theorem lt_once (w : wfS S nid) {k p : Nat} (hk : k < sN S) (hp : p < sN S) (h0 : lt S k ≠ 0) (h1 : lt S p = lt S k) : p = k := by
  obtain ⟨-, -, -, h2, -⟩ := lt_at w hk h0
  obtain ⟨-, -, -, h3, -⟩ := lt_at w hp (by rw [h1]; exact h0)
  rw [h1, h2] at h3
  omega
theorem mark_at (w : wfS S nid) {k : Nat} (hk : k < sN S) (h0 : lt S k ≠ 0) : anMark S (lt S k) 1 = .inl (sI S k) ∧ anMark S (lt S k) 2 = .inl 1 ∧ anFrom S (lt S k) 0 = .inl (sI S k) := by
  obtain ⟨h1, h2, h3, h4, h5, -⟩ := lt_at w hk h0
  have h6 := pp_at hk h2
  have h7 := pb_lt hk h2
  have h8 := pb_rng (S := S) (p := k)
  refine ⟨?_, ?_, ?_⟩
  · unfold anMark
    rw [if_pos ⟨h1.1, h1.2, h3⟩, if_neg (by decide), if_pos rfl, h4]
    unfold idA
    rw [if_pos (by omega)]
  · unfold anMark
    rw [if_pos ⟨h1.1, h1.2, h3⟩, h5, b01_t (by omega)]
    rfl
  · unfold anFrom
    rw [h5, Int.toNat_natCast, if_pos ⟨by omega, by omega, by omega⟩, Int.add_zero, h6]
theorem lab_s (w : wfS S nid) {k : Nat} (hk : k + 1 < sN S) : lab S k < lab S (k + 1) := by
  unfold lab
  have h1 := sfx_rng (sX S) (k + 1)
  have h2 := sfx_s (sX S) (k + 1)
  have h3 := cn_s (P := isI (sX S)) (k + 1)
  have hN := w.N
  by_cases hx : sX S ((k + 1 : Nat) : Int) = 0
  · rw [if_pos hx] at h2
    rw [if_pos (by unfold isI; rw [hx]; rfl)] at h3
    omega
  · rw [if_neg hx] at h2
    rw [if_neg (by unfold isI; simp; exact hx)] at h3
    omega
theorem lab_lt (w : wfS S nid) {p : Nat} : ∀ {k : Nat}, k < sN S → p < k → lab S p < lab S k
  | 0, _, h => absurd h (Nat.not_lt_zero _)
  | k + 1, hk, h => by
    have h1 := lab_s w hk
    by_cases he : p = k
    · rw [he]; exact h1
    · have := lab_lt w (p := p) (k := k) (by omega) (by omega)
      omega
theorem lab_0 : 0 < lab S 0 := by
  unfold lab
  have h2 := sfx_s (sX S) 0
  have h3 := cn_s (P := isI (sX S)) 0
  have e : sfx (sX S) 0 = 0 := rfl
  rw [cn_z] at h3
  rw [e] at h2
  by_cases hx : sX S ((0 : Nat) : Int) = 0
  · rw [if_pos (by unfold isI; rw [hx]; rfl)] at h3
    have := sfx_rng (sX S) 1
    omega
  · rw [if_neg hx] at h2
    rw [if_neg (by unfold isI; simp; exact hx)] at h3
    omega
theorem labelled_at (w : wfS S nid) {k : Nat} (hk : k < sN S) : anLabelled S (lab S k) = .inl (sI S k) := by
  have e : labP S (lab S k) = k := fi_eq hk (by rw [Int.toNat_natCast]) (fun q hq he => by
    rw [Int.toNat_natCast] at he
    have := lab_lt w hk hq
    omega)
  unfold anLabelled
  rw [e, if_neg (by omega)]
theorem clk_at (w : wfS S nid) {i : Nat} (hi : (i : Int) < pN S) : ∀ j : Nat, j ≤ i + 1 → clk S i j = i ∨ ∃ (l : Int) (d : Nat), clk S i j = 1000 * l + d ∧ (1 ≤ l ∧ l ≤ 40) ∧ d ≤ i ∧ anFrom S l d = .inl (sI S (pp S i))
  | 0, _ => Or.inl rfl
  | j + 1, hj => by
    have e : clk S i (j + 1) = if lt S (pp S j) ≠ 0 then 1000 * lt S (pp S j) + (i - j) else clk S i j := rfl
    rw [e]
    by_cases h0 : lt S (pp S j) ≠ 0
    · rw [if_pos h0]
      obtain ⟨p, p1, p2, p3, p4⟩ := pp_some (S := S) (k := (j : Int)) (by omega) (by omega)
      rw [p4] at h0 ⊢
      obtain ⟨h1, h2, h3, h4, h5, -⟩ := lt_at w p1 h0
      refine Or.inr ⟨lt S p, i - j, by omega, h1, by omega, ?_⟩
      unfold anFrom
      rw [h5, Int.toNat_natCast, p3, show (j : Int) + ((i - j : Nat) : Int) = i by omega, if_pos ⟨by omega, by omega, hi⟩]
    · rw [if_neg h0]
      exact clk_at w hi j (by omega)
theorem called_at (w : wfS S nid) {k i : Nat} (hk : k < sN S) (hp : isP S k = true) (hi : pb S k = i) : ∃ v, anCalled S (sI S k) = .inl v ∧ (v = i ∨ ∃ (l : Int) (d : Nat), v = 1000 * l + d ∧ (1 ≤ l ∧ l ≤ 40) ∧ d ≤ i ∧ anFrom S l d = .inl (sI S k)) := by
  have e1 : pp S i = k := by rw [← hi]; exact pp_at hk hp
  have e2 : (i : Int) < pN S := by rw [← hi]; exact pb_lt hk hp
  have e4 : cov S k = 0 := isP_iff.mp hp
  refine ⟨clk S i (i + 1), ?_, ?_⟩
  · unfold anCalled anPl
    rw [pl_at w hk, if_neg (by omega), if_neg (by rw [e4]; decide), Int.toNat_natCast, hi, Int.toNat_natCast]
  · have := clk_at w e2 (i + 1) (Nat.le_refl _)
    rw [e1] at this
    exact this
end LAW7
