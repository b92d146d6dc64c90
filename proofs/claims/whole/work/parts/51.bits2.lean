/-! more bits: fields of a word -/
theorem fld_dec (a s w : Nat) : a = 2 ^ s * (2 ^ w * (a / 2 ^ s / 2 ^ w) + a / 2 ^ s % 2 ^ w) + a % 2 ^ s := by
  rw [Nat.div_add_mod, Nat.div_add_mod]
theorem or_fld {a s w v : Nat} (h : a / 2 ^ s % 2 ^ w = 0) (hv : v < 2 ^ w) : a ||| 2 ^ s * v = a + 2 ^ s * v := by
  have e := fld_dec a s w
  rw [h, Nat.add_zero] at e
  have hL : a % 2 ^ s < 2 ^ s := Nat.mod_lt _ (Nat.two_pow_pos s)
  generalize a / 2 ^ s / 2 ^ w = H at e
  generalize a % 2 ^ s = L at e hL
  have e2 : a + 2 ^ s * v = 2 ^ s * (2 ^ w * H + v) + L := by rw [e, Nat.mul_add (2 ^ s) (2 ^ w * H) v]; omega
  rw [e2, e]
  refine Nat.eq_of_testBit_eq (fun i => ?_)
  rw [Nat.testBit_or, Nat.testBit_two_pow_mul_add _ hL, Nat.testBit_two_pow_mul_add _ hL, Nat.mul_comm (2 ^ s) v, Nat.testBit_mul_two_pow]
  by_cases hi : i < s
  · rw [if_pos hi, if_pos hi, decide_eq_false (by omega)]
    simp
  · rw [if_neg hi, if_neg hi, decide_eq_true (by omega), Nat.testBit_two_pow_mul_add _ hv]
    have e3 := Nat.testBit_two_pow_mul_add H (i := w) (b := 0) (Nat.two_pow_pos w) (i - s)
    rw [Nat.add_zero] at e3
    rw [e3]
    by_cases hw : i - s < w
    · rw [if_pos hw, if_pos hw]
      simp
    · rw [if_neg hw, if_neg hw, Nat.testBit_lt_two_pow (Nat.lt_of_lt_of_le hv (Nat.pow_le_pow_right (by decide) (by omega)))]
      simp
theorem x_and_not {a m r : Nat} (ha : a < 2147483648) (hm : m < 2147483648) (hr : ∀ i, r.testBit i = (a.testBit i && !m.testBit i)) : x_and a (x_xor m (-1)) = (r : Int) := by
  have hra : r ≤ a := by
    have e : r = a &&& r := Nat.eq_of_testBit_eq (fun i => by
      rw [Nat.testBit_and, hr]
      cases a.testBit i <;> simp)
    rw [e]
    exact Nat.and_le_left
  have hx : Int32.ofInt (x_xor m (-1)) = ⟨⟨~~~(Int32.ofInt (m : Int)).toBitVec⟩⟩ := by
    unfold x_xor
    rw [Int32.ofInt_toInt]
    show (⟨⟨(Int32.ofInt (m : Int)).toBitVec ^^^ BitVec.ofInt 32 (-1)⟩⟩ : Int32) = _
    rw [show BitVec.ofInt 32 (-1) = BitVec.allOnes 32 by decide, BitVec.xor_allOnes]
  unfold x_and
  rw [hx]
  show ((Int32.ofInt (a : Int)).toBitVec &&& ~~~(Int32.ofInt (m : Int)).toBitVec : BitVec 32).toInt = _
  refine i32_ofbv (Nat.eq_of_testBit_eq (fun i => ?_)) (by omega)
  rw [BitVec.toNat_and, Nat.testBit_and, bv_nat ha, BitVec.testBit_toNat, BitVec.getLsbD_not, ← BitVec.testBit_toNat, bv_nat hm, hr]
  by_cases hi : i < 32
  · rw [decide_eq_true hi]
    simp
  · rw [Nat.testBit_lt_two_pow (x := a) (by
      have h3 := Nat.pow_le_pow_right (n := 2) (by decide) (show 31 ≤ i by omega)
      omega)]
    simp
/-- a field is cleared -/
theorem clr_fld {a s w : Nat} (ha : a < 2147483648) (hm : (2 ^ w - 1) * 2 ^ s < 2147483648) : x_and a (x_xor (((2 ^ w - 1) * 2 ^ s : Nat) : Int) (-1)) = ((a - 2 ^ s * (a / 2 ^ s % 2 ^ w) : Nat) : Int) := by
  refine x_and_not ha hm (fun i => ?_)
  have e := fld_dec a s w
  have hL : a % 2 ^ s < 2 ^ s := Nat.mod_lt _ (Nat.two_pow_pos s)
  have hv : a / 2 ^ s % 2 ^ w < 2 ^ w := Nat.mod_lt _ (Nat.two_pow_pos w)
  generalize a / 2 ^ s / 2 ^ w = H at e
  generalize a % 2 ^ s = L at e hL
  generalize a / 2 ^ s % 2 ^ w = v at e hv
  have e2 : a - 2 ^ s * v = 2 ^ s * (2 ^ w * H) + L := by
    rw [e, Nat.mul_add (2 ^ s) (2 ^ w * H) v]
    omega
  rw [e2, e, Nat.testBit_two_pow_mul_add _ hL, Nat.testBit_two_pow_mul_add _ hL, Nat.testBit_mul_two_pow]
  by_cases hi : i < s
  · rw [if_pos hi, if_pos hi, decide_eq_false (by omega)]
    simp
  · rw [if_neg hi, if_neg hi, decide_eq_true (by omega), Nat.testBit_two_pow_mul_add _ hv, Nat.testBit_two_pow_sub_one]
    have e3 := Nat.testBit_two_pow_mul_add H (i := w) (b := 0) (Nat.two_pow_pos w) (i - s)
    rw [Nat.add_zero] at e3
    rw [e3]
    by_cases hw : i - s < w
    · rw [if_pos hw, if_pos hw, decide_eq_true hw]
      simp
    · rw [if_neg hw, if_neg hw, decide_eq_false hw]
      simp
theorem x_and_lo {a k : Nat} (ha : a < 2147483648) (hk : k ≤ 31) : x_and a ((2 ^ k - 1 : Nat) : Int) = ((a % 2 ^ k : Nat) : Int) := by
  have h1 : 2 ^ k ≤ 2 ^ 31 := Nat.pow_le_pow_right (by decide) hk
  rw [x_and_nat ha (by omega), Nat.and_two_pow_sub_one_eq_mod]
theorem x_and_1 {a : Int} (h : 0 ≤ a ∧ a < 2147483648) : x_and a 1 = a % 2 := by
  have := x_and_lo (a := a.toNat) (k := 1) (by omega) (by decide)
  rw [show ((a.toNat : Nat) : Int) = a by omega] at this
  exact this.trans (by push_cast; omega)
theorem x_and_3 {a : Int} (h : 0 ≤ a ∧ a < 2147483648) : x_and a 3 = a % 4 := by
  have := x_and_lo (a := a.toNat) (k := 2) (by omega) (by decide)
  rw [show ((a.toNat : Nat) : Int) = a by omega] at this
  exact this.trans (by push_cast; omega)
theorem x_and_15 {a : Int} (h : 0 ≤ a ∧ a < 2147483648) : x_and a 15 = a % 16 := by
  have := x_and_lo (a := a.toNat) (k := 4) (by omega) (by decide)
  rw [show ((a.toNat : Nat) : Int) = a by omega] at this
  exact this.trans (by push_cast; omega)
theorem x_and_31 {a : Int} (h : 0 ≤ a ∧ a < 2147483648) : x_and a 31 = a % 32 := by
  have := x_and_lo (a := a.toNat) (k := 5) (by omega) (by decide)
  rw [show ((a.toNat : Nat) : Int) = a by omega] at this
  exact this.trans (by push_cast; omega)
theorem x_and_63 {a : Int} (h : 0 ≤ a ∧ a < 2147483648) : x_and a 63 = a % 64 := by
  have := x_and_lo (a := a.toNat) (k := 6) (by omega) (by decide)
  rw [show ((a.toNat : Nat) : Int) = a by omega] at this
  exact this.trans (by push_cast; omega)
/-- the bit set has a place -/
theorem bs_bit {P : Int → Bool} {k : Nat} : ∀ {n : Nat}, k < n → bs P n / ((2 ^ k : Nat) : Int) % 2 = if P k = true then 1 else 0
  | n + 1, h => by
    have h0 := bs_rng (P := P) (n := k)
    have hk : (0 : Int) < ((2 ^ k : Nat) : Int) := by have := Nat.two_pow_pos k; omega
    rw [bs_s]
    by_cases hkn : k = n
    · subst hkn
      by_cases hp : P k = true
      · rw [if_pos hp, if_pos hp, Int.add_ediv_of_dvd_right (Int.dvd_refl _), Int.ediv_self (by omega), Int.ediv_eq_zero_of_lt h0.1 h0.2]
        rfl
      · rw [if_neg hp, if_neg hp, Int.add_zero, Int.ediv_eq_zero_of_lt h0.1 h0.2]
        rfl
    · have ih := bs_bit (P := P) (k := k) (n := n) (by omega)
      by_cases hp : P n = true
      · have e : ((2 ^ n : Nat) : Int) = ((2 ^ k : Nat) : Int) * (2 * ((2 ^ (n - k - 1) : Nat) : Int)) := by
          have : 2 ^ n = 2 ^ k * (2 * 2 ^ (n - k - 1)) := by
            rw [← Nat.pow_succ', ← Nat.pow_add]
            congr 1
            omega
          rw [this]
          push_cast
          rfl
        rw [if_pos hp, e, Int.add_mul_ediv_left _ _ (by omega), Int.add_mul_emod_self_left]
        exact ih
      · rw [if_neg hp, Int.add_zero]
        exact ih
theorem x_has_b {a : Int} {k : Nat} (h : 0 ≤ a ∧ a < 2147483648) (hk : k < 32) : x_and (x_shr a k) 1 = a / ((2 ^ k : Nat) : Int) % 2 := by
  have hp : (0 : Int) < ((2 ^ k : Nat) : Int) := by have := Nat.two_pow_pos k; omega
  rw [x_shr_int hk (by unfold x_i32; omega), x_and_1 ⟨Int.ediv_nonneg h.1 (by omega), Int.lt_of_le_of_lt (Int.ediv_le_self _ h.1) h.2⟩]
theorem shl_nat {a k : Nat} (hk : k < 32) (h : a * 2 ^ k < 2147483648) : x_shl a k = ((a * 2 ^ k : Nat) : Int) := x_shl_nat hk (by have := Nat.two_pow_pos k; exact Nat.lt_of_le_of_lt (Nat.le_mul_of_pos_right _ this) h) h
/-- a field of w bits at s gets the value v -/
theorem set_fld {a s w v : Nat} (ha : a < 2147483648) (hs : s < 32) (hm : 2 ^ w * 2 ^ s ≤ 2147483648) (hv : v < 2 ^ w) : x_or (x_and a (x_xor (x_shl ((2 ^ w - 1 : Nat) : Int) s) (-1))) (x_shl v s) = ((a - 2 ^ s * (a / 2 ^ s % 2 ^ w) + 2 ^ s * v : Nat) : Int) := by
  have hp := Nat.two_pow_pos s
  have hpw := Nat.two_pow_pos w
  have h1 : (2 ^ w - 1) * 2 ^ s < 2147483648 := by
    rw [Nat.sub_mul, Nat.one_mul]
    omega
  have h2 : v * 2 ^ s < 2147483648 := by
    have : v * 2 ^ s ≤ (2 ^ w - 1) * 2 ^ s := Nat.mul_le_mul_right _ (by omega)
    omega
  rw [shl_nat hs h1, clr_fld ha h1, shl_nat hs h2, x_or_nat (by omega) h2, Nat.mul_comm v]
  congr 1
  refine or_fld ?_ hv
  have e := fld_dec a s w
  have hL : a % 2 ^ s < 2 ^ s := Nat.mod_lt _ hp
  generalize a / 2 ^ s / 2 ^ w = H at e
  generalize a % 2 ^ s = L at e hL
  generalize a / 2 ^ s % 2 ^ w = u at e
  rw [show a - 2 ^ s * u = 2 ^ s * (2 ^ w * H) + L by rw [e, Nat.mul_add (2 ^ s) (2 ^ w * H) u]; omega, Nat.mul_add_div hp, Nat.div_eq_of_lt hL, Nat.add_zero, Nat.mul_mod_right]
/-- one bit -/
theorem set_1 {a : Int} {k : Nat} (ha : 0 ≤ a ∧ a < 2147483648) (hk : k < 31) : x_or a (x_shl 1 k) = a - ((2 ^ k : Nat) : Int) * (a / ((2 ^ k : Nat) : Int) % 2) + ((2 ^ k : Nat) : Int) := by
  obtain ⟨n, rfl⟩ : ∃ n : Nat, a = n := ⟨a.toNat, by omega⟩
  have h3 : 2 ^ k < 2 ^ 31 := Nat.pow_lt_pow_right (by decide) hk
  have e1 := shl_nat (a := 1) (k := k) (by omega) (by omega)
  rw [Nat.one_mul, show ((1 : Nat) : Int) = 1 from rfl] at e1
  rw [e1, x_or_nat (by omega) (by omega)]
  by_cases hb : n / 2 ^ k % 2 = 0
  · have := or_fld (a := n) (s := k) (w := 1) (v := 1) hb (by decide)
    rw [Nat.mul_one] at this
    rw [this]
    have hb2 : (n : Int) / ((2 ^ k : Nat) : Int) % 2 = 0 := by omega
    rw [hb2]
    push_cast
    omega
  · have hb1 : n / 2 ^ k % 2 = 1 := by omega
    have hb2 : (n : Int) / ((2 ^ k : Nat) : Int) % 2 = 1 := by omega
    have hor : n ||| 2 ^ k = n := by
      refine Nat.eq_of_testBit_eq (fun i => ?_)
      rw [Nat.testBit_or, Nat.testBit_two_pow]
      by_cases hi : k = i
      · subst hi
        rw [Nat.testBit_eq_decide_div_mod_eq, hb1]
        simp
      · rw [decide_eq_false hi, Bool.or_false]
    rw [hor, hb2]
    omega
theorem clr_1 {a : Int} {k : Nat} (ha : 0 ≤ a ∧ a < 2147483648) (hk : k < 31) : x_and a (x_xor (x_shl 1 k) (-1)) = a - ((2 ^ k : Nat) : Int) * (a / ((2 ^ k : Nat) : Int) % 2) := by
  obtain ⟨n, rfl⟩ : ∃ n : Nat, a = n := ⟨a.toNat, by omega⟩
  have h3 : 2 ^ k < 2 ^ 31 := Nat.pow_lt_pow_right (by decide) hk
  have e1 := shl_nat (a := 1) (k := k) (by omega) (by omega)
  rw [show ((1 : Nat) : Int) = 1 from rfl] at e1
  have h4 := clr_fld (a := n) (s := k) (w := 1) (by omega) (by simpa using by omega)
  rw [e1]
  have h5 : 2 ^ k * (n / 2 ^ k % 2 ^ 1) ≤ n := by
    have h6 : n / 2 ^ k % 2 ^ 1 ≤ n / 2 ^ k := Nat.mod_le _ _
    exact Nat.le_trans (Nat.mul_le_mul_left _ h6) (Nat.mul_div_le _ _)
  refine h4.trans ?_
  rw [Int.ofNat_sub h5]
  push_cast
  rfl
theorem bs_upd {P Q : Int → Bool} {k : Nat} : ∀ {n : Nat}, k < n → (∀ q : Nat, q < n → q ≠ k → Q q = P q) → bs Q n = bs P n - ((2 ^ k : Nat) : Int) * (if P k = true then 1 else 0) + ((2 ^ k : Nat) : Int) * (if Q k = true then 1 else 0)
  | n + 1, hk, h => by
    rw [bs_s, bs_s]
    by_cases hkn : k = n
    · subst hkn
      rw [bs_congr (P := Q) (Q := P) (n := k) (fun q hq => h q (by omega) (by omega))]
      cases P k <;> cases Q k <;> simp <;> omega
    · rw [bs_upd (P := P) (Q := Q) (n := n) (by omega) (fun q hq => h q (by omega)), h n (by omega) (by omega)]
      omega
theorem bs_lt {P : Int → Bool} {n : Nat} (h : n < 31) : 0 ≤ bs P n ∧ bs P n < 2147483648 := by
  have h1 := bs_rng (P := P) (n := n)
  have h2 : 2 ^ n < 2 ^ 31 := Nat.pow_lt_pow_right (by decide) h
  omega
/-- a place comes into a bit set -/
theorem bs_on {P Q : Int → Bool} {k n : Nat} (hk : k < n) (hn : n < 31) (h : ∀ q : Nat, q < n → q ≠ k → Q q = P q) (hq : Q k = true) : x_or (bs P n) (x_shl 1 k) = bs Q n := by
  rw [set_1 (bs_lt hn) (by omega), bs_bit hk, bs_upd hk h, if_pos hq]
  omega
theorem bs_off {P Q : Int → Bool} {k n : Nat} (hk : k < n) (hn : n < 31) (h : ∀ q : Nat, q < n → q ≠ k → Q q = P q) (hq : Q k = false) : x_and (bs P n) (x_xor (x_shl 1 k) (-1)) = bs Q n := by
  rw [clr_1 (bs_lt hn) (by omega), bs_bit hk, bs_upd hk h, hq]
  simp
/-- a note's word -/
theorem x_note {l t b c : Int} (h1 : 0 ≤ l ∧ l ≤ 150150) (h2 : 0 ≤ t ∧ t ≤ 40) (h3 : 1 ≤ b ∧ b ≤ 12) (h4 : 0 ≤ c ∧ c ≤ 2) : x_or (x_or (x_or (x_shl l 12) (x_shl t 6)) (x_shl b 2)) c = pk4 l t b c := by
  obtain ⟨l, rfl⟩ : ∃ n : Nat, l = n := ⟨l.toNat, by omega⟩
  obtain ⟨t, rfl⟩ : ∃ n : Nat, t = n := ⟨t.toNat, by omega⟩
  obtain ⟨b, rfl⟩ : ∃ n : Nat, b = n := ⟨b.toNat, by omega⟩
  obtain ⟨c, rfl⟩ : ∃ n : Nat, c = n := ⟨c.toNat, by omega⟩
  have e1 : x_shl (l : Int) 12 = ((l * 4096 : Nat) : Int) := shl_nat (k := 12) (by decide) (by omega)
  have e2 : x_shl (t : Int) 6 = ((t * 64 : Nat) : Int) := shl_nat (k := 6) (by decide) (by omega)
  have e3 : x_shl (b : Int) 2 = ((b * 4 : Nat) : Int) := shl_nat (k := 2) (by decide) (by omega)
  have o1 := or_fld (a := l * 4096) (s := 6) (w := 6) (v := t) (by omega) (by omega)
  have o2 := or_fld (a := l * 4096 + t * 64) (s := 2) (w := 4) (v := b) (by omega) (by omega)
  have o3 := or_fld (a := l * 4096 + t * 64 + b * 4) (s := 0) (w := 2) (v := c) (by omega) (by omega)
  rw [e1, e2, e3, x_or_nat (by omega) (by omega), show t * 64 = 2 ^ 6 * t by omega, o1, show l * 4096 + 2 ^ 6 * t = l * 4096 + t * 64 by omega, x_or_nat (by omega) (by omega), show b * 4 = 2 ^ 2 * b by omega, o2, show l * 4096 + t * 64 + 2 ^ 2 * b = l * 4096 + t * 64 + b * 4 by omega, x_or_nat (by omega) (by omega)]
  rw [show 2 ^ 0 * c = c by omega] at o3
  rw [o3]
  unfold pk4
  omega
