/-! bits -/
theorem shk : ∀ k : Nat, k < 32 → (Int32.ofInt (k : Int) &&& 31).toBitVec.smod 32 = BitVec.ofNat 32 k := by decide +kernel
theorem bv_nat {a : Nat} (h : a < 2147483648) : (Int32.ofInt (a : Int)).toBitVec.toNat = a := by
  show (BitVec.ofInt 32 (a : Int)).toNat = a
  rw [BitVec.ofInt_natCast, BitVec.toNat_ofNat]
  omega
theorem i32_ofbv {b : BitVec 32} {n : Nat} (h : b.toNat = n) (hn : n < 2147483648) : b.toInt = (n : Int) := by
  rw [BitVec.toInt_eq_toNat_of_lt (by omega), h]
theorem x_or_nat {a b : Nat} (ha : a < 2147483648) (hb : b < 2147483648) : x_or a b = ((a ||| b : Nat) : Int) := by
  unfold x_or
  show (((Int32.ofInt a).toBitVec ||| (Int32.ofInt b).toBitVec) : BitVec 32).toInt = _
  refine i32_ofbv ?_ (Nat.or_lt_two_pow (n := 31) ha hb)
  rw [BitVec.toNat_or, bv_nat ha, bv_nat hb]
theorem x_and_nat {a b : Nat} (ha : a < 2147483648) (hb : b < 2147483648) : x_and a b = ((a &&& b : Nat) : Int) := by
  unfold x_and
  show (((Int32.ofInt a).toBitVec &&& (Int32.ofInt b).toBitVec) : BitVec 32).toInt = _
  refine i32_ofbv ?_ (Nat.and_lt_two_pow (n := 31) a hb)
  rw [BitVec.toNat_and, bv_nat ha, bv_nat hb]
theorem x_shl_nat {a k : Nat} (hk : k < 32) (ha : a < 2147483648) (h : a * 2 ^ k < 2147483648) : x_shl a k = ((a * 2 ^ k : Nat) : Int) := by
  unfold x_shl
  show ((Int32.ofInt a).toBitVec <<< ((Int32.ofInt (k : Int) &&& 31).toBitVec.smod 32)).toInt = _
  rw [shk k hk]
  refine i32_ofbv ?_ h
  rw [BitVec.shiftLeft_eq', BitVec.toNat_shiftLeft, bv_nat ha, BitVec.toNat_ofNat, Nat.mod_eq_of_lt (show k < 2 ^ 32 by omega), Nat.shiftLeft_eq, Nat.mod_eq_of_lt (by omega)]
theorem x_shr_int {a : Int} {k : Nat} (hk : k < 32) (ha : x_i32 a) : x_shr a k = a / (2 ^ k : Nat) := by
  unfold x_shr
  show (BitVec.sshiftRight' (Int32.ofInt a).toBitVec ((Int32.ofInt (k : Int) &&& 31).toBitVec.smod 32)).toInt = _
  rw [shk k hk, BitVec.toInt_sshiftRight', BitVec.toNat_ofNat, Nat.mod_eq_of_lt (show k < 2 ^ 32 by omega), Int.shiftRight_eq_div_pow]
  congr 1
  exact i32_to ha
theorem or_bit {a c : Nat} (h : a / 2 ^ c % 2 = 0) : a ||| 2 ^ c = a + 2 ^ c := by
  have h1 : a = 2 ^ (c + 1) * (a / 2 ^ (c + 1)) + a % 2 ^ (c + 1) := (Nat.div_add_mod a _).symm
  have h2 : a % 2 ^ (c + 1) < 2 ^ c := by
    have h3 : a % 2 ^ (c + 1) = a % (2 ^ c * 2) := by rw [Nat.pow_succ]
    rw [h3, Nat.mod_mul, h]
    simp
    exact Nat.mod_lt _ (Nat.two_pow_pos c)
  generalize a / 2 ^ (c + 1) = q at h1
  generalize a % 2 ^ (c + 1) = r at h1 h2
  have h4 : 2 ^ c + r < 2 ^ (c + 1) := by rw [Nat.pow_succ]; omega
  have e1 : 2 ^ c ||| r = 2 ^ c + r := by
    have := Nat.two_pow_add_eq_or_of_lt h2 1
    rw [Nat.mul_one] at this
    exact this.symm
  have e2 := Nat.two_pow_add_eq_or_of_lt (i := c + 1) (b := r) (by omega) q
  have e3 := Nat.two_pow_add_eq_or_of_lt (i := c + 1) (b := 2 ^ c + r) h4 q
  rw [h1, e2, Nat.or_assoc, Nat.or_comm r, e1, ← e3, ← e2]
  omega
/-- a bit set, one place more -/
theorem x_or_bs {P : Int → Bool} {p : Nat} (hp : p < 31) (h : P p = true) : x_or (bs P p) (x_shl 1 p) = bs P (p + 1) := by
  obtain ⟨h1, h2⟩ := bs_rng (P := P) (n := p)
  obtain ⟨a, ha⟩ : ∃ a : Nat, bs P p = a := ⟨(bs P p).toNat, by omega⟩
  have h3 : 2 ^ p < 2 ^ 31 := Nat.pow_lt_pow_right (by decide) hp
  have h4 : a < 2 ^ p := by omega
  have e1 : x_shl 1 p = ((2 ^ p : Nat) : Int) := by
    have := x_shl_nat (a := 1) (k := p) (by omega) (by omega) (by omega)
    rw [Nat.one_mul] at this
    exact this
  rw [bs_s, if_pos h, ha, e1, x_or_nat (by omega) (by omega), or_bit (by rw [Nat.div_eq_of_lt h4])]
  push_cast
  rfl
theorem bs_0 {P : Int → Bool} {p : Nat} (h : P p = false) : bs P (p + 1) = bs P p := by
  rw [bs_s, if_neg (by rw [h]; decide)]
  omega
