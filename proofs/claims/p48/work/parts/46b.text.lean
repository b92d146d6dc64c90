/-! the text of a score: tokens -/
/-- the end of the run of P from x on, k places at most -/
def rnk (P : Int → Bool) : Nat → Nat → Nat
  | 0, x => x
  | k + 1, x => if P x = true then rnk P k (x + 1) else x
def ren (P : Int → Bool) (n x : Nat) : Nat := rnk P (n - x) x
theorem ren_eq {P : Int → Bool} {n e : Nat} : ∀ {x : Nat}, x ≤ e → e ≤ n → (∀ q : Nat, x ≤ q → q < e → P q = true) → (e < n → P e = false) → ren P n x = e := by
  intro x
  unfold ren
  generalize hk : n - x = k
  induction k generalizing x with
  | zero =>
    intro h1 h2 _ _
    show x = e
    omega
  | succ k ih =>
    intro h1 h2 h3 h4
    show (if P x = true then rnk P k (x + 1) else x) = e
    by_cases hx : x = e
    · subst hx
      rw [if_neg (by rw [h4 (by omega)]; decide)]
    · rw [if_pos (h3 x (Nat.le_refl _) (by omega))]
      exact ih (by omega) (by omega) h2 (fun q q1 q2 => h3 q (by omega) q2) h4
theorem ren_spec {P : Int → Bool} {n : Nat} : ∀ {x : Nat}, x ≤ n → x ≤ ren P n x ∧ ren P n x ≤ n ∧ (∀ q : Nat, x ≤ q → q < ren P n x → P q = true) ∧ (ren P n x < n → P (ren P n x) = false) := by
  intro x
  unfold ren
  generalize hk : n - x = k
  induction k generalizing x with
  | zero =>
    intro h1
    exact ⟨Nat.le_refl _, h1, fun q q1 q2 => absurd q2 (by show ¬ q < x; omega), fun q => absurd q (by show ¬ x < n; omega)⟩
  | succ k ih =>
    intro h1
    unfold rnk
    by_cases hx : P x = true
    · rw [if_pos hx]
      obtain ⟨i1, i2, i3, i4⟩ := ih (x := x + 1) (by omega) (by omega)
      refine ⟨by omega, i2, fun q q1 q2 => ?_, i4⟩
      by_cases hq : q = x
      · subst hq; exact hx
      · exact i3 q (by omega) q2
    · rw [if_neg hx]
      exact ⟨Nat.le_refl _, h1, fun q q1 q2 => by omega, fun _ => by simpa using hx⟩
def isSp (B : Int → Int) : Int → Bool := fun q => decide (B q = 32 ∨ B q = 10)
def isLt (B : Int → Int) : Int → Bool := fun q => decide (97 ≤ B q ∧ B q ≤ 122)
def isDg (B : Int → Int) : Int → Bool := fun q => decide (48 ≤ B q ∧ B q ≤ 57)
theorem isSp_t {B : Int → Int} {q : Int} : isSp B q = true ↔ (B q = 32 ∨ B q = 10) := by unfold isSp; exact decide_eq_true_iff
theorem isLt_t {B : Int → Int} {q : Int} : isLt B q = true ↔ (97 ≤ B q ∧ B q ≤ 122) := by unfold isLt; exact decide_eq_true_iff
theorem isDg_t {B : Int → Int} {q : Int} : isDg B q = true ↔ (48 ≤ B q ∧ B q ≤ 57) := by unfold isDg; exact decide_eq_true_iff
theorem bf_of {b : Bool} {p : Prop} (e : b = true ↔ p) (h : ¬ p) : b = false := by
  cases b with
  | false => rfl
  | true => exact absurd (e.mp rfl) h
/-- where the token behind x begins -/
def ts (B : Int → Int) (n x : Nat) : Nat := ren (isSp B) n x
def twe (B : Int → Int) (n x : Nat) : Nat := ren (isLt B) n (ts B n x)
def tde (B : Int → Int) (n x : Nat) : Nat := ren (isDg B) n (ts B n x)
/-- its kind: 0 the end, 1 a word, 2 a number, 3 a semicolon, 4 wrong; l: a word or a number ends at x -/
def kin (B : Int → Int) (n x : Nat) (l : Bool) : Int :=
  if n ≤ ts B n x then 0 else if isLt B (ts B n x) = true then (if l = true ∧ ts B n x = x then 4 else 1) else if isDg B (ts B n x) = true then (if (l = true ∧ ts B n x = x) ∨ 4 < tde B n x - ts B n x then 4 else 2) else if B (ts B n x) = 59 then 3 else 4
/-- its end -/
def ten (B : Int → Int) (n x : Nat) : Nat := if n ≤ ts B n x then ts B n x else if isLt B (ts B n x) = true then twe B n x else if isDg B (ts B n x) = true then tde B n x else ts B n x + 1
/-- the number of digits s .. s+k-1 -/
def nvk (B : Int → Int) (s : Nat) : Nat → Int
  | 0 => 0
  | k + 1 => 10 * nvk B s k + (B ((s + k : Nat) : Int) - 48)
def tnv (B : Int → Int) (n x : Nat) : Int := nvk B (ts B n x) (tde B n x - ts B n x)
/-- the word of letters s .. s+k-1 as a number of base b -/
def wdk (b : Int) (B : Int → Int) (s : Nat) : Nat → Int
  | 0 => 0
  | k + 1 => b * wdk b B s k + (B ((s + k : Nat) : Int) - 96)
def twv (B : Int → Int) (n x : Nat) : Int := if twe B n x - ts B n x ≤ 6 then wdk 32 B (ts B n x) (twe B n x - ts B n x) else 0
section TOK
variable {B : Int → Int} {n x : Nat} {l : Bool}
theorem ts_rng (h : x ≤ n) : x ≤ ts B n x ∧ ts B n x ≤ n := ⟨(ren_spec h).1, (ren_spec h).2.1⟩
theorem kin_rng : 0 ≤ kin B n x l ∧ kin B n x l ≤ 4 := by
  unfold kin
  repeat' split
  all_goals omega
theorem kin_w : kin B n x l = 1 ↔ (ts B n x < n ∧ isLt B (ts B n x) = true ∧ ¬ (l = true ∧ ts B n x = x)) := by
  unfold kin
  repeat' split
  all_goals (constructor <;> intro h <;> simp_all <;> omega)
theorem lt_dg {q : Int} (h : isLt B q = true) : isDg B q = false := bf_of isDg_t (by have := isLt_t.mp h; omega)
theorem kin_n : kin B n x l = 2 ↔ (ts B n x < n ∧ isDg B (ts B n x) = true ∧ ¬ (l = true ∧ ts B n x = x) ∧ tde B n x - ts B n x ≤ 4) := by
  unfold kin
  by_cases h1 : n ≤ ts B n x
  · rw [if_pos h1]
    exact ⟨fun h => by omega, fun h => by omega⟩
  · rw [if_neg h1]
    by_cases h2 : isLt B (ts B n x) = true
    · rw [if_pos h2, lt_dg h2]
      refine ⟨fun h => ?_, fun h => absurd h.2.1 (by decide)⟩
      split at h <;> omega
    · rw [if_neg h2]
      by_cases h3 : isDg B (ts B n x) = true
      · rw [if_pos h3]
        by_cases h4 : (l = true ∧ ts B n x = x) ∨ 4 < tde B n x - ts B n x
        · rw [if_pos h4]
          exact ⟨fun h => by omega, fun h => absurd h4 (by rintro (q | q); exact h.2.2.1 q; omega)⟩
        · rw [if_neg h4]
          exact ⟨fun _ => ⟨by omega, h3, fun q => h4 (Or.inl q), by omega⟩, fun _ => rfl⟩
      · rw [if_neg h3]
        refine ⟨fun h => ?_, fun h => absurd h.2.1 h3⟩
        split at h <;> omega
theorem ten_w (h : kin B n x l = 1) : ten B n x = twe B n x := by
  obtain ⟨h1, h2, -⟩ := kin_w.mp h
  unfold ten
  rw [if_neg (by omega), if_pos h2]
theorem ten_n (h : kin B n x l = 2) : ten B n x = tde B n x := by
  obtain ⟨h1, h2, -⟩ := kin_n.mp h
  unfold ten
  rw [if_neg (by omega), if_neg (by rw [bf_of isLt_t (by have := isDg_t.mp h2; omega)]; decide), if_pos h2]
theorem twe_spec (h : x ≤ n) (hl : isLt B (ts B n x) = true) (h2 : ts B n x < n) : ts B n x < twe B n x ∧ twe B n x ≤ n ∧ (∀ q : Nat, ts B n x ≤ q → q < twe B n x → 97 ≤ B q ∧ B q ≤ 122) := by
  obtain ⟨h3, h4, h5, h6⟩ := ren_spec (P := isLt B) (n := n) (x := ts B n x) (by omega)
  refine ⟨?_, h4, fun q q1 q2 => isLt_t.mp (h5 q q1 q2)⟩
  by_cases hc : ts B n x < twe B n x
  · exact hc
  · have hc2 : ren (isLt B) n (ts B n x) = ts B n x := by
      unfold twe at hc
      omega
    rw [hc2] at h6
    rw [h6 h2] at hl
    exact absurd hl (by decide)
theorem tde_spec (h : x ≤ n) (hl : isDg B (ts B n x) = true) (h2 : ts B n x < n) : ts B n x < tde B n x ∧ tde B n x ≤ n ∧ (∀ q : Nat, ts B n x ≤ q → q < tde B n x → 48 ≤ B q ∧ B q ≤ 57) := by
  obtain ⟨h3, h4, h5, h6⟩ := ren_spec (P := isDg B) (n := n) (x := ts B n x) (by omega)
  refine ⟨?_, h4, fun q q1 q2 => isDg_t.mp (h5 q q1 q2)⟩
  by_cases hc : ts B n x < tde B n x
  · exact hc
  · have hc2 : ren (isDg B) n (ts B n x) = ts B n x := by
      unfold tde at hc
      omega
    rw [hc2] at h6
    rw [h6 h2] at hl
    exact absurd hl (by decide)
theorem ten_rng (h : x ≤ n) : ts B n x ≤ ten B n x ∧ ten B n x ≤ n := by
  have h0 := ts_rng (B := B) h
  unfold ten
  by_cases h1 : n ≤ ts B n x
  · rw [if_pos h1]; omega
  · rw [if_neg h1]
    by_cases h2 : isLt B (ts B n x) = true
    · rw [if_pos h2]
      have := twe_spec h h2 (by omega)
      omega
    · rw [if_neg h2]
      by_cases h3 : isDg B (ts B n x) = true
      · rw [if_pos h3]
        have := tde_spec h h3 (by omega)
        omega
      · rw [if_neg h3]
        omega
/-- a token that is there goes on -/
theorem ten_lt (h : x ≤ n) (hk : kin B n x l ≠ 0) : x < ten B n x := by
  have h0 := ts_rng (B := B) h
  have h1 : ¬ n ≤ ts B n x := fun q => hk (by unfold kin; rw [if_pos q])
  unfold ten
  rw [if_neg h1]
  by_cases h2 : isLt B (ts B n x) = true
  · rw [if_pos h2]
    have := twe_spec h h2 (by omega)
    omega
  · rw [if_neg h2]
    by_cases h3 : isDg B (ts B n x) = true
    · rw [if_pos h3]
      have := tde_spec h h3 (by omega)
      omega
    · rw [if_neg h3]
      omega
theorem nvk_rng {s : Nat} : ∀ {k : Nat}, (∀ q : Nat, q < k → 48 ≤ B ((s + q : Nat) : Int) ∧ B ((s + q : Nat) : Int) ≤ 57) → 0 ≤ nvk B s k ∧ nvk B s k < ((10 ^ k : Nat) : Int)
  | 0, _ => ⟨Int.le_refl _, by show (0 : Int) < 1; omega⟩
  | k + 1, h => by
    have h1 := nvk_rng (s := s) (k := k) (fun q hq => h q (by omega))
    have h2 := h k (by omega)
    have e : ((10 ^ (k + 1) : Nat) : Int) = 10 * ((10 ^ k : Nat) : Int) := by rw [Nat.pow_succ]; push_cast; omega
    rw [e]
    show 0 ≤ 10 * nvk B s k + (B ((s + k : Nat) : Int) - 48) ∧ 10 * nvk B s k + (B ((s + k : Nat) : Int) - 48) < _
    omega
theorem p10 {k : Nat} (h : k ≤ 4) : ((10 ^ k : Nat) : Int) ≤ 10000 := by
  have : 10 ^ k ≤ 10 ^ 4 := Nat.pow_le_pow_right (by decide) h
  omega
theorem p10' {k : Nat} (h : k ≤ 3) : ((10 ^ k : Nat) : Int) ≤ 1000 := by
  have : 10 ^ k ≤ 10 ^ 3 := Nat.pow_le_pow_right (by decide) h
  omega
theorem tnv_rng (h0 : x ≤ n) (h : kin B n x l = 2) : 0 ≤ tnv B n x ∧ tnv B n x ≤ 9999 := by
  obtain ⟨h1, h2, h3, h4⟩ := kin_n.mp h
  obtain ⟨h5, h6, h7⟩ := tde_spec h0 h2 h1
  have h8 := nvk_rng (B := B) (s := ts B n x) (k := tde B n x - ts B n x) (fun q hq => h7 _ (by omega) (by omega))
  have h9 := p10 h4
  unfold tnv
  omega
end TOK
/-! statements -/
/-- a reader's state: the end of the last token, whether it was long, the draft, its marks and cuts, the names -/
abbrev xRd : Type := Nat × Bool × xSr × Nat × Nat × (Int → Int)
def rX (R : xRd) : Nat := R.1
def rL (R : xRd) : Bool := R.2.1
def rS (R : xRd) : xSr := R.2.2.1
def rM (R : xRd) : Nat := R.2.2.2.1
def rC (R : xRd) : Nat := R.2.2.2.2.1
def rN (R : xRd) : Int → Int := R.2.2.2.2.2
/-- an error's code and position, or a state -/
abbrev xRr : Type := (Int × Nat) ⊕ xRd
/-- what is wrong with a number -/
def nuc (B : Int → Int) (n x : Nat) (l : Bool) (hi : Int) : Int := if kin B n x l ≠ 2 then 1 else if tnv B n x < 1 ∨ hi < tnv B n x then 2 else 0
def rg (N : Nat) (g : Int → Int) (v : Int) : Int → Int := fun p => if p < N then g p else v
def addS (S : xSr) (c : Nat) (b : Int) : xSr := (sN S + c, sP S, fun p => p, rg (sN S) (sB S) b, rg (sN S) (sX S) 0, rg (sN S) (sT S) 0, rg (sN S) (sD S) 0, (fun part => rg (sN S) (sC S part) 0), sM S, sF S, sL S, sQ S, sR S)
/-- contents of a part, from bar a on -/
def conR (S : xSr) (part a c v : Int) : xSr := (sN S, sP S, sI S, sB S, sX S, sT S, sD S, (fun k p => if k = part ∧ a ≤ p ∧ p < a + c then v else sC S k p), sM S, sF S, sL S, sQ S, sR S)
def parS (S : xSr) : xSr := (sN S, sP S + 1, sI S, sB S, sX S, sT S, sD S, sC S, sM S, sF S, sL S, sQ S, sR S)
def pBars (B : Int → Int) (n x : Nat) (R : xRd) : xRr :=
  if nuc B n x true 99 ≠ 0 then .inl (nuc B n x true 99, ts B n x)
  else if 150 < sN (rS R) + tnv B n x then .inl (4, ts B n x)
  else if kin B n (ten B n x) true = 2 then (if nuc B n (ten B n x) true 12 ≠ 0 then .inl (nuc B n (ten B n x) true 12, ts B n (ten B n x)) else .inr (ten B n (ten B n x), true, addS (rS R) (tnv B n x).toNat (tnv B n (ten B n x)), rM R, rC R, rN R))
  else .inr (ten B n x, true, addS (rS R) (tnv B n x).toNat 4, rM R, rC R, rN R)
def pMark (B : Int → Int) (n x : Nat) (R : xRd) : xRr :=
  if 20 ≤ rM R then .inl (4, ts B n (rX R))
  else if nuc B n x true (sN (rS R)) ≠ 0 then .inl (nuc B n x true (sN (rS R)), ts B n x)
  else if cn (fun l => sM (rS R) (l + 1) == tnv B n x - 1) (rM R) ≠ 0 then .inl (3, ts B n x)
  else .inr (ten B n x, true, markS (rS R) ((rM R + 1 : Nat) : Int) (tnv B n x - 1), rM R + 1, rC R, rN R)
def pFlag (B : Int → Int) (n x : Nat) (w : Int) (R : xRd) : xRr :=
  if nuc B n x true (sN (rS R)) ≠ 0 then .inl (nuc B n x true (sN (rS R)), ts B n x)
  else .inr (ten B n x, true, barS (rS R) w (tnv B n x - 1) 1, rM R, rC R, rN R)
def pCut (B : Int → Int) (n x : Nat) (R : xRd) : xRr :=
  if 10 ≤ rC R then .inl (4, ts B n (rX R))
  else if nuc B n x true (sN (rS R)) ≠ 0 then .inl (nuc B n x true (sN (rS R)), ts B n x)
  else if nuc B n (ten B n x) true (sN (rS R)) ≠ 0 then .inl (nuc B n (ten B n x) true (sN (rS R)), ts B n (ten B n x))
  else if tnv B n (ten B n x) < tnv B n x then .inl (2, ts B n (ten B n x))
  else .inr (ten B n (ten B n x), true, cutS (rS R) (rC R) (tnv B n x - 1) (tnv B n (ten B n x) - 1), rM R, rC R + 1, rN R)
/-- the content that a word tells -/
def cOf (w : Int) : Int := if w = 595572 then 0 else if w = 536633 then 1 else if w = 3749 then 2 else -1
/-- the groups of a part -/
def pGr (B : Int → Int) (n : Nat) : Nat → Nat → Int → xRd → xRr
  | 0, x, _, R => .inr (x, true, parS (rS R), rM R, rC R, rN R)
  | k + 1, x, told, R => if kin B n x true ≠ 1 then .inr (x, true, parS (rS R), rM R, rC R, rN R)
    else if cOf (twv B n x) = -1 then .inl (1, ts B n x)
    else if nuc B n (ten B n x) true (min 99 (sN (rS R) - told)) ≠ 0 then .inl (nuc B n (ten B n x) true (min 99 (sN (rS R) - told)), ts B n (ten B n x))
    else pGr B n k (ten B n (ten B n x)) (told + tnv B n (ten B n x)) (x, true, conR (rS R) (sP (rS R)) told (tnv B n (ten B n x)) (cOf (twv B n x)), rM R, rC R, rN R)
def pPart (B : Int → Int) (n x : Nat) (R : xRd) : xRr :=
  if 6 ≤ sP (rS R) then .inl (4, ts B n (rX R))
  else if kin B n x true ≠ 1 ∨ 6 < ten B n x - ts B n x then .inl (1, ts B n x)
  else if cn (fun p => rN R p == twv B n x) (sP (rS R)) ≠ 0 then .inl (3, ts B n x)
  else pGr B n n (ten B n x) 0 (x, true, rS R, rM R, rC R, up (sP (rS R)) (twv B n x) (rN R))
def pStm (B : Int → Int) (n : Nat) (R : xRd) : xRr :=
  if kin B n (rX R) (rL R) ≠ 1 then .inl (1, ts B n (rX R))
  else if twv B n (rX R) = 67155 then pBars B n (ten B n (rX R)) R
  else if twv B n (rX R) = 427595 then pMark B n (ten B n (rX R)) R
  else if twv B n (rX R) = 661268 then pFlag B n (ten B n (rX R)) 4 R
  else if twv B n (rX R) = 150636933 then pFlag B n (ten B n (rX R)) 5 R
  else if twv B n (rX R) = 3764 then pCut B n (ten B n (rX R)) R
  else if twv B n (rX R) = 525908 then pPart B n (ten B n (rX R)) R
  else .inl (1, ts B n (rX R))
/-- the semicolon -/
def pSem (B : Int → Int) (n : Nat) : xRr → xRr
  | .inl e => .inl e
  | .inr R => if kin B n (rX R) (rL R) = 3 then .inr (ten B n (rX R), false, rS R, rM R, rC R, rN R) else .inl (1, ts B n (rX R))
def pSco (B : Int → Int) (n : Nat) : Nat → xRd → xRr
  | 0, R => .inr R
  | k + 1, R => if kin B n (rX R) (rL R) = 0 then .inr R else match pSem B n (pStm B n R) with
    | .inl e => .inl e
    | .inr R' => pSco B n k R'
def S0 : xSr := (0, 0, fun p => p, fun _ => 0, fun _ => 0, fun _ => 0, fun _ => 0, (fun _ _ => 0), fun _ => -1, fun _ => -1, fun _ => -1, fun _ => 0, (fun _ _ => -1))
def pLoad (B : Int → Int) (n : Nat) : xRr := pSco B n (n + 1) (0, false, S0, 0, 0, fun _ => 0)
/-- a state as it comes to stand -/
def wfR (R : xRd) : Prop := wfS (rS R) (sN (rS R)) ∧ (∀ p : Nat, sI (rS R) p = p) ∧ (mkN (rS R) = rM R ∧ rM R ≤ 20 ∧ ∀ l : Nat, rM R < l → l ≤ 40 → sM (rS R) l = -1) ∧ (rC R ≤ 10 ∧ ∀ c : Nat, rC R ≤ c → c < 10 → sF (rS R) c = -1) ∧ (∀ part, sQ (rS R) part = 0) ∧ (∀ p : Nat, sX (rS R) p = 0)
