/-! words of counting and searching, over places counted from 0 -/
theorem w32_of {x : Int} (h : -2147483648 ≤ x ∧ x < 2147483648) : w32 x = x := w32_id h
theorem w64_of {x : Int} (h : -9223372036854775808 ≤ x ∧ x < 9223372036854775808) : w64 x = x := w64_id h
theorem wq_c0 : ((0 : Nat) : Int) = 0 := rfl
theorem wq_c1 : ((1 : Nat) : Int) = 1 := rfl
/-- first place below n with f p = x, or -1 -/
def fi (f : Int → Int) (x : Int) : Nat → Int
  | 0 => -1
  | k + 1 => if fi f x k = -1 then (if f k = x then (k : Int) else -1) else fi f x k
theorem fi_lt {f : Int → Int} {x : Int} : ∀ {n : Nat}, fi f x n = -1 ∨ ∃ p : Nat, p < n ∧ fi f x n = p ∧ f p = x ∧ ∀ q : Nat, q < p → f q ≠ x
  | 0 => Or.inl rfl
  | n + 1 => by
    unfold fi
    rcases fi_lt (f := f) (x := x) (n := n) with h | ⟨p, h1, h2, h3, h4⟩
    · rw [if_pos h]
      by_cases hf : f n = x
      · rw [if_pos hf]
        refine Or.inr ⟨n, by omega, rfl, hf, fun q hq he => ?_⟩
        clear hf
        induction n generalizing q with
        | zero => omega
        | succ m ih =>
          unfold fi at h
          by_cases hm : fi f x m = -1
          · rw [if_pos hm] at h
            by_cases hq2 : q = m
            · subst hq2; rw [if_pos he] at h; omega
            · exact ih hm q (by omega) he
          · rw [if_neg hm] at h; exact hm h
      · rw [if_neg hf]; exact Or.inl rfl
    · rw [if_neg (by omega)]
      exact Or.inr ⟨p, by omega, h2, h3, h4⟩
theorem fi_no {f : Int → Int} {x : Int} {n : Nat} (h : fi f x n = -1) : ∀ q : Nat, q < n → f q ≠ x := by
  induction n with
  | zero => intro q hq; omega
  | succ n ih =>
    unfold fi at h
    intro q hq he
    by_cases hm : fi f x n = -1
    · rw [if_pos hm] at h
      by_cases hq2 : q = n
      · subst hq2; rw [if_pos he] at h; omega
      · exact ih hm q (by omega) he
    · rw [if_neg hm] at h; exact hm h
theorem fi_step {f : Int → Int} {x : Int} {n : Nat} (h : fi f x n = -1) (hf : f n ≠ x) : fi f x (n + 1) = -1 := by
  unfold fi; rw [if_pos h, if_neg hf]
theorem fi_none {f : Int → Int} {x : Int} : ∀ {n : Nat}, (∀ q : Nat, q < n → f q ≠ x) → fi f x n = -1
  | 0, _ => rfl
  | n + 1, h => fi_step (fi_none (fun q hq => h q (by omega))) (h n (by omega))
theorem fi_eq {f : Int → Int} {x : Int} {p n : Nat} (hp : p < n) (hf : f p = x) (h : ∀ q : Nat, q < p → f q ≠ x) : fi f x n = p := by
  rcases fi_lt (f := f) (x := x) (n := n) with h1 | ⟨r, h1, h2, h3, h4⟩
  · exact absurd hf (fi_no h1 p hp)
  · rw [h2]
    by_cases h5 : r < p
    · exact absurd h3 (h r h5)
    · by_cases h6 : p < r
      · exact absurd hf (h4 p h6)
      · omega
theorem fi_found {f : Int → Int} {x : Int} {p n : Nat} (hp : p < n) (hf : f p = x) (h : fi f x p = -1) : fi f x n = p := fi_eq hp hf (fi_no h)
theorem fi_congr {f g : Int → Int} {x : Int} : ∀ {n : Nat}, (∀ q : Nat, q < n → f q = g q) → fi f x n = fi g x n
  | 0, _ => rfl
  | n + 1, h => by
    unfold fi
    rw [fi_congr (n := n) (fun q hq => h q (by omega)), h n (by omega)]
theorem fi_rng {f : Int → Int} {x : Int} {n : Nat} : -1 ≤ fi f x n ∧ fi f x n < n := by
  rcases fi_lt (f := f) (x := x) (n := n) with h1 | ⟨r, h1, h2, -⟩ <;> omega
theorem fi_some {f : Int → Int} {x : Int} {n : Nat} (h : fi f x n ≠ -1) : ∃ p : Nat, p < n ∧ fi f x n = p ∧ f p = x ∧ ∀ q : Nat, q < p → f q ≠ x := fi_lt.resolve_left h
/-- how many places below n have P -/
def cn (P : Int → Bool) : Nat → Int
  | 0 => 0
  | k + 1 => cn P k + if P k = true then 1 else 0
theorem cn_z {P : Int → Bool} : cn P 0 = 0 := rfl
theorem cn_s {P : Int → Bool} (n : Nat) : cn P (n + 1) = cn P n + if P n = true then 1 else 0 := rfl
theorem cn_rng {P : Int → Bool} : ∀ {n : Nat}, 0 ≤ cn P n ∧ cn P n ≤ n
  | 0 => ⟨Int.le_refl _, Int.le_refl _⟩
  | n + 1 => by
    have := cn_rng (P := P) (n := n)
    rw [cn_s]
    split <;> omega
theorem cn_s1 {P : Int → Bool} {n : Nat} (h : P n = true) : cn P (n + 1) = cn P n + 1 := by rw [cn_s, if_pos h]
theorem cn_s0 {P : Int → Bool} {n : Nat} (h : P n = false) : cn P (n + 1) = cn P n := by rw [cn_s, if_neg (by rw [h]; decide)]; omega
theorem cn_mono {P : Int → Bool} {m n : Nat} (h : m ≤ n) : cn P m ≤ cn P n := by
  induction n with
  | zero => rw [show m = 0 by omega]; omega
  | succ n ih =>
    by_cases hm : m = n + 1
    · rw [hm]; omega
    · have h2 := ih (by omega)
      rw [cn_s n]
      by_cases hp : P n = true
      · rw [if_pos hp]; omega
      · rw [if_neg hp]; omega
theorem cn_lt {P : Int → Bool} {m n : Nat} (h : m < n) (hm : P m = true) : cn P m < cn P n := by
  have h1 := cn_mono (P := P) (show m + 1 ≤ n by omega)
  rw [cn_s1 hm] at h1
  omega
theorem cn_congr {P Q : Int → Bool} : ∀ {n : Nat}, (∀ q : Nat, q < n → P q = Q q) → cn P n = cn Q n
  | 0, _ => rfl
  | n + 1, h => by
    rw [cn_s, cn_s, cn_congr (n := n) (fun q hq => h q (by omega)), h n (by omega)]
theorem cn_inj {P : Int → Bool} {p q : Nat} (hp : P p = true) (hq : P q = true) (h : cn P p = cn P q) : p = q := by
  by_cases h1 : p < q
  · have := cn_lt h1 hp; omega
  · by_cases h2 : q < p
    · have := cn_lt h2 hq; omega
    · omega
/-- the j-th place with P below n, or -1 -/
def nth (P : Int → Bool) : Nat → Int → Int
  | 0, _ => -1
  | k + 1, j => if P k = true ∧ cn P k = j then (k : Int) else nth P k j
theorem nth_at {P : Int → Bool} {p : Nat} : ∀ {n : Nat}, p < n → P p = true → nth P n (cn P p) = p
  | 0, h, _ => by omega
  | n + 1, h, hp => by
    unfold nth
    by_cases hc : P n = true ∧ cn P n = cn P p
    · rw [if_pos hc, cn_inj hc.1 hp hc.2]
    · rw [if_neg hc]
      by_cases hpn : p = n
      · subst hpn; exact absurd ⟨hp, rfl⟩ hc
      · exact nth_at (by omega) hp
theorem nth_some {P : Int → Bool} : ∀ {n : Nat} {j : Int}, 0 ≤ j → j < cn P n → ∃ p : Nat, p < n ∧ P p = true ∧ cn P p = j ∧ nth P n j = p
  | 0, j, h0, h => by rw [cn_z] at h; omega
  | n + 1, j, h0, h => by
    unfold nth
    by_cases hc : P n = true ∧ cn P n = j
    · exact ⟨n, by omega, hc.1, hc.2, by rw [if_pos hc]⟩
    · rw [if_neg hc]
      have h2 : j < cn P n := by
        rw [cn_s] at h
        by_cases hn : P n = true
        · rw [if_pos hn] at h
          have : cn P n ≠ j := fun e => hc ⟨hn, e⟩
          omega
        · rw [if_neg hn] at h; omega
      obtain ⟨p, h3, h4, h5, h6⟩ := nth_some h0 h2
      exact ⟨p, by omega, h4, h5, h6⟩
theorem nth_none {P : Int → Bool} : ∀ {n : Nat} {j : Int}, (j < 0 ∨ cn P n ≤ j) → nth P n j = -1
  | 0, j, h => rfl
  | n + 1, j, h => by
    unfold nth
    have h1 := cn_mono (P := P) (show n ≤ n + 1 by omega)
    have h2 := cn_rng (P := P) (n := n)
    by_cases hc : P n = true ∧ cn P n = j
    · have := cn_s1 hc.1
      omega
    · rw [if_neg hc]
      exact nth_none (by omega)
theorem nth_rng {P : Int → Bool} {n : Nat} {j : Int} : -1 ≤ nth P n j ∧ nth P n j < n := by
  by_cases h : 0 ≤ j ∧ j < cn P n
  · obtain ⟨p, h1, -, -, h2⟩ := nth_some h.1 h.2
    omega
  · rw [nth_none (by omega)]; omega
theorem nth_s {P : Int → Bool} {n : Nat} {j : Int} (h : j ≠ cn P n) : nth P (n + 1) j = nth P n j := by
  show (if P n = true ∧ cn P n = j then (n : Int) else nth P n j) = _
  rw [if_neg (fun q => h q.2.symm)]
theorem nth_s1 {P : Int → Bool} {n : Nat} (h : P n = true) : nth P (n + 1) (cn P n) = n := by
  show (if P n = true ∧ cn P n = cn P n then (n : Int) else nth P n _) = _
  rw [if_pos ⟨h, rfl⟩]
theorem nth_s0 {P : Int → Bool} {n : Nat} {j : Int} (h : P n = false) : nth P (n + 1) j = nth P n j := by
  show (if P n = true ∧ cn P n = j then (n : Int) else nth P n j) = _
  rw [if_neg (by rw [h]; exact fun q => absurd q.1 (by decide))]
theorem nth_congr {P Q : Int → Bool} {j : Int} : ∀ {n : Nat}, (∀ q : Nat, q < n → P q = Q q) → nth P n j = nth Q n j
  | 0, _ => rfl
  | n + 1, h => by
    unfold nth
    rw [nth_congr (n := n) (fun q hq => h q (by omega)), h n (by omega), cn_congr (n := n) (P := P) (Q := Q) (fun q hq => h q (by omega))]
/-- a bigger bound changes no place that is there -/
theorem nth_more {P : Int → Bool} {j : Int} {m n : Nat} (h : m ≤ n) (hj : j < cn P m) : nth P n j = nth P m j := by
  by_cases h0 : 0 ≤ j
  · obtain ⟨p, h1, h2, h3, h4⟩ := nth_some h0 hj
    rw [h4, ← h3]
    exact nth_at (by omega) h2
  · rw [nth_none (by omega), nth_none (by omega)]
/-- the next place behind s with P, below n, or n -/
def nx (P : Int → Bool) (s : Nat) : Nat → Nat
  | 0 => 0
  | k + 1 => if nx P s k < k then nx P s k else if s < k ∧ P k = true then k else k + 1
theorem nx_spec {P : Int → Bool} {s : Nat} : ∀ {n : Nat}, nx P s n ≤ n ∧ (∀ q : Nat, s < q → q < nx P s n → P q = false) ∧ (nx P s n < n → s < nx P s n ∧ P (nx P s n) = true)
  | 0 => ⟨Nat.le_refl _, fun q _ h => absurd h (Nat.not_lt_zero _), fun h => absurd h (Nat.not_lt_zero _)⟩
  | n + 1 => by
    obtain ⟨h1, h2, h3⟩ := nx_spec (P := P) (s := s) (n := n)
    unfold nx
    by_cases ha : nx P s n < n
    · rw [if_pos ha]
      exact ⟨by omega, h2, fun _ => h3 ha⟩
    · rw [if_neg ha]
      have he : nx P s n = n := by omega
      rw [he] at h2
      by_cases hb : s < n ∧ P n = true
      · rw [if_pos hb]
        exact ⟨by omega, h2, fun _ => hb⟩
      · rw [if_neg hb]
        refine ⟨Nat.le_refl _, fun q q1 q2 => ?_, fun h => absurd h (by omega)⟩
        by_cases hq : q = n
        · subst hq
          cases hp : P q with
          | false => rfl
          | true => exact absurd ⟨q1, hp⟩ hb
        · exact h2 q q1 (by omega)
theorem nx_eq {P : Int → Bool} {s n r : Nat} (h1 : r ≤ n) (h2 : ∀ q : Nat, s < q → q < r → P q = false) (h3 : r < n → s < r ∧ P r = true) : nx P s n = r := by
  obtain ⟨g1, g2, g3⟩ := nx_spec (P := P) (s := s) (n := n)
  by_cases ha : nx P s n < r
  · obtain ⟨g4, g5⟩ := g3 (by omega)
    rw [h2 _ g4 ha] at g5
    exact absurd g5 (by decide)
  · by_cases hb : r < nx P s n
    · obtain ⟨g4, g5⟩ := h3 (by omega)
      rw [g2 _ g4 hb] at g5
      exact absurd g5 (by decide)
    · omega
/-- P as a bit set of the places below n -/
def bs (P : Int → Bool) : Nat → Int
  | 0 => 0
  | k + 1 => bs P k + if P k = true then ((2 ^ k : Nat) : Int) else 0
theorem bs_s {P : Int → Bool} (n : Nat) : bs P (n + 1) = bs P n + if P n = true then ((2 ^ n : Nat) : Int) else 0 := rfl
theorem bs_rng {P : Int → Bool} : ∀ {n : Nat}, 0 ≤ bs P n ∧ bs P n < ((2 ^ n : Nat) : Int)
  | 0 => ⟨Int.le_refl _, by show (0 : Int) < 1; omega⟩
  | n + 1 => by
    have h := bs_rng (P := P) (n := n)
    have e : ((2 ^ (n + 1) : Nat) : Int) = 2 * ((2 ^ n : Nat) : Int) := by rw [Nat.pow_succ]; push_cast; omega
    rw [bs_s, e]
    split <;> omega
theorem bs_congr {P Q : Int → Bool} : ∀ {n : Nat}, (∀ q : Nat, q < n → P q = Q q) → bs P n = bs Q n
  | 0, _ => rfl
  | n + 1, h => by
    rw [bs_s, bs_s, bs_congr (n := n) (fun q hq => h q (by omega)), h n (by omega)]
/-- the sum of f over the places a .. b-1 -/
def sm (f : Int → Int) (a : Nat) : Nat → Int
  | 0 => 0
  | k + 1 => sm f a k + if a ≤ k then f k else 0
theorem sm_s {f : Int → Int} {a k : Nat} (h : a ≤ k) : sm f a (k + 1) = sm f a k + f k := by
  show sm f a k + (if a ≤ k then f k else 0) = _
  rw [if_pos h]
theorem sm_z {f : Int → Int} {a : Nat} : ∀ {k : Nat}, k ≤ a → sm f a k = 0
  | 0, _ => rfl
  | k + 1, h => by
    show sm f a k + (if a ≤ k then f k else 0) = 0
    rw [if_neg (by omega), sm_z (by omega)]
    rfl
theorem sm_congr {f g : Int → Int} {a : Nat} : ∀ {n : Nat}, (∀ q : Nat, a ≤ q → q < n → f q = g q) → sm f a n = sm g a n
  | 0, _ => rfl
  | n + 1, h => by
    show sm f a n + (if a ≤ n then f n else 0) = sm g a n + (if a ≤ n then g n else 0)
    rw [sm_congr (n := n) (fun q hq1 hq => h q hq1 (by omega))]
    by_cases ha : a ≤ n
    · rw [if_pos ha, if_pos ha, h n ha (by omega)]
    · rw [if_neg ha, if_neg ha]
theorem sm_rng {f : Int → Int} {a : Nat} {B : Int} (hB : 0 ≤ B) : ∀ {n : Nat}, (∀ q : Nat, a ≤ q → q < n → 0 ≤ f q ∧ f q ≤ B) → 0 ≤ sm f a n ∧ sm f a n ≤ B * n
  | 0, _ => ⟨Int.le_refl _, by show (0 : Int) ≤ B * 0; omega⟩
  | n + 1, h => by
    have h1 := sm_rng hB (n := n) (fun q hq1 hq => h q hq1 (by omega))
    have e : B * ((n + 1 : Nat) : Int) = B * n + B := by push_cast; rw [Int.mul_add]; omega
    show 0 ≤ sm f a n + (if a ≤ n then f n else 0) ∧ sm f a n + (if a ≤ n then f n else 0) ≤ _
    rw [e]
    by_cases ha : a ≤ n
    · have := h n ha (by omega)
      rw [if_pos ha]; omega
    · rw [if_neg ha]; omega
theorem cn_up {P Q : Int → Bool} {r : Nat} : ∀ {n : Nat}, r < n → (∀ q : Nat, q < n → q ≠ r → Q q = P q) → cn Q n = cn P n + ((if Q r = true then 1 else 0) - (if P r = true then 1 else 0))
  | 0, h, _ => by omega
  | n + 1, h, e => by
    rw [cn_s, cn_s]
    by_cases he : r = n
    · subst he
      rw [cn_congr (n := r) (fun q hq => e q (by omega) (by omega))]
      omega
    · rw [cn_up (n := n) (by omega) (fun q hq hne => e q (by omega) hne), e n (by omega) (by omega)]
      omega
theorem cn_nof : ∀ {n : Nat}, cn (fun _ => false) n = 0
  | 0 => rfl
  | n + 1 => by rw [cn_s0 rfl, cn_nof]
theorem cn_cover {P : Int → Bool} {f : Int → Int} : ∀ {N n : Nat}, (∀ q : Nat, q < n → P q = true → ∃ p : Nat, p < N ∧ f p = q) → cn P n ≤ N
  | 0, n, h => by
    have : ∀ q : Nat, q < n → P q = (fun _ => false) (q : Int) := fun q hq => by
      cases hp : P q with
      | false => rfl
      | true =>
        obtain ⟨p, p1, -⟩ := h q hq hp
        exact absurd p1 (Nat.not_lt_zero p)
    rw [cn_congr (Q := fun _ => false) this, cn_nof]
    exact Int.le_refl _
  | N + 1, n, h => by
    have ih := cn_cover (P := fun q => P q && q != f N) (f := f) (N := N) (n := n) (fun q hq hp => by
      simp only [Bool.and_eq_true, bne_iff_ne] at hp
      obtain ⟨p, p1, p2⟩ := h q hq hp.1
      have : p ≠ N := fun e => hp.2 (by rw [← p2, e])
      exact ⟨p, by omega, p2⟩)
    by_cases hr : ∃ r : Nat, r < n ∧ f N = r
    · obtain ⟨r, r1, r2⟩ := hr
      have := cn_up (P := P) (Q := fun q => P q && q != f N) (r := r) (n := n) r1 (fun q hq hne => by
        have : (q : Int) ≠ f N := by omega
        simp [this])
      rw [this] at ih
      split at ih <;> split at ih <;> omega
    · have : ∀ q : Nat, q < n → (fun q : Int => P q && q != f N) q = P q := fun q hq => by
        have : (q : Int) ≠ f N := fun e => hr ⟨q, hq, e.symm⟩
        simp [this]
      rw [cn_congr this] at ih
      omega
