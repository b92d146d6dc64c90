/-! a score, as numbers: bars, parts, ids, beats, inserted, texts, doubles, contents (part, place), marks (letter), cuts (first, last), printed, notes (part, id) -/
abbrev xSr : Type := Nat × Nat × (Int → Int) × (Int → Int) × (Int → Int) × (Int → Int) × (Int → Int) × (Int → Int → Int) × (Int → Int) × (Int → Int) × (Int → Int) × (Int → Int) × (Int → Int → Int)
def sN (S : xSr) : Nat := S.1
def sP (S : xSr) : Nat := S.2.1
def sI (S : xSr) : Int → Int := S.2.2.1
def sB (S : xSr) : Int → Int := S.2.2.2.1
def sX (S : xSr) : Int → Int := S.2.2.2.2.1
def sT (S : xSr) : Int → Int := S.2.2.2.2.2.1
def sD (S : xSr) : Int → Int := S.2.2.2.2.2.2.1
def sC (S : xSr) : Int → Int → Int := S.2.2.2.2.2.2.2.1
def sM (S : xSr) : Int → Int := S.2.2.2.2.2.2.2.2.1
def sF (S : xSr) : Int → Int := S.2.2.2.2.2.2.2.2.2.1
def sL (S : xSr) : Int → Int := S.2.2.2.2.2.2.2.2.2.2.1
def sQ (S : xSr) : Int → Int := S.2.2.2.2.2.2.2.2.2.2.2.1
def sR (S : xSr) : Int → Int → Int := S.2.2.2.2.2.2.2.2.2.2.2.2
/-- the place of a bar, or -1 -/
def pl (S : xSr) (x : Int) : Int := fi (sI S) x (sN S)
def isI (f : Int → Int) : Int → Bool := fun p => f p == 0
/-- the suffix's count behind k bars -/
def sfx (f : Int → Int) : Nat → Int
  | 0 => 0
  | k + 1 => if f k = 0 then 0 else sfx f k + 1
def lab (S : xSr) (p : Nat) : Int := 1000 * cn (isI (sX S)) (p + 1) + sfx (sX S) (p + 1)
def hasC (S : xSr) : Int → Bool := fun c => sF S c != -1
/-- how many cuts cover a place -/
def cvk (S : xSr) (p : Int) : Nat → Int := cn (fun c => hasC S c && (decide (pl S (sF S c) ≤ p) && decide (p ≤ pl S (sL S c))))
def cov (S : xSr) (p : Int) : Int := cvk S p 10
def isP (S : xSr) : Int → Bool := fun p => cov S p == 0
/-- played bars before a place; all of them; the place of the k-th -/
def pb (S : xSr) (p : Nat) : Int := cn (isP S) p
def pN (S : xSr) : Int := cn (isP S) (sN S)
def pp (S : xSr) (k : Int) : Int := nth (isP S) (sN S) k
/-- the place where a mark on place p shows, or -1 -/
def sh (S : xSr) (p : Nat) : Int := if pb S p < pN S then pp S (pb S p) else -1
/-- the letter of the mark on place p -/
def sitk (S : xSr) (p : Int) : Nat → Int
  | 0 => 0
  | l + 1 => if sM S (l + 1 : Nat) ≠ -1 ∧ pl S (sM S (l + 1 : Nat)) = p then (l + 1 : Nat) else sitk S p l
def sit (S : xSr) (p : Int) : Int := sitk S p 40
/-- the letter at place p, out of the marks that sit before place q -/
def ltk (S : xSr) (p : Int) : Nat → Int
  | 0 => 0
  | q + 1 => if sit S q ≠ 0 ∧ sh S q = p then sit S q else ltk S p q
def lt (S : xSr) (p : Int) : Int := ltk S p (sN S)
/-- a letter's place where it shows, or -1; where it counts, or -1 -/
def shl (S : xSr) (l : Int) : Int := if 1 ≤ l ∧ l ≤ 40 ∧ sM S l ≠ -1 then sh S (pl S (sM S l)).toNat else -1
def cts (S : xSr) (l : Int) : Int := if shl S l ≠ -1 ∧ lt S (shl S l) = l then shl S l else -1
def idA (S : xSr) (p : Int) : Int := if 0 ≤ p ∧ p < sN S then sI S p else -1
/-- the reason between two places -/
def rsb (S : xSr) (a b : Int) : Int := if lt S b ≠ 0 then 1 else if sB S a ≠ sB S b then 2 else if sT S b ≠ 0 then 3 else if sD S a ≠ 0 then 4 else if b - a > 1 then 5 else 0
def rsn (S : xSr) (k : Int) : Int := if k = 0 then 0 else rsb S (pp S (k - 1)) (pp S k)
/-- does an item of the part start at the k-th played bar -/
def stt (S : xSr) (part : Int) : Int → Bool := fun k => k == 0 || (sC S part (pp S k) != 0 || (sC S part (pp S (k - 1)) != 0 || rsn S k != 0))
def itN (S : xSr) (part : Int) : Int := cn (stt S part) (pN S).toNat
def bts (S : xSr) (a b : Nat) : Int := sm (fun k => sB S (pp S k)) a b
def mkb (S : xSr) : Int → Bool := fun l => sM S (l + 1) != -1
def mkN (S : xSr) : Int := cn (mkb S) 40
/-- what is noted of a bar: the word of the reference -/
def pk4 (l t b c : Int) : Int := l * 4096 + t * 64 + b * 4 + c
/-- the word of a bar in the reference -/
def pkw (S : xSr) (p : Int) : Int := sB S p + 16 * sX S p + 32 * sT S p + 64 * sD S p + 256 * sC S 0 p + 1024 * sC S 1 p + 4096 * sC S 2 p + 16384 * sC S 3 p + 65536 * sC S 4 p + 262144 * sC S 5 p
/-- a score as it may be, with ids below nid -/
def wfS (S : xSr) (nid : Int) : Prop := (sN S ≤ 150 ∧ sP S ≤ 6) ∧
  (∀ p : Nat, p < sN S → (0 ≤ sI S p ∧ sI S p < nid) ∧ (1 ≤ sB S p ∧ sB S p ≤ 12) ∧ (sX S p = 0 ∨ sX S p = 1) ∧ (sT S p = 0 ∨ sT S p = 1) ∧ (sD S p = 0 ∨ sD S p = 1) ∧ ∀ part : Nat, part < 6 → 0 ≤ sC S part p ∧ sC S part p ≤ 2) ∧
  (∀ p q : Nat, p < sN S → q < sN S → sI S p = sI S q → p = q) ∧
  (∀ l : Nat, 1 ≤ l → l ≤ 40 → sM S l = -1 ∨ ∃ p : Nat, p < sN S ∧ sI S p = sM S l) ∧
  (∀ l k : Nat, 1 ≤ l → l ≤ 40 → 1 ≤ k → k ≤ 40 → sM S l ≠ -1 → sM S l = sM S k → l = k) ∧
  mkN S ≤ 20 ∧
  (∀ c : Nat, c < 10 → sF S c = -1 ∨ ∃ p q : Nat, p ≤ q ∧ q < sN S ∧ sI S p = sF S c ∧ sI S q = sL S c) ∧
  (∀ part : Nat, part < 6 → sQ S part = 0 ∨ sQ S part = 1) ∧
  (∀ part : Nat, part < 6 → ∀ id : Int, sR S part id = -1 ∨ ((0 ≤ id ∧ id < nid) ∧ ∃ l t b c : Int, sR S part id = pk4 l t b c ∧ (0 ≤ l ∧ l ≤ 150150) ∧ (0 ≤ t ∧ t ≤ 40) ∧ (1 ≤ b ∧ b ≤ 12) ∧ (0 ≤ c ∧ c ≤ 2))) ∧
  (∀ part : Nat, part < 6 → ∀ id id2 : Int, sR S part id ≠ -1 → sR S part id2 ≠ -1 → sR S part id / 64 % 64 ≠ 0 → sR S part id / 64 % 64 = sR S part id2 / 64 % 64 → id = id2)
section WF
variable {S : xSr} {nid : Int}
theorem wfS.N (w : wfS S nid) : sN S ≤ 150 := w.1.1
theorem wfS.P (w : wfS S nid) : sP S ≤ 6 := w.1.2
theorem wfS.id (w : wfS S nid) {p : Nat} (h : p < sN S) : 0 ≤ sI S p ∧ sI S p < nid := (w.2.1 p h).1
theorem wfS.b (w : wfS S nid) {p : Nat} (h : p < sN S) : 1 ≤ sB S p ∧ sB S p ≤ 12 := (w.2.1 p h).2.1
theorem wfS.x (w : wfS S nid) {p : Nat} (h : p < sN S) : sX S p = 0 ∨ sX S p = 1 := (w.2.1 p h).2.2.1
theorem wfS.t (w : wfS S nid) {p : Nat} (h : p < sN S) : sT S p = 0 ∨ sT S p = 1 := (w.2.1 p h).2.2.2.1
theorem wfS.d (w : wfS S nid) {p : Nat} (h : p < sN S) : sD S p = 0 ∨ sD S p = 1 := (w.2.1 p h).2.2.2.2.1
theorem wfS.c (w : wfS S nid) {p : Nat} (h : p < sN S) {part : Nat} (h2 : part < 6) : 0 ≤ sC S part p ∧ sC S part p ≤ 2 := (w.2.1 p h).2.2.2.2.2 part h2
theorem wfS.inj (w : wfS S nid) {p q : Nat} (h : p < sN S) (h2 : q < sN S) (h3 : sI S p = sI S q) : p = q := w.2.2.1 p q h h2 h3
theorem wfS.mk (w : wfS S nid) {l : Nat} (h : 1 ≤ l) (h2 : l ≤ 40) : sM S l = -1 ∨ ∃ p : Nat, p < sN S ∧ sI S p = sM S l := w.2.2.2.1 l h h2
theorem wfS.mi (w : wfS S nid) {l k : Nat} (h : 1 ≤ l) (h2 : l ≤ 40) (h3 : 1 ≤ k) (h4 : k ≤ 40) (h5 : sM S l ≠ -1) (h6 : sM S l = sM S k) : l = k := w.2.2.2.2.1 l k h h2 h3 h4 h5 h6
theorem wfS.m20 (w : wfS S nid) : mkN S ≤ 20 := w.2.2.2.2.2.1
theorem wfS.cut (w : wfS S nid) {c : Nat} (h : c < 10) : sF S c = -1 ∨ ∃ p q : Nat, p ≤ q ∧ q < sN S ∧ sI S p = sF S c ∧ sI S q = sL S c := w.2.2.2.2.2.2.1 c h
theorem wfS.q (w : wfS S nid) {part : Nat} (h : part < 6) : sQ S part = 0 ∨ sQ S part = 1 := w.2.2.2.2.2.2.2.1 part h
theorem wfS.r (w : wfS S nid) {part : Nat} (h : part < 6) (id : Int) : sR S part id = -1 ∨ ((0 ≤ id ∧ id < nid) ∧ ∃ l t b c : Int, sR S part id = pk4 l t b c ∧ (0 ≤ l ∧ l ≤ 150150) ∧ (0 ≤ t ∧ t ≤ 40) ∧ (1 ≤ b ∧ b ≤ 12) ∧ (0 ≤ c ∧ c ≤ 2)) := w.2.2.2.2.2.2.2.2.1 part h id
theorem wfS.u (w : wfS S nid) {part : Nat} (h : part < 6) {id id2 : Int} (h1 : sR S part id ≠ -1) (h2 : sR S part id2 ≠ -1) (h3 : sR S part id / 64 % 64 ≠ 0) (h4 : sR S part id / 64 % 64 = sR S part id2 / 64 % 64) : id = id2 := w.2.2.2.2.2.2.2.2.2 part h id id2 h1 h2 h3 h4
theorem pl_at (w : wfS S nid) {p : Nat} (h : p < sN S) : pl S (sI S p) = p := fi_eq h rfl (fun q hq he => by have := w.inj (by omega) h he; omega)
theorem pl_rng {x : Int} : -1 ≤ pl S x ∧ pl S x < sN S := fi_rng
theorem pl_some {x : Int} (h : pl S x ≠ -1) : ∃ p : Nat, p < sN S ∧ pl S x = p ∧ sI S p = x := by
  obtain ⟨p, h1, h2, h3, -⟩ := fi_some h
  exact ⟨p, h1, h2, h3⟩
theorem wfS.mkp (w : wfS S nid) {l : Nat} (h : 1 ≤ l) (h2 : l ≤ 40) (h3 : sM S l ≠ -1) : ∃ p : Nat, p < sN S ∧ sI S p = sM S l ∧ pl S (sM S l) = p := by
  obtain ⟨p, h4, h5⟩ := (w.mk h h2).resolve_left h3
  exact ⟨p, h4, h5, by rw [← h5]; exact pl_at w h4⟩
theorem wfS.cutp (w : wfS S nid) {c : Nat} (h : c < 10) (h3 : sF S c ≠ -1) : ∃ p q : Nat, p ≤ q ∧ q < sN S ∧ pl S (sF S c) = p ∧ pl S (sL S c) = q := by
  obtain ⟨p, q, h4, h5, h6, h7⟩ := (w.cut h).resolve_left h3
  exact ⟨p, q, h4, h5, by rw [← h6]; exact pl_at w (by omega), by rw [← h7]; exact pl_at w h5⟩
theorem pN_rng : 0 ≤ pN S ∧ pN S ≤ sN S := cn_rng
theorem pb_rng {p : Nat} : 0 ≤ pb S p ∧ pb S p ≤ p := cn_rng
theorem pb_le {p : Nat} (h : p ≤ sN S) : pb S p ≤ pN S := cn_mono h
theorem pp_rng {k : Int} : -1 ≤ pp S k ∧ pp S k < sN S := nth_rng
theorem pp_some {k : Int} (h : 0 ≤ k) (h2 : k < pN S) : ∃ p : Nat, p < sN S ∧ isP S p = true ∧ pb S p = k ∧ pp S k = p := nth_some h h2
theorem pp_at {p : Nat} (h : p < sN S) (h2 : isP S p = true) : pp S (pb S p) = p := nth_at h h2
theorem pb_lt {p : Nat} (h : p < sN S) (h2 : isP S p = true) : pb S p < pN S := cn_lt h h2
theorem isP_iff {p : Int} : isP S p = true ↔ cov S p = 0 := by unfold isP; exact beq_iff_eq
theorem cov_rng {p : Int} : 0 ≤ cov S p ∧ cov S p ≤ 10 := cn_rng
theorem sfx_s (f : Int → Int) (k : Nat) : sfx f (k + 1) = if f k = 0 then 0 else sfx f k + 1 := rfl
theorem sfx_rng (f : Int → Int) : ∀ k : Nat, 0 ≤ sfx f k ∧ sfx f k ≤ k
  | 0 => ⟨Int.le_refl _, Int.le_refl _⟩
  | k + 1 => by
    have := sfx_rng f k
    rw [sfx_s]
    by_cases h : f k = 0
    · rw [if_pos h]; omega
    · rw [if_neg h]; omega
theorem lab_rng {p : Nat} (h : p < sN S) (w : wfS S nid) : 0 ≤ lab S p ∧ lab S p ≤ 150150 := by
  have h1 := cn_rng (P := isI (sX S)) (n := p + 1)
  have h2 := sfx_rng (sX S) (p + 1)
  have := w.N
  unfold lab
  omega
theorem sitk_s (S : xSr) (p : Int) (l : Nat) : sitk S p (l + 1) = if sM S (l + 1 : Nat) ≠ -1 ∧ pl S (sM S (l + 1 : Nat)) = p then ((l + 1 : Nat) : Int) else sitk S p l := rfl
theorem ltk_s (S : xSr) (p : Int) (q : Nat) : ltk S p (q + 1) = if sit S q ≠ 0 ∧ sh S q = p then sit S q else ltk S p q := rfl
theorem sitk_spec {p : Int} : ∀ (k : Nat), (sitk S p k = 0 ∧ ∀ l : Nat, 1 ≤ l → l ≤ k → sM S l ≠ -1 → pl S (sM S l) ≠ p) ∨ ∃ l : Nat, 1 ≤ l ∧ l ≤ k ∧ sitk S p k = l ∧ sM S l ≠ -1 ∧ pl S (sM S l) = p
  | 0 => Or.inl ⟨rfl, fun l h1 h2 => by omega⟩
  | k + 1 => by
    rw [sitk_s]
    by_cases h : sM S (k + 1 : Nat) ≠ -1 ∧ pl S (sM S (k + 1 : Nat)) = p
    · rw [if_pos h]
      exact Or.inr ⟨k + 1, by omega, by omega, rfl, h⟩
    · rw [if_neg h]
      rcases sitk_spec (p := p) k with ⟨h1, h2⟩ | ⟨l, h1, h2, h3⟩
      · refine Or.inl ⟨h1, fun l h3 h4 h5 h6 => ?_⟩
        by_cases hl : l = k + 1
        · subst hl; exact h ⟨h5, h6⟩
        · exact h2 l h3 (by omega) h5 h6
      · exact Or.inr ⟨l, h1, by omega, h3⟩
theorem sit_rng {p : Int} : 0 ≤ sit S p ∧ sit S p ≤ 40 := by
  unfold sit
  rcases sitk_spec (S := S) (p := p) 40 with ⟨h1, -⟩ | ⟨l, h1, h2, h3, -⟩ <;> omega
theorem sit_iff (w : wfS S nid) {p l : Nat} (hp : p < sN S) (h1 : 1 ≤ l) (h2 : l ≤ 40) : sit S p = l ↔ sM S l = sI S p := by
  have hid := w.id hp
  constructor
  · intro h
    unfold sit at h
    rcases sitk_spec (S := S) (p := p) 40 with ⟨h3, -⟩ | ⟨k, h3, h4, h5, h6, h7⟩
    · omega
    · have : k = l := by omega
      subst this
      obtain ⟨q, q1, q2, q3⟩ := w.mkp h3 h4 h6
      rw [← q2]
      have : q = p := by omega
      rw [this]
  · intro h
    unfold sit
    have h9 : sM S l ≠ -1 := by omega
    rcases sitk_spec (S := S) (p := p) 40 with ⟨h3, h4⟩ | ⟨k, h3, h4, h5, h6, h7⟩
    · exact absurd (by rw [h]; exact pl_at w hp) (h4 l h1 h2 h9)
    · obtain ⟨q, q1, q2, q3⟩ := w.mkp h3 h4 h6
      have e : q = p := by omega
      subst e
      have := w.mi h3 h4 h1 h2 h6 (by omega)
      omega
theorem sit_0 (w : wfS S nid) {p : Nat} (hp : p < sN S) : sit S p = 0 ↔ ∀ l : Nat, 1 ≤ l → l ≤ 40 → sM S l ≠ sI S p := by
  constructor
  · intro h l h1 h2 h3
    have := (sit_iff w hp h1 h2).mpr h3
    omega
  · intro h
    by_cases h0 : sit S p = 0
    · exact h0
    · have hr := sit_rng (S := S) (p := p)
      obtain ⟨l, hl⟩ : ∃ l : Nat, sit S p = l := ⟨(sit S p).toNat, by omega⟩
      exact absurd ((sit_iff w hp (by omega) (by omega)).mp hl) (h l (by omega) (by omega))
theorem lt_rng : ∀ {n : Nat} {p : Int}, 0 ≤ ltk S p n ∧ ltk S p n ≤ 40
  | 0, p => ⟨Int.le_refl _, by show (0 : Int) ≤ 40; omega⟩
  | n + 1, p => by
    have h1 := lt_rng (n := n) (p := p)
    have h2 := sit_rng (S := S) (p := (n : Int))
    rw [ltk_s]
    split
    · exact h2
    · exact h1
theorem sh_rng {p : Nat} : -1 ≤ sh S p ∧ sh S p < sN S := by
  unfold sh
  split
  · exact pp_rng
  · omega
end WF
