/-! what the class's objects hold of a score; helpers -/
/-- 1 or 0 -/
def b01 (p : Prop) [Decidable p] : Int := if p then 1 else 0
theorem b01_0 {p : Prop} [Decidable p] : (b01 p = 0) = ¬ p := by
  unfold b01
  by_cases h : p <;> simp [h]
theorem b01_1 {p : Prop} [Decidable p] : (b01 p = 1) = p := by
  unfold b01
  by_cases h : p <;> simp [h]
theorem b01_t {p : Prop} [Decidable p] (h : p) : b01 p = 1 := if_pos h
theorem b01_f {p : Prop} [Decidable p] (h : ¬ p) : b01 p = 0 := if_neg h
theorem b01_c {p q : Prop} [Decidable p] [Decidable q] (h : p ↔ q) : b01 p = b01 q := by
  unfold b01
  by_cases hp : p
  · rw [if_pos hp, if_pos (h.mp hp)]
  · rw [if_neg hp, if_neg (fun hq => hp (h.mpr hq))]
theorem b01_r {p : Prop} [Decidable p] : 0 ≤ b01 p ∧ b01 p ≤ 1 := by
  unfold b01
  by_cases h : p <;> simp [h]
def x_fl (M : xM) (a : Nat) (v n : Int) : xM := fun b j => if b = a ∧ 0 ≤ j ∧ j < n then v else M b j
/-- a Noted at r holds these notes -/
def ntc (M : xM) (r : Nat) : Nat := (M r 0).toNat
def ntf (M : xM) (r : Nat) (id : Int) : Int := if fi (M (r + 1)) id (ntc M r) = -1 then -1 else pk4 (M (r + 2) (fi (M (r + 1)) id (ntc M r))) (M (r + 3) (fi (M (r + 1)) id (ntc M r))) (M (r + 4) (fi (M (r + 1)) id (ntc M r))) (M (r + 5) (fi (M (r + 1)) id (ntc M r)))
def repN (f : Int → Int) (M : xM) (h : xH) (r : Nat) : Prop := (ntA h r ∧ 42 ≤ r ∧ r + 6 ≤ hn h) ∧ (0 ≤ M r 0 ∧ M r 0 ≤ 150) ∧ (∀ i j : Nat, i < j → j < ntc M r → M (r + 1) i < M (r + 1) j) ∧
  (∀ i : Nat, i < ntc M r → 0 ≤ M (r + 1) i ∧ (0 ≤ M (r + 2) i ∧ M (r + 2) i ≤ 150150) ∧ (0 ≤ M (r + 3) i ∧ M (r + 3) i ≤ 40) ∧ (1 ≤ M (r + 4) i ∧ M (r + 4) i ≤ 12) ∧ (0 ≤ M (r + 5) i ∧ M (r + 5) i ≤ 2)) ∧ ∀ id, f id = ntf M r id
/-- a Score at b holds this score -/
def repC (S : xSr) (M : xM) (h : xH) (b : Nat) : Prop := (scA h b ∧ 0 < b ∧ b + 11 ≤ hn h) ∧ (M b 0 = sN S ∧ M b 1 = sP S ∧ M b 2 = mkN S) ∧
  (∀ p : Nat, p < sN S → M (b + 1) p = sI S p ∧ M (b + 2) p = sB S p ∧ M (b + 3) p = sX S p ∧ M (b + 4) p = sT S p ∧ M (b + 5) p = sD S p ∧ ∀ part : Nat, part < 6 → M (b + 6) ((part : Int) * 150 + p) = sC S part p) ∧
  (∀ l : Nat, 1 ≤ l → l ≤ 40 → M (b + 7) l = sM S l) ∧ (∀ c : Nat, c < 10 → M (b + 8) c = sF S c ∧ M (b + 9) c = sL S c) ∧
  ∀ part : Nat, part < 6 → (sQ S part = 0 ∧ hP h (b + 10) part = 0) ∨ (sQ S part = 1 ∧ repN (sR S part) M h (hP h (b + 10) part))
section REP
variable {S : xSr} {M : xM} {h : xH} {b : Nat}
theorem repC.A (R : repC S M h b) : scA h b := R.1.1
theorem repC.pos (R : repC S M h b) : 0 < b := R.1.2.1
theorem repC.lt (R : repC S M h b) : b + 11 ≤ hn h := R.1.2.2
theorem repC.n (R : repC S M h b) : M b 0 = sN S := R.2.1.1
theorem repC.p (R : repC S M h b) : M b 1 = sP S := R.2.1.2.1
theorem repC.m (R : repC S M h b) : M b 2 = mkN S := R.2.1.2.2
theorem repC.id (R : repC S M h b) {p : Nat} (hp : p < sN S) : M (b + 1) p = sI S p := (R.2.2.1 p hp).1
theorem repC.bt (R : repC S M h b) {p : Nat} (hp : p < sN S) : M (b + 2) p = sB S p := (R.2.2.1 p hp).2.1
theorem repC.x (R : repC S M h b) {p : Nat} (hp : p < sN S) : M (b + 3) p = sX S p := (R.2.2.1 p hp).2.2.1
theorem repC.t (R : repC S M h b) {p : Nat} (hp : p < sN S) : M (b + 4) p = sT S p := (R.2.2.1 p hp).2.2.2.1
theorem repC.d (R : repC S M h b) {p : Nat} (hp : p < sN S) : M (b + 5) p = sD S p := (R.2.2.1 p hp).2.2.2.2.1
theorem repC.c (R : repC S M h b) {p : Nat} (hp : p < sN S) {part : Nat} (h6 : part < 6) : M (b + 6) ((part : Int) * 150 + p) = sC S part p := (R.2.2.1 p hp).2.2.2.2.2 part h6
theorem repC.mk (R : repC S M h b) {l : Nat} (h1 : 1 ≤ l) (h2 : l ≤ 40) : M (b + 7) l = sM S l := R.2.2.2.1 l h1 h2
theorem repC.cf (R : repC S M h b) {c : Nat} (h1 : c < 10) : M (b + 8) c = sF S c := (R.2.2.2.2.1 c h1).1
theorem repC.cl (R : repC S M h b) {c : Nat} (h1 : c < 10) : M (b + 9) c = sL S c := (R.2.2.2.2.1 c h1).2
theorem repC.pr (R : repC S M h b) {part : Nat} (h6 : part < 6) : (sQ S part = 0 ∧ hP h (b + 10) part = 0) ∨ (sQ S part = 1 ∧ repN (sR S part) M h (hP h (b + 10) part)) := R.2.2.2.2.2 part h6
theorem repC.fi (R : repC S M h b) (x : Int) : fi (M (b + 1)) x (sN S) = pl S x := fi_congr (fun q hq => R.id hq)
end REP
/-- how many of the first k bars have a smaller id than the bar on place p -/
def rk (S : xSr) (k : Nat) (p : Int) : Int := cn (fun q => decide (sI S q < sI S p)) k
def srI (S : xSr) (k : Nat) (M : xM) : Prop := ∀ j : Nat, j < k → ∃ p : Nat, p < k ∧ M 35 j = p ∧ rk S k p = j
/-- what the View holds of a score -/
def VR (S : xSr) (M : xM) : Prop := M 16 1 = pN S ∧ (∀ p : Nat, p < sN S → M 29 p = pb S p ∧ M 30 p = lab S p ∧ M 31 p = cov S p ∧ M 32 p = sit S p ∧ M 33 p = lt S p) ∧
  (∀ k : Nat, (k : Int) < pN S → M 28 k = pp S k ∧ M 34 (pp S k) = rsn S k) ∧
  srI S (sN S) M
theorem kr {Φ : xO → xM → xH → Prop} {M : xM} {h : xH} {v w : Int} (k : Φ (.inl (some (xI v))) M h) (e : v = w) : Φ (.inl (some (xI w))) M h := e ▸ k
theorem km {Φ : xO → xM → xH → Prop} {o : xO} {M M' : xM} {h : xH} (k : Φ o M h) (e : ∀ a i, M a i = M' a i) : Φ o M' h := by
  have : M = M' := by
    funext a i
    exact e a i
  exact this ▸ k
theorem h2_k {h h' : xH} (e : h'.2 = h.2) : hK h' = hK h ∧ hL h' = hL h ∧ hn h' = hn h := by
  unfold hK hL hn
  rw [e]
  exact ⟨rfl, rfl, rfl⟩
theorem hP_pw (h : xH) (a : Nat) (i : Int) (r b : Nat) (j : Int) : hP (x_pw h a i r) b j = if b = a ∧ j = i then r else hP h b j := rfl
theorem hK_pw (h : xH) (a : Nat) (i : Int) (r : Nat) : hK (x_pw h a i r) = hK h := rfl
theorem hL_pw (h : xH) (a : Nat) (i : Int) (r : Nat) : hL (x_pw h a i r) = hL h := rfl
theorem hn_pw (h : xH) (a : Nat) (i : Int) (r : Nat) : hn (x_pw h a i r) = hn h := rfl
theorem h2_pw (h : xH) (a : Nat) (i : Int) (r : Nat) : (x_pw h a i r).2 = h.2 := rfl
theorem cp_ne {M : xM} {s d a : Nat} {sp dp n j : Int} (h : a ≠ d) : x_cp M s sp d dp n a j = M a j := if_neg (fun q => h q.1)
theorem w_ne {M : xM} {a b : Nat} {i v j : Int} (h : b ≠ a) : x_w M a i v b j = M b j := if_neg (fun q => h q.1)
theorem w_nj {M : xM} {a b : Nat} {i v j : Int} (h : j ≠ i) : x_w M a i v b j = M b j := if_neg (fun q => h q.2)
theorem w_eq {M : xM} {a : Nat} {i v : Int} : x_w M a i v a i = v := if_pos ⟨rfl, rfl⟩
theorem fl_ne {M : xM} {a b : Nat} {v n j : Int} (h : b ≠ a) : x_fl M a v n b j = M b j := if_neg (fun q => h q.1)
