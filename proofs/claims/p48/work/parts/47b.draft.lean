/-! the draft -/
section DRF
variable {M : xM} {h : xH} {Φ : xO → xM → xH → Prop} {S : xSr} {nid : Int}
set_option maxHeartbeats 1000000
theorem rC_cutS3 {c : Nat} {f l : Int} (R : repC S M h 3) : repC (cutS S c f l) (x_w (x_w M 11 c f) 12 c l) h 3 := by
  obtain ⟨a1, b1, c1, d1, e1, f1⟩ := R
  refine ⟨a1, ⟨?_, ?_, ?_⟩, fun p hp => ?_, fun l h1 h2 => ?_, fun k h1 => ⟨?_, ?_⟩, fun part h6 => ?_⟩
  · rw [w_ne (by omega), w_ne (by omega)]
    exact b1.1
  · rw [w_ne (by omega), w_ne (by omega)]
    exact b1.2.1
  · rw [w_ne (by omega), w_ne (by omega)]
    exact b1.2.2
  · rw [w_ne (by omega), w_ne (by omega), w_ne (by omega), w_ne (by omega), w_ne (by omega), w_ne (by omega), w_ne (by omega), w_ne (by omega), w_ne (by omega), w_ne (by omega)]
    obtain ⟨g1, g2, g3, g4, g5, g6⟩ := c1 p hp
    exact ⟨g1, g2, g3, g4, g5, fun part h6 => by rw [w_ne (by omega), w_ne (by omega)]; exact g6 part h6⟩
  · rw [w_ne (by omega), w_ne (by omega)]
    exact d1 l h1 h2
  · rw [w_ne (by omega)]
    show x_w M 11 c f 11 k = up c f (sF S) k
    by_cases hk : k = c
    · subst hk
      rw [w_eq, up_1]
    · rw [w_nj (by omega), up_2 (by omega)]
      exact (e1 k h1).1
  · show x_w (x_w M 11 c f) 12 c l 12 k = up c l (sL S) k
    by_cases hk : k = c
    · subst hk
      rw [w_eq, up_1]
    · rw [w_nj (by omega), w_ne (by omega), up_2 (by omega)]
      exact (e1 k h1).2
  · rcases f1 part h6 with z | ⟨z1, z2⟩
    · exact Or.inl z
    · exact Or.inr ⟨z1, z2.frame (fun a j ha => by rw [w_ne (by omega), w_ne (by omega)])⟩
theorem rC_markS3 {l : Nat} {x : Int} (R : repC S M h 3) (h1 : 1 ≤ l) (h2 : l ≤ 40) : repC (markS S l x) (x_w (x_w M 10 l x) 3 2 (mkN S + (b01 (x ≠ -1) - b01 (sM S l ≠ -1)))) h 3 := by
  obtain ⟨a1, b1, c1, d1, e1, f1⟩ := R
  refine ⟨a1, ⟨?_, ?_, ?_⟩, fun p hp => ?_, fun k h3 h4 => ?_, fun k h1 => ?_, fun part h6 => ?_⟩
  · rw [w_nj (by omega), w_ne (by omega)]
    exact b1.1
  · rw [w_nj (by omega), w_ne (by omega)]
    exact b1.2.1
  · rw [w_eq]
    exact (mkN_up h1 h2).symm
  · rw [w_ne (by omega), w_ne (by omega), w_ne (by omega), w_ne (by omega), w_ne (by omega), w_ne (by omega), w_ne (by omega), w_ne (by omega), w_ne (by omega), w_ne (by omega)]
    obtain ⟨g1, g2, g3, g4, g5, g6⟩ := c1 p hp
    exact ⟨g1, g2, g3, g4, g5, fun part h6 => by rw [w_ne (by omega), w_ne (by omega)]; exact g6 part h6⟩
  · rw [w_ne (by omega)]
    show x_w M 10 l x 10 k = up l x (sM S) k
    by_cases hk : k = l
    · subst hk
      rw [w_eq, up_1]
    · rw [w_nj (by omega), up_2 (by omega)]
      exact d1 k h3 h4
  · rw [w_ne (by omega), w_ne (by omega), w_ne (by omega), w_ne (by omega)]
    exact e1 k h1
  · rcases f1 part h6 with z | ⟨z1, z2⟩
    · exact Or.inl z
    · exact Or.inr ⟨z1, z2.frame (fun a j ha => by rw [w_ne (by omega), w_ne (by omega)])⟩
theorem rC_barS3 {p : Nat} {v : Int} (R : repC S M h 3) {w : Int} {a : Nat} (ha : (w = 2 ∧ a = 5) ∨ (w = 4 ∧ a = 7) ∨ (w = 5 ∧ a = 8)) : repC (barS S w p v) (x_w M a p v) h 3 := by
  obtain ⟨a1, b1, c1, d1, e1, f1⟩ := R
  refine ⟨a1, ⟨?_, ?_, ?_⟩, fun q hq => ?_, fun l h1 h2 => ?_, fun k h1 => ?_, fun part h6 => ?_⟩
  · rw [w_ne (by omega)]
    exact b1.1
  · rw [w_ne (by omega)]
    exact b1.2.1
  · rw [w_ne (by omega)]
    exact b1.2.2
  · obtain ⟨g1, g2, g3, g4, g5, g6⟩ := c1 q hq
    show x_w M a p v 4 q = sI S q ∧ x_w M a p v 5 q = (if w = 2 then up p v (sB S) else sB S) q ∧ x_w M a p v 6 q = sX S q ∧ x_w M a p v 7 q = (if w = 4 then up p v (sT S) else sT S) q ∧ x_w M a p v 8 q = (if w = 5 then up p v (sD S) else sD S) q ∧ _
    have hup : ∀ (b : Nat) (g : Int → Int), M b q = g q → x_w M b p v b q = up p v g q := fun b g hg => by
      by_cases hqp : q = p
      · subst hqp
        rw [w_eq, up_1]
      · rw [w_nj (by omega), up_2 (by omega), hg]
    rcases ha with ⟨rfl, rfl⟩ | ⟨rfl, rfl⟩ | ⟨rfl, rfl⟩
    · exact ⟨by rw [w_ne (by omega)]; exact g1, hup 5 _ g2, by rw [w_ne (by omega)]; exact g3, by rw [w_ne (by omega)]; exact g4, by rw [w_ne (by omega)]; exact g5, fun part h6 => by rw [w_ne (by omega)]; exact g6 part h6⟩
    · exact ⟨by rw [w_ne (by omega)]; exact g1, by rw [w_ne (by omega)]; exact g2, by rw [w_ne (by omega)]; exact g3, hup 7 _ g4, by rw [w_ne (by omega)]; exact g5, fun part h6 => by rw [w_ne (by omega)]; exact g6 part h6⟩
    · exact ⟨by rw [w_ne (by omega)]; exact g1, by rw [w_ne (by omega)]; exact g2, by rw [w_ne (by omega)]; exact g3, by rw [w_ne (by omega)]; exact g4, hup 8 _ g5, fun part h6 => by rw [w_ne (by omega)]; exact g6 part h6⟩
  · rw [w_ne (by omega)]
    exact d1 l h1 h2
  · rw [w_ne (by omega), w_ne (by omega)]
    exact e1 k h1
  · rcases f1 part h6 with z | ⟨z1, z2⟩
    · exact Or.inl z
    · exact Or.inr ⟨z1, z2.frame (fun a j ha => by rw [w_ne (by omega)])⟩
theorem rC_contS3 {part p : Nat} {v : Int} (R : repC S M h 3) (h6 : part < 6) (hN : sN S ≤ 150) (hp : p < 150) : repC (contS S part p v) (x_w M 9 ((part : Int) * 150 + p) v) h 3 := by
  obtain ⟨a1, b1, c1, d1, e1, f1⟩ := R
  refine ⟨a1, ⟨?_, ?_, ?_⟩, fun q hq => ?_, fun l h1 h2 => ?_, fun k h1 => ?_, fun part h6 => ?_⟩
  · rw [w_ne (by omega)]
    exact b1.1
  · rw [w_ne (by omega)]
    exact b1.2.1
  · rw [w_ne (by omega)]
    exact b1.2.2
  · obtain ⟨g1, g2, g3, g4, g5, g6⟩ := c1 q hq
    replace hq : q < sN S := hq
    refine ⟨by rw [w_ne (by omega)]; exact g1, by rw [w_ne (by omega)]; exact g2, by rw [w_ne (by omega)]; exact g3, by rw [w_ne (by omega)]; exact g4, by rw [w_ne (by omega)]; exact g5, fun k h6 => ?_⟩
    show x_w M 9 ((part : Int) * 150 + p) v 9 ((k : Int) * 150 + q) = (if (k : Int) = part then up p v (sC S k) else sC S k) q
    by_cases hk : (k : Int) = part
    · rw [if_pos hk]
      by_cases hqp : q = p
      · rw [hk, hqp, w_eq, up_1]
      · rw [w_nj (by omega), up_2 (by omega)]
        exact g6 k h6
    · rw [if_neg hk, w_nj (by omega)]
      exact g6 k h6
  · rw [w_ne (by omega)]
    exact d1 l h1 h2
  · rw [w_ne (by omega), w_ne (by omega)]
    exact e1 k h1
  · rcases f1 part h6 with z | ⟨z1, z2⟩
    · exact Or.inl z
    · exact Or.inr ⟨z1, z2.frame (fun a j ha => by rw [w_ne (by omega)])⟩
theorem ad3_a {N c a p : Nat} {first beats : Int} (h1 : 4 ≤ a) (h2 : a ≤ 8) (hp : p < N + c) : adM (mvM M 3 N (N + c) ((N - N : Nat) : Int)) 3 N c first beats 0 a p = if p < N then M a p else adV 3 N first beats 0 a p := by
  unfold adM mvM
  by_cases h3 : p < N
  · rw [if_neg (by omega), if_neg (by omega), if_neg (by omega), if_neg (by omega), if_pos h3]
  · rw [if_pos (by omega), if_neg (by omega)]
theorem ad3_c {N c p part : Nat} {first beats : Int} (h6 : part < 6) (hN : N + c ≤ 150) (hp : p < N + c) : adM (mvM M 3 N (N + c) ((N - N : Nat) : Int)) 3 N c first beats 0 9 ((part : Int) * 150 + p) = if p < N then M 9 ((part : Int) * 150 + p) else 0 := by
  unfold adM mvM
  rw [if_neg (by omega)]
  by_cases h3 : p < N
  · rw [if_neg (by omega), if_neg (by omega), if_neg (by omega), if_pos h3]
  · rw [if_pos (by omega), if_neg (by omega)]
theorem ad3_o {N c a : Nat} {d j first beats : Int} (h : a < 4 ∨ 9 < a) : adM (mvM M 3 N (N + c) d) 3 N c first beats 0 a j = M a j := by
  unfold adM mvM
  rw [if_neg (by omega), if_neg (by omega), if_neg (by omega), if_neg (by omega)]
theorem rg_e {N p : Nat} {g g' : Int → Int} {v : Int} (h : p < N → g p = g' p) : (if p < N then g p else v) = rg N g' v p := by
  unfold rg
  by_cases hp : p < N
  · rw [if_pos hp, if_pos (by omega), h hp]
  · rw [if_neg hp, if_neg (by omega)]
theorem rC_add3 {c : Nat} {beats : Int} (R : repC S M h 3) (hI : ∀ p : Nat, sI S p = p) (hc : sN S + c ≤ 150) : repC (addS S c beats) (x_w (adM (mvM M 3 (sN S) (sN S + c) ((sN S - sN S : Nat) : Int)) 3 (sN S) c (sN S) beats 0) 3 0 (sN S + c)) h 3 := by
  obtain ⟨a1, ⟨b1, b2, b3⟩, c1, d1, e1, f1⟩ := R
  refine ⟨a1, ⟨?_, ?_, ?_⟩, fun p hp => ?_, fun l h1 h2 => ?_, fun c h1 => ?_, fun part h6 => ?_⟩
  · rw [w_eq]
    show _ = ((sN S + c : Nat) : Int)
    omega
  · rw [w_nj (by decide), ad3_o (by omega)]
    exact b2
  · rw [w_nj (by decide), ad3_o (by omega)]
    exact b3
  · replace hp : p < sN S + c := hp
    rw [w_ne (by omega), w_ne (by omega), w_ne (by omega), w_ne (by omega), w_ne (by omega), ad3_a (by omega) (by omega) hp, ad3_a (by omega) (by omega) hp, ad3_a (by omega) (by omega) hp, ad3_a (by omega) (by omega) hp, ad3_a (by omega) (by omega) hp]
    refine ⟨?_, ?_, ?_, ?_, ?_, fun part h6 => ?_⟩
    · by_cases h3 : p < sN S
      · rw [if_pos h3]
        exact (c1 p h3).1.trans (hI p)
      · rw [if_neg h3]
        show (sN S : Int) + (p - sN S) = p
        omega
    · exact rg_e (fun q => (c1 p q).2.1)
    · exact rg_e (fun q => (c1 p q).2.2.1)
    · exact rg_e (fun q => (c1 p q).2.2.2.1)
    · exact rg_e (fun q => (c1 p q).2.2.2.2.1)
    · rw [w_ne (by omega)]
      exact (ad3_c h6 hc hp).trans (rg_e (g := fun j => M 9 ((part : Int) * 150 + j)) (fun q => (c1 p q).2.2.2.2.2 part h6))
  · rw [w_ne (by omega), ad3_o (by omega)]
    exact d1 l h1 h2
  · rw [w_ne (by omega), w_ne (by omega), ad3_o (by omega), ad3_o (by omega)]
    exact e1 c h1
  · rcases f1 part h6 with z | ⟨z1, z2⟩
    · exact Or.inl z
    · refine Or.inr ⟨z1, z2.frame (fun a j ha => ?_)⟩
      rw [w_ne (by omega), ad3_o (by omega)]
theorem wfS_addS {c : Nat} {b : Int} (w : wfS S (sN S : Nat)) (hI : ∀ p : Nat, sI S p = p) (hc : sN S + c ≤ 150) (hb : 1 ≤ b ∧ b ≤ 12) : wfS (addS S c b) ((sN S + c : Nat) : Int) := by
  have hrg : ∀ (g : Int → Int) (v : Int) (P : Int → Prop) (p : Nat), (p < sN S → P (g p)) → P v → P (rg (sN S) g v p) := fun g v P p h1 h2 => by
    unfold rg
    by_cases hp : p < sN S
    · rw [if_pos (by omega)]
      exact h1 hp
    · rw [if_neg (by omega)]
      exact h2
  refine ⟨⟨hc, w.P⟩, fun p hp => ⟨?_, ?_, ?_, ?_, ?_, fun part h6 => ?_⟩, fun p q _ _ he => ?_, fun l h1 h2 => ?_, w.2.2.2.2.1, w.m20, fun c h1 => ?_, w.2.2.2.2.2.2.2.1, fun part h6 id => ?_, w.2.2.2.2.2.2.2.2.2⟩
  · replace hp : p < sN S + c := hp
    show 0 ≤ (p : Int) ∧ (p : Int) < _
    omega
  · exact hrg _ _ (fun v => 1 ≤ v ∧ v ≤ 12) p (fun h => w.b h) hb
  · exact hrg _ _ (fun v => v = 0 ∨ v = 1) p (fun h => w.x h) (Or.inl rfl)
  · exact hrg _ _ (fun v => v = 0 ∨ v = 1) p (fun h => w.t h) (Or.inl rfl)
  · exact hrg _ _ (fun v => v = 0 ∨ v = 1) p (fun h => w.d h) (Or.inl rfl)
  · exact hrg _ _ (fun v => 0 ≤ v ∧ v ≤ 2) p (fun h => w.c h h6) (by decide)
  · have he : (p : Int) = q := he
    omega
  · rcases w.mk h1 h2 with z | ⟨p, p1, p2⟩
    · exact Or.inl z
    · exact Or.inr ⟨p, by show p < sN S + _; omega, (hI p).symm.trans p2⟩
  · rcases w.cut h1 with z | ⟨p, q, p1, p2, p3, p4⟩
    · exact Or.inl z
    · exact Or.inr ⟨p, q, p1, by show q < sN S + _; omega, (hI p).symm.trans p3, (hI q).symm.trans p4⟩
  · rcases w.r h6 id with z | ⟨z1, z2⟩
    · exact Or.inl z
    · exact Or.inr ⟨by omega, z2⟩
theorem wfS_conR {part a c v : Int} (W : wfS S nid) (ok : 0 ≤ v ∧ v ≤ 2) : wfS (conR S part a c v) nid := by
  refine ⟨W.1, fun q hq => ?_, W.2.2⟩
  obtain ⟨g1, g2, g3, g4, g5, g6⟩ := W.2.1 q hq
  refine ⟨g1, g2, g3, g4, g5, fun k h6 => ?_⟩
  show 0 ≤ (if (k : Int) = part ∧ a ≤ q ∧ (q : Int) < a + c then v else sC S k q) ∧ (if (k : Int) = part ∧ a ≤ q ∧ (q : Int) < a + c then v else sC S k q) ≤ 2
  split
  · exact ok
  · exact g6 k h6
theorem wfS_parS (W : wfS S nid) (h : sP S < 6) : wfS (parS S) nid := ⟨⟨W.N, h⟩, W.2⟩
theorem conR_0 {part a v : Int} : conR S part a 0 v = S := by
  unfold conR
  have : (fun k p => if k = part ∧ a ≤ p ∧ p < a + 0 then v else sC S k p) = sC S := by
    funext k p
    exact if_neg (by omega)
  rw [this]
  rfl
theorem conR_s {part a v : Int} (k : Nat) : contS (conR S part a k v) part (a + k) v = conR S part a ((k + 1 : Nat) : Int) v := by
  have : (fun q => if q = part then up (a + k) v (sC (conR S part a k v) q) else sC (conR S part a k v) q) = sC (conR S part a ((k + 1 : Nat) : Int) v) := by
    funext q p
    show (if q = part then up (a + k) v (fun p => if q = part ∧ a ≤ p ∧ p < a + k then v else sC S q p) else (fun p => if q = part ∧ a ≤ p ∧ p < a + k then v else sC S q p)) p = if q = part ∧ a ≤ p ∧ p < a + ((k + 1 : Nat) : Int) then v else sC S q p
    by_cases hq : q = part
    · rw [if_pos hq]
      by_cases hp : p = a + k
      · rw [hp, up_1, if_pos (by omega)]
      · rw [up_2 hp]
        by_cases h2 : a ≤ p ∧ p < a + k
        · rw [if_pos ⟨hq, h2⟩, if_pos (by omega)]
        · rw [if_neg (fun z => h2 z.2), if_neg (by omega)]
    · rw [if_neg hq, if_neg (fun z => hq z.1), if_neg (fun z => hq z.1)]
  unfold contS
  rw [this]
  rfl
variable {R : xRd} {x : Nat} {l : Bool}
theorem wfR_add {c : Nat} {b : Int} (W : wfR R) (hc : sN (rS R) + c ≤ 150) (hb : 1 ≤ b ∧ b ≤ 12) : wfR (x, l, addS (rS R) c b, rM R, rC R, rN R) :=
  ⟨wfS_addS W.1 W.2.1 hc hb, fun _ => rfl, W.2.2.1, W.2.2.2.1, W.2.2.2.2.1, fun p => by
    show rg (sN (rS R)) (sX (rS R)) 0 p = 0
    unfold rg
    split
    · exact W.2.2.2.2.2 p
    · rfl⟩
theorem wfR_bar {w p : Int} (W : wfR R) (ok : okSet w 1) : wfR (x, l, barS (rS R) w p 1, rM R, rC R, rN R) :=
  ⟨wfS.barS W.1 ok, W.2⟩
theorem wfR_con {part a c v : Int} (W : wfR R) (ok : 0 ≤ v ∧ v ≤ 2) {nm : Int → Int} : wfR (x, l, conR (rS R) part a c v, rM R, rC R, nm) :=
  ⟨wfS_conR W.1 ok, W.2⟩
theorem wfR_par (W : wfR R) (h : sP (rS R) < 6) : wfR (x, l, parS (rS R), rM R, rC R, rN R) :=
  ⟨wfS_parS W.1 h, W.2⟩
theorem wfR_cut {f e : Int} (W : wfR R) (h : rC R < 10) (h1 : 0 ≤ f ∧ f ≤ e ∧ e < sN (rS R)) : wfR (x, l, cutS (rS R) (rC R) f e, rM R, rC R + 1, rN R) :=
  ⟨wfS.cutS W.1 (Or.inr ⟨f.toNat, e.toNat, by omega, by omega, by rw [W.2.1]; omega, by rw [W.2.1]; omega⟩), W.2.1, W.2.2.1, ⟨h, fun c h2 h3 => by
    show up (rC R) f (sF (rS R)) c = -1
    have h2 : rC R + 1 ≤ c := h2
    rw [up_2 (by omega)]
    exact W.2.2.2.1.2 c (by omega) h3⟩, W.2.2.2.2⟩
theorem cn_0 {P : Int → Bool} {n : Nat} (h : cn P n = 0) {q : Nat} (hq : q < n) : P q = false := by
  cases hp : P q with
  | false => rfl
  | true =>
    have h1 := cn_lt hq hp
    have h2 := cn_rng (P := P) (n := q)
    omega
theorem wfR_mark {v : Int} (W : wfR R) (h : rM R < 20) (h1 : 0 ≤ v ∧ v < sN (rS R)) (h2 : cn (fun l => sM (rS R) (l + 1) == v) (rM R) = 0) : wfR (x, l, markS (rS R) ((rM R + 1 : Nat) : Int) v, rM R + 1, rC R, rN R) := by
  obtain ⟨m1, m2, m3⟩ := W.2.2.1
  have e1 : sM (rS R) ((rM R + 1 : Nat) : Int) = -1 := m3 _ (by omega) (by omega)
  refine ⟨wfS.markS W.1 (by omega) (by omega) (fun _ => Or.inl (by omega)) (Or.inr ⟨v.toNat, by omega, by rw [W.2.1]; omega⟩) (fun k k1 k2 k3 _ e => ?_), W.2.1, ⟨?_, h, fun q q1 q2 => ?_⟩, W.2.2.2⟩
  · by_cases hk : k ≤ rM R
    · have h3 := cn_0 h2 (q := k - 1) (by omega)
      have e2 : sM (rS R) (((k - 1 : Nat) : Int) + 1) = v := by
        rw [show ((k - 1 : Nat) : Int) + 1 = k by omega]
        exact e
      simp only [e2, beq_self_eq_true] at h3
      exact absurd h3 (by decide)
    · rw [m3 k (by omega) k2] at e
      omega
  · have e2 := mkN_up (S := rS R) (l := rM R + 1) (x := v) (by omega) (by omega)
    rw [e1, b01_t (p := v ≠ -1) (by omega), b01_f (by omega), m1] at e2
    show mkN (markS (rS R) ((rM R + 1 : Nat) : Int) v) = ((rM R + 1 : Nat) : Int)
    omega
  · have q1 : rM R + 1 < q := q1
    show up ((rM R + 1 : Nat) : Int) v (sM (rS R)) q = -1
    rw [up_2 (by omega)]
    exact m3 q (by omega) q2
end DRF
