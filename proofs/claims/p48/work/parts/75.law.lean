/-! the law's loops -/
def lE (b L : Nat) (f : Int → Int) : Nat × Nat × Nat × xSc := (zC zL_law, zS zL_law, x_rtc (zR zL_law), (b, (L : Int), f))
theorem lE_1 (b L : Nat) (f : Int → Int) : (lE b L f).1 = 600086 := rfl
theorem lE_2 (b L : Nat) (f : Int → Int) : (lE b L f).2.1 = 7301442 := rfl
theorem lE_3 (b L : Nat) (f : Int → Int) : (lE b L f).2.2.1 = 2 := rfl
theorem lE_4 (b L : Nat) (f : Int → Int) : (lE b L f).2.2.2.1 = b := rfl
theorem lE_5 (b L : Nat) (f : Int → Int) : (lE b L f).2.2.2.2.1 = (L : Int) := rfl
theorem lE_6 (b L : Nat) (f : Int → Int) (x : Int) : (lE b L f).2.2.2.2.2 x = f x := rfl
/-- how the law ends: with 1 -/
def LPh : xO → xM → xH → Prop := fun o _ _ => o = .inl (some (xI 1))
theorem x_cmp_r (u : Int) : x_cmp u u = 0 := by
  unfold x_cmp
  rw [if_neg (by omega), if_pos rfl]
/-- what holds at the cut points -/
def LIv (b : Nat) : xIv := fun t m ls st M h c n => ∃ (A : xAb) (q : Nat), st = [] ∧ CW A M h ∧ q ≤ 4 ∧ aN A = 0 ∧ ls 0 = some (xE b) ∧ ls 1 = some (xA 1) ∧ ls 2 = some (xA 41) ∧ ls 3 = some (xI 1) ∧ ls 4 = some (xI q) ∧
  ((t = 34 ∧ m = 10000 * (10 - q) ∧ c ≤ 100 + 129801 * q ∧ n ≤ 20000 + 1199606 * q) ∨
   (q < 4 ∧ gdS (aS A) ∧ ∃ (u : Nat) (nw : Int), nw < aI A ∧ ls 6 = some (xI nw) ∧ ls 7 = some (xI u) ∧
    ((t = 117 ∧ u ≤ 14 ∧ m + 100 * (u + 1) = 10000 * (10 - q) ∧ sN (aS A) ≤ 22 + 3 * u ∧ aI A ≤ 22 + 4 * u ∧ c ≤ 401 + 129801 * q + 9250 * u ∧ n ≤ 330606 + 1199606 * q + 63500 * u) ∨
     (t = 253 ∧ u < 14 ∧ m + 100 * (u + 1) + 5 = 10000 * (10 - q) ∧ sN (aS A) ≤ 25 + 3 * u ∧ aI A ≤ 25 + 4 * u ∧ c ≤ 2420 + 129801 * q + 9250 * u ∧ n ≤ 345104 + 1199606 * q + 63500 * u) ∨
     (t = 273 ∧ u < 14 ∧ ∃ p : Nat, p ≤ 3 ∧ ls 12 = some (xI p) ∧ m + 100 * (u + 1) + 10 + p = 10000 * (10 - q) ∧ sN (aS A) ≤ 25 + 3 * u ∧ aI A ≤ 25 + 4 * u ∧ c ≤ 3520 + 129801 * q + 9250 * u + 2020 * p ∧ n ≤ 351704 + 1199606 * q + 63500 * u + 12120 * p) ∨
     (t = 386 ∧ u < 14 ∧ m + 100 * (u + 1) + 20 = 10000 * (10 - q) ∧ sN (aS A) ≤ 25 + 3 * u ∧ aI A ≤ 26 + 4 * u ∧ c ≤ 9606 + 129801 * q + 9250 * u ∧ n ≤ 391548 + 1199606 * q + 63500 * u))))
section LAWL
variable {A : xAb} {M M' : xM} {h h' : xH} {S : xSr} {nid : Int}
set_option maxHeartbeats 4000000
/-- after a print no erratum is left, and the items stay -/
theorem pr_er (w : wfS S nid) {part : Nat} (hp : part < sP S) : anItems (prS S part) part = .inl (itN S part) ∧ anErrata (prS S part) nid part = .inl 0 := by
  have h6 : part < 6 := by have := w.P; omega
  have hp2 : 0 ≤ (part : Int) ∧ (part : Int) < (sP (prS S part) : Int) := ⟨by omega, by show (part : Int) < (sP S : Int); omega⟩
  refine ⟨by unfold anItems anPt; rw [if_pos hp2]; unfold itN; rw [stt_pr]; rfl, ?_⟩
  have hq : sQ (prS S part) part = 1 := if_pos rfl
  have hr : sR (prS S part) part = ntS S part := if_pos rfl
  unfold anErrata anPt
  rw [if_pos hp2, if_pos hq, hr]
  have key : ∀ q : Nat, q < nid.toNat → kdB (prS S part) part (ntS S part) q = (fun _ => false) (q : Int) := fun q _ => by
    have e : kd (prS S part) part (ntS S part) q = 0 := by
      have e1 : pl (prS S part) q = pl S q := rfl
      have e2 : ∀ j, isP (prS S part) j = isP S j := fun _ => rfl
      have e3 : ∀ j, lab (prS S part) j = lab S j := fun _ => rfl
      have e4 : ∀ j, lt (prS S part) j = lt S j := fun j => by rw [← vk_lt (S := prS S part), show vk (prS S part) = vk S from rfl, vk_lt]
      have e5 : ∀ j, sB (prS S part) j = sB S j := fun _ => rfl
      have e6 : ∀ k j, sC (prS S part) k j = sC S k j := fun _ _ => rfl
      unfold kd ntS
      rw [e1, e2, e3, e4, e5, e6]
      by_cases hc : pl S q ≠ -1 ∧ isP S (pl S q) = true
      · obtain ⟨p, p1, p2, p3⟩ := pl_some hc.1
        have hb := w.b p1
        have hc2 := w.c p1 h6
        have hl := lt_rng (S := S) (n := sN S) (p := pl S q)
        change 0 ≤ lt S (pl S q) ∧ lt S (pl S q) ≤ 40 at hl
        have hlab := lab_rng p1 w
        have hlt : (pl S q).toNat = p := by omega
        rw [if_pos hc, hlt]
        rw [p2] at hl ⊢
        have d1 := pk4_d (l := lab S p) hl hb hc2
        have d2 := pk4_p (l := lab S p) (by omega) hl hb hc2
        rw [d1.1, d1.2.1, d1.2.2.1, d1.2.2.2, if_neg (by omega), if_neg (fun hn => hn (by rw [p2] at hc; exact hc)), if_neg (fun hn => hn rfl), if_neg (fun hn => hn rfl), if_neg (fun hn => hn rfl), if_neg (fun hn => hn rfl)]
      · rw [if_neg hc, if_pos rfl, if_neg hc]
    unfold kdB
    rw [e]
    rfl
  show (Sum.inl (cn (kdB (prS S part) part (ntS S part)) nid.toNat) : xAn) = _
  rw [cn_congr (Q := fun _ => false) key, cn_nof]
/-- a bar put in at the head, and taken out again -/
theorem hd_ins (w : wfS (aS A) (aI A)) (G : gdS (aS A)) (hN : sN (aS A) ≤ 100) (h0 : 0 ≤ aI A) : dIns A (-1) 1 4 = (.inl (aI A), aKeep A (insS (aS A) 0 1 (aI A) 4) (aI A + 1)) := by
  unfold dIns
  rw [if_neg (fun e => e.1 rfl), if_neg (fun e => e ⟨by decide, by decide, by decide, by decide⟩), if_neg (by omega), if_pos rfl]
  rfl
theorem hd_at (S : xSr) (id : Int) : sI (insS S 0 1 id 4) 0 = id ∧ sX (insS S 0 1 id 4) 0 = 1 ∧ lab (insS S 0 1 id 4) 0 = 1 := by
  have e1 : sI (insS S 0 1 id 4) 0 = id := by
    show (if (0 : Int) < 0 then sI S 0 else if (0 : Int) < 0 + (1 : Nat) then id + (0 - 0) else sI S (0 - (1 : Nat))) = id
    rw [if_neg (by decide), if_pos (by decide)]
    omega
  have e2 : sX (insS S 0 1 id 4) 0 = 1 := by
    show (if (0 : Int) < 0 then sX S 0 else if (0 : Int) < 0 + (1 : Nat) then (1 : Int) else sX S (0 - (1 : Nat))) = 1
    rw [if_neg (by decide), if_pos (by decide)]
  refine ⟨e1, e2, ?_⟩
  have h2 := sfx_s (sX (insS S 0 1 id 4)) 0
  have h3 := cn_s (P := isI (sX (insS S 0 1 id 4))) 0
  have e : sfx (sX (insS S 0 1 id 4)) 0 = 0 := rfl
  have e3 : sX (insS S 0 1 id 4) ((0 : Nat) : Int) = 1 := e2
  rw [cn_z, if_neg (by unfold isI; rw [e3]; decide)] at h3
  rw [e, e3, if_neg (by decide)] at h2
  unfold lab
  omega
theorem hd_er {A1 : xAb} {S : xSr} {id : Int} (w : wfS S id) (w1 : wfS (insS S 0 1 id 4) (id + 1)) (e : aS A1 = insS S 0 1 id 4) : dEr A1 id = (.inl ((sN S : Nat) : Int), aKeep A1 (delS (insS S 0 1 id 4) 0) (aI A1)) := by
  obtain ⟨a1, a2, a3⟩ := hd_at S id
  have hn1 : sN (insS S 0 1 id 4) = sN S + 1 := rfl
  have hpl : pl (insS S 0 1 id 4) id = 0 := by
    have := pl_at w1 (p := 0) (by rw [hn1]; omega)
    rw [show ((0 : Nat) : Int) = 0 from rfl, a1] at this
    exact this
  have hs : sit (insS S 0 1 id 4) 0 = 0 := (sit_0 w1 (p := 0) (by rw [hn1]; omega)).mpr (fun l h1 h2 h3 => by
    rw [show ((0 : Nat) : Int) = 0 from rfl, a1] at h3
    have h4 : sM S l = id := h3
    have h5 := w1.id (p := 0) (by rw [hn1]; omega)
    rw [show ((0 : Nat) : Int) = 0 from rfl, a1] at h5
    rcases w.mk h1 h2 with h | ⟨p, p1, p2⟩
    · omega
    · have := w.id p1
      omega)
  have hc : cn (endC (insS S 0 1 id 4) id) 10 = 0 := by
    rw [cn_congr (Q := fun _ => false) (fun c hc => ?_), cn_nof]
    show (sF S c != -1 && (sF S c == id || sL S c == id)) = false
    rcases w.cut hc with h | ⟨p, q, p1, p2, p3, p4⟩
    · rw [h]; rfl
    · have h1 := w.id (p := p) (by omega)
      have h2 := w.id p2
      have n1 : ¬ (sF S c = id) := by omega
      have n2 : ¬ (sL S c = id) := by omega
      simp [n1, n2]
  unfold dEr
  rw [e, hpl, if_neg (by decide), if_neg (by rw [a2, hs, hc]; decide), hn1]
  have : (((sN S + 1 : Nat) : Int) - 1) = (sN S : Nat) := by omega
  rw [this]
  rfl
theorem hd_gd {S : xSr} {id : Int} (G : gdS S) : gdS (delS (insS S 0 1 id 4) 0) ∧ sN (delS (insS S 0 1 id 4) 0) = sN S := by
  obtain ⟨p3, p, p1, p2⟩ := G
  refine ⟨⟨p3, p, p1, ?_⟩, rfl⟩
  show dl 0 (shf 0 ((1 : Nat) : Int) (sX S) (fun _ => 1)) (p : Int) = 0
  unfold dl shf
  rw [if_neg (by omega), if_neg (by omega), if_neg (by omega), show (p : Int) + 1 - ((1 : Nat) : Int) = p by omega]
  exact p2
theorem un_at {S : xSr} {nid : Int} : dUndo (aKeep A S nid) = (.inl ((min (aH A + 1) 10 - 1 : Nat) : Int), (aS A, nid, min (aH A + 1) 10 - 1, (fun j => aG (aKeep A S nid) (j + 1)), aN A, aB A, aE A, aP A, aO A)) := by
  have h : ¬ (aH (aKeep A S nid) = 0) := by show ¬ (min (aH A + 1) 10 = 0); omega
  unfold dUndo
  rw [if_neg h]
  rfl
end LAWL
