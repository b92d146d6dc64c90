/-! the drawn score's text -/
/-- what stands while the text is made: all below hn h but row 41's one number -/
def grF (M : xM) (h : xH) (M' : xM) (h' : xH) : Prop := hn h ≤ hn h' ∧ ∀ a, a < hn h → (a ≠ 41 → ∀ j, M' a j = M a j) ∧ hK h' a = hK h a ∧ hL h' a = hL h a ∧ ∀ j, hP h' a j = hP h a j
/-- the builder b, made since, holds L -/
def BI (L : List Int) (M : xM) (h : xH) (M' : xM) (h' : xH) (b : Nat) : Prop := sbR L M' h' b ∧ grF M h M' h' ∧ 42 ≤ hn h ∧ hn h ≤ b ∧ hn h ≤ hP h' b 0 ∧ hK h 41 = 20 ∧ hL h 41 = 1
theorem remv {v k : Int} (h1 : 0 ≤ v) (h2 : v < 8388608) (hk : 0 < k ∧ k < 2147483648) : ∃ d, x_rem v k = d ∧ 0 ≤ d ∧ d < k :=
  ⟨v % k, x_rem_of ⟨⟨h1, by omega⟩, hk⟩, Int.emod_nonneg v (by omega), Int.emod_lt_of_pos v hk.1⟩
section SCO
variable {M M' : xM} {h h' : xH} {Φ : xO → xM → xH → Prop} {L : List Int} {b : Nat}
set_option maxHeartbeats 2000000
theorem sbR.y (R : sbR L M h b) (h1 : b ≠ 41) (h2 : hP h b 0 ≠ 41) (y : Int) : sbR L (x_w M 41 0 y) h b := by
  obtain ⟨r1, ⟨r3, r4⟩, r5, r7, r8, r9⟩ := R
  exact ⟨r1, ⟨by rw [w_ne h1]; exact r3, by rw [w_ne h1]; exact r4⟩, r5, fun i hi => by rw [w_ne h2]; exact r7 i hi, fun j j1 j2 => by rw [w_ne h2]; exact r8 j j1 j2, r9⟩
theorem grF.y (G : grF M h M' h') (y : Int) : grF M h (x_w M' 41 0 y) h' := ⟨G.1, fun a ha => ⟨fun h41 j => (w_ne h41).trans ((G.2 a ha).1 h41 j), (G.2 a ha).2⟩⟩
theorem BI.y (I : BI L M h M' h' b) (y : Int) : BI L M h (x_w M' 41 0 y) h' b := by
  obtain ⟨R, G, n, b1, b2, k⟩ := I
  exact ⟨R.y (by omega) (by omega) y, G.y y, n, b1, b2, k⟩
theorem BI.put {L2 : List Int} {M2 : xM} {h2 : xH} (I : BI L M h M' h' b) (R2 : sbR L2 M2 h2 b) (F : sbF b M' h' M2 h2) : BI L2 M h M2 h2 b := by
  obtain ⟨R, ⟨g1, g2⟩, n, b1, b2, k⟩ := I
  obtain ⟨f1, f2, f3, f4, f5⟩ := F
  refine ⟨R2, ⟨by omega, fun a ha => ?_⟩, n, b1, by rcases f5 with f5 | f5 <;> omega, k⟩
  obtain ⟨e1, e2, e3, e4⟩ := g2 a ha
  refine ⟨fun h41 j => ?_, ?_, ?_, fun j => ?_⟩
  · rw [f2 a (by omega) (by omega) (by omega) j]
    exact e1 h41 j
  · rw [(f3 a (by omega)).1, e2]
  · rw [(f3 a (by omega)).2, e3]
  · rw [f4 a (by omega) (by omega) j, e4 j]
theorem bS {i : Nat} (I : BI L M h M' h' b) (hi : i < 22) (hl : L.length < 950) (k : ∀ M2 h2, BI (L ++ x_cs i) M h M2 h2 b → Φ (.inl (some (xA b))) M2 h2) : x_Cal zQ_appendS [xA b, xS i] M' h' Φ := cQ_appendS hi I.1 hl (fun M2 h2 R F => k M2 h2 (I.put R F))
theorem bI {v : Int} (I : BI L M h M' h' b) (hv : 0 ≤ v ∧ v < 100) (hl : L.length < 950) (k : ∀ M2 h2, BI (L ++ dgL v) M h M2 h2 b → Φ (.inl (some (xA b))) M2 h2) : x_Cal zQ_appendI [xA b, xI v] M' h' Φ := cQ_appendI I.1 hv (by omega) (fun M2 h2 R F => k M2 h2 (I.put R F))
theorem bC {v : Int} (I : BI L M h M' h' b) (hv : 0 ≤ v ∧ v < 128) (hl : L.length < 950) (k : ∀ M2 h2, BI (L ++ [v]) M h M2 h2 b → Φ (.inl (some (xA b))) M2 h2) : x_Cal zQ_appendC [xA b, xI v] M' h' Φ := cQ_appendC I.1 hv (by omega) (fun M2 h2 R F => k M2 h2 (I.put R F))
theorem bN (I : BI L M h M' h' b) (k : ∀ y v : Int, 0 ≤ v → v < 8388608 → BI L M h (x_w M' 41 0 y) h' b → Φ (.inl (some (xI v))) (x_w M' 41 0 y) h') : x_Cal zL_next [xA 41] M' h' Φ := by
  obtain ⟨e1, e2, e3, e4⟩ := I.2.1.2 41 (by have := I.2.2.1; omega)
  exact cl_next (e2.trans I.2.2.2.2.2.1) (e3.trans I.2.2.2.2.2.2) (fun y v v1 v2 => k y v v1 v2 (I.y y))
theorem x_cs9 : x_cs 9 = [98, 97, 114, 115, 32] ∧ x_cs 10 = [59, 98, 97, 114, 115, 32] ∧ x_cs 11 = [32] ∧ x_cs 12 = [59] ∧ x_cs 13 = [109, 97, 114, 107, 32] ∧ x_cs 14 = [116, 101, 120, 116, 32] ∧ x_cs 15 = [59, 100, 111, 117, 98, 108, 101, 32] ∧ x_cs 16 = [99, 117, 116, 32] ∧ x_cs 17 = [112, 97, 114, 116, 32] ∧ x_cs 18 = [32, 112, 108, 97, 121, 32] ∧ x_cs 19 = [32, 99, 117, 101, 32] ∧ x_cs 20 = [32, 114, 101, 115, 116, 32] := by decide +kernel
/-- a score of more bars than told, p parts so far, nothing inserted -/
def SK (bars : Int) (S : xSr) (p : Nat) : Prop := bars < (sN S : Int) ∧ sN S ≤ 22 ∧ sP S = p ∧ ∀ q : Nat, q < sN S → sX S q = 0
/-- the head of the text -/
def hdL (bars d e : Int) : List Int := [98, 97, 114, 115] ++ (32 :: dgL bars ++ [59]) ++ ([98, 97, 114, 115] ++ (32 :: dgL d ++ (32 :: dgL e ++ [59])))
theorem hd_len {bars d e : Int} : (hdL bars d e).length ≤ 19 := by
  have h1 := dg_len (v := bars)
  have h2 := dg_len (v := d)
  have h3 := dg_len (v := e)
  unfold hdL
  simp
  omega
theorem hd_PS {bars d e : Int} (hb : 6 ≤ bars ∧ bars ≤ 17) (hd : 1 ≤ d ∧ d ≤ 5) (he : 1 ≤ e ∧ e ≤ 12) : ∃ S, PS (hdL bars d e) S 0 0 (fun _ => 0) ∧ SK bars S 0 ∧ ∀ l : Int, sM S l = -1 := by
  have P1 := PS.nil.bars1 (v := bars) (by omega) (by show (0 : Int) + bars ≤ 150; omega)
  have e1 : sN (addS S0 bars.toNat 4) = bars.toNat := by show 0 + bars.toNat = _; omega
  have P2 := P1.bars2 (v := d) (b := e) (by omega) he (by rw [e1]; omega)
  refine ⟨_, P2, ⟨?_, ?_, rfl, fun q hq => ?_⟩, fun l => rfl⟩
  · show bars < (((0 + bars.toNat + d.toNat : Nat)) : Int)
    omega
  · show 0 + bars.toNat + d.toNat ≤ 22
    omega
  · show (if (q : Int) < ((0 + bars.toNat : Nat) : Int) then (if (q : Int) < ((0 : Nat) : Int) then (0 : Int) else 0) else 0) = 0
    split <;> (try split) <;> rfl
end SCO
