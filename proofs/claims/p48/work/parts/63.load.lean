/-! the drawn score loads -/
section LOAD
variable {A : xAb} {M M' : xM} {h h' : xH} {Φ : xO → xM → xH → Prop} {L : List Int} {s : Nat}
set_option maxHeartbeats 2000000
theorem cl_load {S : xSr} {mm cc : Nat} {N : Int → Int} (C : CW A M h) (T : stR L M h s) (hs1 : 42 ≤ s) (hs2 : 42 ≤ hP h s 0) (hl : L.length ≤ 780) (h0 : aN A = 0) (P : PS L S mm cc N) (k : ∀ M' h' B', CW (S, sN S, 0, aG A, 0, B', 0, -1, aO A) M' h' → Φ (.inl (some (xI (sN S)))) M' h') : x_Cal zL_load [xA 1, xA s] M h Φ := by
  refine y_met (by decide) (by decide +kernel) (Nat.le_of_ble_eq_true rfl) (fun X ρ0 p l e s9 m args below meth c hx => ?_)
  refine y_doA (pc' := 1) (i := 0) hx (by decide +kernel) rfl ?_
  refine y_doA (pc' := 2) (i := 1) hx (by decide +kernel) rfl ?_
  refine sy_callS0 (zz := zL_type) (idx := 24) (as := [xA 1, xA s]) (st := []) (Ψ := fun o M' h' => o = .inl none ∧ ∃ n' B', CW (bufA A n' B') M' h' ∧ stR L M' h' s ∧ L.length ≤ n' ∧ ∀ i : Nat, i < L.length → B' i = L.getD i 0) hx (hx.hts _ (x_has_in (p := 628) (by decide +kernel))) (hx.hts _ (x_has_in (p := 629) (by decide +kernel))) (by decide +kernel) (cl_type C T hs1 hs2 hl h0 (fun M' h' n' B' C1 T1 n1 b1 => ⟨rfl, n', B', C1, T1, n1, b1⟩)) (x_okv_in (z := zL_load) (zz := zL_type) (n := 2) (pi := 37) (pc := 630) (by decide +kernel)).1 (by decide) (by decide) (by decide) (fun M1 h1 k1 => ?_) (fun v M' h' k1 => by cases k1.1) (fun ee M' h' k1 => by cases k1.1)
  obtain ⟨-, n', B', C1, T1, n1, b1⟩ := k1
  refine y_doA (pc' := 6) (i := 1) hx (by decide +kernel) rfl ?_
  refine sy_callV0 (zz := zT_length) (idx := 8) (q := 8) (as := []) (st := []) (Ψ := fun o M' h' => o = .inl (some (xI (L.length : Nat))) ∧ M' = M1 ∧ h' = h1) hx (hx.hts _ (x_has_in (p := 631) (by decide +kernel))) (hx.hts _ (x_has_in (p := 632) (by decide +kernel))) (hx.hts _ (x_has_in (p := 633) (by decide +kernel))) (by decide +kernel) (by decide) T1.1.1 (cTh_length T1 (by omega) ⟨rfl, rfl, rfl⟩) (x_okv_in (z := zL_load) (zz := zT_length) (n := 0) (pi := 48) (pc := 634) (by decide +kernel)) (by decide) (by decide) (by decide) (fun M' h' k1 => by cases k1.1) (fun v M2 h2 k1 => ?_) (fun ee M' h' k1 => by cases k1.1)
  obtain ⟨ev, rfl, rfl⟩ := k1
  cases ev
  refine sy_istore_n (i := 2) hx (by decide) (by decide +kernel) ?_
  refine y_doA (pc' := 11) (i := 0) hx (by decide +kernel) rfl ?_
  refine y_doI (pc' := 12) (i := 2) hx (by decide +kernel) rfl ?_
  have hcov : y_cov zL_load 12 := fun q hq => y_hs_cov (z := zL_load) (v := -1) _ (by decide +kernel) q hq
  have e1 : dLoad (bufA A n' B') (L.length : Nat) = ((.inl (sN S) : xAn), ((S, sN S, 0, aG A, 0, B', 0, -1, aO A) : xAb)) := by
    have h1 : ¬ (((L.length : Nat) : Int) < 0 ∨ (aN (bufA A n' B') : Int) < (L.length : Nat)) := by
      show ¬ (((L.length : Nat) : Int) < 0 ∨ (n' : Int) < (L.length : Nat))
      omega
    unfold dLoad
    rw [if_neg h1]
    have h2 : pLoad (aB (bufA A n' B')) ((L.length : Nat) : Int).toNat = .inr (L.length, false, S, mm, cc, N) := by
      rw [Int.toNat_natCast]
      exact P.load (fun i hi => by rw [Nat.zero_add]; exact b1 i hi)
    rw [h2]
    rfl
  refine sy_callV (zz := zP_load) (idx := 30) (q := 7) (as := [xI (L.length : Nat)]) (st := []) (Ψ := fun o M' h' => o = .inl (some (xI (sN S))) ∧ ∃ B', CW (S, sN S, 0, aG A, 0, B', 0, -1, aO A) M' h') hx rfl hcov (hx.hts _ (x_has_in (p := 687) (by decide +kernel))) (hx.hts _ (x_has_in (p := 688) (by decide +kernel))) (hx.hts _ (x_has_in (p := 689) (by decide +kernel))) (by decide +kernel) (by decide) C1.k1 (cP_load C1 (fun M' h' C2 f => ?_)) (x_okv_in (z := zL_load) (zz := zP_load) (n := 1) (pi := 38) (pc := 690) (by decide +kernel)) (by decide) (by decide) (by decide) (fun M' h' k1 => by cases k1.1) (fun v M2 h2 k1 => ?_) (fun ee M' h' k1 => by cases k1.1)
  · rw [e1] at C2 ⊢
    exact ⟨rfl, B', C2⟩
  · obtain ⟨ev, B2, C2⟩ := k1
    cases ev
    exact sy_iret hx (show zR zL_load = some .int from rfl) rfl (by decide +kernel) (by decide) (by decide) (k _ _ _ C2)
end LOAD
