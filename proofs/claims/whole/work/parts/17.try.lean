def fi (f : Int → Int) (x : Int) : Nat → Int
  | 0 => -1
  | k + 1 => if fi f x k = -1 then (if f k = x then (k : Int) else -1) else fi f x k
section TRY
set_option maxHeartbeats 2000000 in
theorem c_placeOf0 {M : xM} {h : xH} {Φ : xO → xM → xH → Prop} {b N : Nat} {bar : Int} (h1 : hK h b = 4) (h2 : hP h b 3 = b + 1) (h3 : hK h (b+1) = 20) (h4 : hL h (b+1) = 150) (h5 : M b 0 = N) (h6 : N ≤ 150)
   (k : Φ (.inl (some (xI (fi (M (b+1)) bar N)))) M h) : x_Cal zS_placeOf [xA b, xI bar] M h Φ := by
  refine x_metI kS_placeOf (Nat.le_of_ble_eq_true rfl) (fun t m ls st M' h' c n => t = 2 ∧ st = [] ∧ M' = M ∧ h' = h ∧ c = 0 ∧ n = 0 ∧ ls 0 = some (xA b) ∧ ls 1 = some (xI bar) ∧ ∃ p : Nat, ls 2 = some (xI p) ∧ p ≤ N ∧ m = N - p ∧ fi (M (b+1)) bar p = -1) 20 ?_ ?_
  · simp only [wq_g3, eS_placeOf, wq_g1, wq_g2, iS_placeOf_0, wps]
    trace_state
    sorry
  · rintro t m ls st M' h' c n ⟨rfl, rfl, rfl, rfl, rfl, rfl, l0, l1, p, l2, q1, q2, q3⟩
    simp only [eS_placeOf, wq_gc, iS_placeOf_2, wps, l0, l1, l2]
    trace_state
    sorry
end TRY
