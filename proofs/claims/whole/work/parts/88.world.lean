/-! the world at the law's entry -/
def ws_fl : List Jvm.Cond := flatC (Jvm.Cond.and given_1 narrow_1)
def ws_tm (i : Nat) : Jvm.Term := match x_str[i]? with
  | some q => .string q.1 q.2.1
  | none => .int 0
def ws_v (i : Nat) : Jvm.Term := .field (ws_tm i) "java/lang/String" "value" "[B"
def ws_b (i : Nat) : Bool := decide (Cond.exactly (ws_tm i) "java/lang/String" ∈ ws_fl) && (decide (Cond.eq (.field (ws_tm i) "java/lang/String" "coder" "B") (.int 0) ∈ ws_fl) && (decide (Cond.arrayOf (ws_v i) .byte ∈ ws_fl) && (decide (Cond.eq (.length (ws_v i)) (.int (Int32.ofNat (x_len.getD i 0))) ∈ ws_fl) && (List.range (x_len.getD i 0)).all fun j => decide (Cond.eq (.elem (ws_v i) (.int (Int32.ofNat j))) (.int ((x_byt.getD i []).getD j 0)) ∈ ws_fl))))
set_option maxRecDepth 20000 in
theorem ws_bs : ∀ i, i < 12 → ws_b i = true := by decide +kernel
set_option maxRecDepth 20000 in
theorem ws_ref : ∀ q ∈ x_str, Cond.stringRef q.1 q.2.1 q.2.2 ∈ lw_tbl := by decide +kernel
set_option maxRecDepth 20000 in
theorem ws_nc : ∀ q ∈ x_ncl, Cond.not (.castable q.1 q.2) ∈ ws_fl := by decide +kernel
set_option maxRecDepth 20000 in
theorem ws_in : ∀ q, q < 9 → Cond.instantiable (x_cl q).1 (x_N q) ∈ lw_tbl := by decide +kernel
theorem ws_S {s : State} {args : Array Value} (hs : ∀ w ∈ ws_fl, w.before args s = true) (hts : ∀ w ∈ lw_tbl, w.before args s = true) : ∃ K V : Nat → Nat, (∀ i : Nat, i < 12 → vk_S 1 [x_len.getD i 0] [x_byt.getD i []] (fun _ => K i) (fun _ => V i) (fun q => s.heap.size ≤ q) s s.heap) ∧ ∀ (i : Nat) (q : String × Nat × String), x_str[i]? = some q → vk_R q.1 q.2.1 q.2.2 (K i) s := by
  have h0 : ∀ i : Nat, ∃ r : Nat × Nat, i < 12 → vk_S 1 [x_len.getD i 0] [x_byt.getD i []] (fun _ => r.1) (fun _ => r.2) (fun q => s.heap.size ≤ q) s s.heap ∧ (ws_tm i).eval args s none [] s = some (.ref r.1) := by
    intro i
    by_cases hi : i < 12
    · have hb := ws_bs i hi
      unfold ws_b at hb
      simp only [Bool.and_eq_true, decide_eq_true_eq] at hb
      obtain ⟨b1, b2, b3, b4, b5⟩ := hb
      have hr := x_sl_r i hi
      unfold x_sl at hr
      obtain ⟨aK, aV, h1, h2⟩ := vk_Sof (N := 1) (tm := fun _ => ws_tm i) (len := [x_len.getD i 0]) (byt := [x_byt.getD i []]) (A := fun q => s.heap.size ≤ q) (args := args) (s := s)
        (fun j hj => by
          obtain rfl : j = 0 := by omega
          show x_len.getD i 0 < 2 ^ 31
          omega) (fun j _ => hs _ b1) (fun j _ => hs _ b2) (fun j _ => hs _ b3) (fun j hj => by
          obtain rfl : j = 0 := by omega
          exact hs _ b4) (fun j hj k hk => by
          obtain rfl : j = 0 := by omega
          exact hs _ (of_decide_eq_true (List.all_eq_true.mp b5 k (List.mem_range.mpr hk)))) (fun j k hj hk hne => absurd (by omega) hne) (fun a ha h => absurd h (Nat.not_le.mpr ha))
      refine ⟨(aK 0, aV 0), fun _ => ⟨⟨fun j hj => ?_, fun j k hj hk _ => by omega⟩, h2 0 Nat.zero_lt_one⟩⟩
      obtain rfl : j = 0 := by omega
      exact h1.1 0 Nat.zero_lt_one
    · exact ⟨(0, 0), fun h => absurd h hi⟩
  obtain ⟨r, hr⟩ := Classical.axiomOfChoice h0
  refine ⟨fun i => (r i).1, fun i => (r i).2, fun i hi => (hr i hi).1, fun i q hq => ?_⟩
  have hi : i < 12 := (List.getElem?_eq_some_iff.mp hq).1
  have h2 := (hr i hi).2
  have e : ws_tm i = .string q.1 q.2.1 := by unfold ws_tm; rw [hq]
  rw [e] at h2
  exact vk_R.of (A := args) (hts _ (ws_ref q (List.mem_of_getElem? hq))) h2
theorem ws_arr {s : State} {args : Array Value} {ty : FieldType} (h : (Cond.arrayClass ty).before args s = true) : ∃ cA : ClassId, ArrOfT s cA ty ∧ s.vm.findClass ("[" ++ ty.toString) = some cA := by
  obtain ⟨c, k, comp, h1, h2, h3⟩ := Cond.arrayClass_spec h
  exact ⟨c, fun n z => ⟨fun k h => (by cases h), k, h2, comp, h3⟩, h1⟩
theorem ws_arq {s : State} {args : Array Value} {C : String} (h : (Cond.arrayOver (.object C)).before args s = true) : ∃ cA : ClassId, ArrOfT s cA (.object C) ∧ va_RA s cA (.object C) := by
  obtain ⟨comp, c, k, h1, -, h2, h3, h4⟩ := Cond.arrayOver_spec h
  exact ⟨c, fun n z => ⟨fun k h => (by cases h), k, h2, comp, h3⟩, k, comp, h2, h3, h1, h4⟩
theorem ws_K {s : State} {args : Array Value} (hts : ∀ w ∈ lw_tbl, w.before args s = true) : ∃ (D : va_G) (cA : Nat → ClassId), va_K D vwCl [(cA 0, .int), (cA 1, .byte), (cA 2, .long), (cA 3, .object RX1), (cA 4, .object RX4)] s := by
  have key : ∀ q : Nat, q < 9 → ∃ r : ClassId × (Nat → Nat), u_Kn s (x_cl q).1 (x_cl q).2.1 (x_cl q).2.2 r.1 r.2 := fun q hq => by
    obtain ⟨c0, i0, h0⟩ := u_known (C := (x_cl q).1) (T := (x_cl q).2.1) (N := (x_cl q).2.2) (n := x_N q) (ws := lw_tbl) hts (fun w hw => (List.mem_filter.mp ((xc_ok q hq).2.1 w hw)).1) (hts _ (ws_in q hq))
    exact ⟨(c0, i0), h0⟩
  have hc : ∀ q : Nat, ∃ r : ClassId × (Nat → Nat), q < 9 → u_Kn s (x_cl q).1 (x_cl q).2.1 (x_cl q).2.2 r.1 r.2 := fun q => by
    by_cases hq : q < 9
    · obtain ⟨r, h⟩ := key q hq
      exact ⟨r, fun _ => h⟩
    · obtain ⟨r, -⟩ := key 0 (by decide)
      exact ⟨r, fun h => absurd h hq⟩
  obtain ⟨r, hr⟩ := Classical.axiomOfChoice hc
  obtain ⟨a0, p0, q0⟩ := ws_arr (hts (.arrayClass .int) (by decide +kernel))
  obtain ⟨a1, p1, q1⟩ := ws_arr (hts (.arrayClass .byte) (by decide +kernel))
  obtain ⟨a2, p2, q2⟩ := ws_arr (hts (.arrayClass .long) (by decide +kernel))
  obtain ⟨a3, p3, q3⟩ := ws_arq (hts (.arrayOver (.object RX1)) (by decide +kernel))
  obtain ⟨a4, p4, q4⟩ := ws_arq (hts (.arrayOver (.object RX4)) (by decide +kernel))
  refine ⟨(fun q => (r q).1, fun q => (r q).2), fun k => match k with | 0 => a0 | 1 => a1 | 2 => a2 | 3 => a3 | _ => a4, fun q w hw => ?_, fun k w hw => ?_⟩
  · have hq : q < 9 := (List.getElem?_eq_some_iff.mp hw).1
    have h1 := (xc_ok q hq).1
    rw [hw] at h1
    cases h1
    exact hr q hq
  · match k, hw with
    | 0, hw => cases hw; exact ⟨p0, q0⟩
    | 1, hw => cases hw; exact ⟨p1, q1⟩
    | 2, hw => cases hw; exact ⟨p2, q2⟩
    | 3, hw => cases hw; exact ⟨p3, q3⟩
    | 4, hw => cases hw; exact ⟨p4, q4⟩
    | k + 5, hw => simp at hw
theorem ws_odd {w : Jvm.Cond} (ho : x_odd w = true) {args : Array Value} {s : State} (h : w.before args s = true) : w.before #[] s = true := by
  cases w <;> first | exact h | (simp [x_odd] at ho; done)
theorem ws_X {s : State} {args : Array Value} {b L : Nat} {xs : Nat → Int32} (hs : ∀ w ∈ ws_fl, w.before args s = true) (hts : ∀ w ∈ lw_tbl, w.before args s = true) (hX : va_X b L xs s s.heap) (hbl : b < s.heap.size) : ∃ X : xX, XB X = s.heap.size ∧ XS X = (b, L, xs) ∧ va_K (XD X) vwCl (x_tys X) s ∧ x_O X s s.heap := by
  obtain ⟨D, cA, hK⟩ := ws_K hts
  obtain ⟨K, V, hS, hR⟩ := ws_S hs hts
  have hA : ∀ a : Nat, a < s.heap.size → ¬ s.heap.size ≤ a := fun a ha => Nat.not_le.mpr ha
  refine ⟨(D, cA, K, V, s.heap.size, (b, L, xs)), rfl, rfl, hK, ?_, ?_, ⟨fun w hw ho => ws_odd ho (hts w hw), fun q hq => va_Nc.of (hs _ (ws_nc q hq))⟩, ⟨hS, hR⟩, ⟨hX, hbl⟩, ?_, ?_⟩
  · exact vx_Zqof (args := args) (hts _ (by decide +kernel)) (hts _ (by decide +kernel)) (hs _ (by decide +kernel)) hA
  · exact vx_Zqof (args := args) (hts _ (by decide +kernel)) (hts _ (by decide +kernel)) (hs _ (by decide +kernel)) hA
  · exact va_Zof (args := args) (hts _ (by decide +kernel)) (hts _ (by decide +kernel)) (va_eqi (hs _ (by decide +kernel))) hA
  · exact va_Zqof (args := args) (hts _ (by decide +kernel)) (hts _ (by decide +kernel)) (hs _ (by decide +kernel)) hA
