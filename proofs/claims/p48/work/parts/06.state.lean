/-! the state's parts under the small machine's moves -/
theorem x_ws_get {X : xX} {ρ : Nat → Nat} {M : xM} {h : xH} {id : Nat} (h1 : 1 ≤ id) (h2 : id < hn h) : (x_ws X ρ M h)[id - 1]? = some (ρ id, x_cell X ρ M h id) := by
  unfold x_ws
  rw [List.getElem?_map, List.getElem?_range (by omega)]
  show some (ρ (id - 1 + 1), x_cell X ρ M h (id - 1 + 1)) = _
  rw [show id - 1 + 1 = id by omega]
theorem x_ws_set {X : xX} {ρ : Nat → Nat} {M M' : xM} {h h' : xH} {id : Nat} {e : va_E} (h1 : 1 ≤ id) (h2 : id < hn h) (hh : hn h' = hn h) (ho : ∀ q, q ≠ id → x_cell X ρ M' h' q = x_cell X ρ M h q) (he : x_cell X ρ M' h' id = e) : (x_ws X ρ M h).set (id - 1) (ρ id, e) = x_ws X ρ M' h' := by
  apply List.ext_getElem?
  intro k
  unfold x_ws
  rw [hh]
  by_cases hk : k = id - 1
  · subst hk
    rw [List.getElem?_set_self (by simp; omega), List.getElem?_map, List.getElem?_range (by omega)]
    show _ = some (ρ (id - 1 + 1), x_cell X ρ M' h' (id - 1 + 1))
    rw [show id - 1 + 1 = id by omega, he]
  · rw [List.getElem?_set_ne (fun q => hk q.symm), List.getElem?_map, List.getElem?_map]
    cases hr : (List.range (hn h - 1))[k]? with
    | none => rfl
    | some j =>
      have hj : j = k := by
        have := List.getElem?_eq_some_iff.mp hr
        obtain ⟨w, hw⟩ := this
        rw [List.getElem_range] at hw
        exact hw.symm
      subst hj
      show some (ρ (j + 1), x_cell X ρ M h (j + 1)) = some (ρ (j + 1), x_cell X ρ M' h' (j + 1))
      rw [ho (j + 1) (by omega)]
theorem x_ws_new {X : xX} {ρ ρ' : Nat → Nat} {M M' : xM} {h h' : xH} {e : va_E} {q : Nat} (h0 : 1 ≤ hn h) (hh : hn h' = hn h + 1) (ho : ∀ id, id < hn h → ρ' id = ρ id ∧ x_cell X ρ' M' h' id = x_cell X ρ M h id) (hq : ρ' (hn h) = q) (he : x_cell X ρ' M' h' (hn h) = e) : x_ws X ρ M h ++ [(q, e)] = x_ws X ρ' M' h' := by
  unfold x_ws
  rw [hh, show hn h + 1 - 1 = (hn h - 1) + 1 by omega, List.range_succ, List.map_append]
  congr 1
  · apply List.map_congr_left
    intro j hj
    have hj' := List.mem_range.mp hj
    rw [(ho (j + 1) (by omega)).1, (ho (j + 1) (by omega)).2]
  · show _ = [(ρ' (hn h - 1 + 1), x_cell X ρ' M' h' (hn h - 1 + 1))]
    rw [show hn h - 1 + 1 = hn h by omega, hq, he]
section XS
variable {X : xX} {ρ0 : Nat → Nat} {n0 nL : Nat} {s : State} {ρ : Nat → Nat} {lsC : Array Slot} {H : Heap} {locs : List Loc} {ls : xL} {st : List xV} {M : xM} {h : xH}
theorem x_St.pop {v : xV} (S : x_St X ρ0 n0 nL s ρ lsC H locs ls (v :: st) M h) : x_St X ρ0 n0 nL s ρ lsC H locs ls st M h := ⟨S.1, fun w hw => S.2.1 w (List.mem_cons_of_mem _ hw), S.2.2⟩
theorem x_St.top {v : xV} (S : x_St X ρ0 n0 nL s ρ lsC H locs ls (v :: st) M h) : x_vk h v := S.2.1 v List.mem_cons_self
theorem x_St.push {v : xV} (S : x_St X ρ0 n0 nL s ρ lsC H locs ls st M h) (hv : x_vk h v) : x_St X ρ0 n0 nL s ρ lsC H locs ls (v :: st) M h :=
  ⟨S.1, fun w hw => by
    rcases List.mem_cons.mp hw with rfl | hw
    · exact hv
    · exact S.2.1 w hw, S.2.2⟩
theorem x_St.loc {i : Nat} {v : xV} (S : x_St X ρ0 n0 nL s ρ lsC H locs ls st M h) (hi : ls i = some v) : lsC[i]? = some (.val (x_c X ρ v)) ∧ x_vk h v := S.1.2.2 i v hi
theorem x_cat_c (v : xV) : (x_c X ρ v).category = x_cat v := by
  rcases v with x | x | r | a | i
  · rfl
  · rfl
  · show (va_rf (x_rf ρ r)).category = 1
    unfold x_rf
    split <;> rfl
  · rfl
  · rfl
theorem x_nl_some {o : Option xV} {w : xV} (hw : x_nl o = some w) : o = some w ∧ x_cat w = 1 := by
  rcases o with _ | (x | x | r)
  · cases hw
  · cases hw; exact ⟨rfl, rfl⟩
  · cases hw
  · cases hw; exact ⟨rfl, rfl⟩
/-- the known locals as a list -/
def x_ll (X : xX) (ρ : Nat → Nat) (nL : Nat) (ls : xL) : List (Nat × Value) := (List.range nL).filterMap fun j => (ls j).map fun w => (j, x_c X ρ w)
theorem x_ll_mem {j : Nat} {w : xV} (hj : j < nL) (hw : ls j = some w) : (j, x_c X ρ w) ∈ x_ll X ρ nL ls := List.mem_filterMap.mpr ⟨j, List.mem_range.mpr hj, by rw [hw]; rfl⟩
theorem x_St.has (S : x_St X ρ0 n0 nL s ρ lsC H locs ls st M h) : lv_has lsC nL (x_ll X ρ nL ls) := by
  refine ⟨S.1.1, S.1.2.1, fun q hq => ?_⟩
  obtain ⟨j, -, hj⟩ := List.mem_filterMap.mp hq
  cases hl : ls j with
  | none => rw [hl] at hj; cases hj
  | some w =>
    rw [hl] at hj
    cases hj
    exact (S.loc hl).1
theorem x_St.lt {i : Nat} {v : xV} (S : x_St X ρ0 n0 nL s ρ lsC H locs ls st M h) (hi : ls i = some v) : i < nL := by
  have h1 := (Array.getElem?_eq_some_iff.mp (S.loc hi).1).1
  have h2 := S.1.1
  omega
theorem x_St.store {i : Nat} {v : xV} {lsD : Array Slot} (S : x_St X ρ0 n0 nL s ρ lsC H locs ls st M h) (hv : x_vk h v)
    (hd : lv_has lsD nL ((i, x_c X ρ v) :: (x_ll X ρ nL ls).filter (fun q => !(q.1 == i) && !(q.1 + 1 == i && q.2.category == 2)))) : x_St X ρ0 n0 nL s ρ lsD H locs (x_up ls i v) st M h := by
  obtain ⟨d1, d2, d3⟩ := hd
  refine ⟨⟨d1, d2, fun j w hw => ?_⟩, S.2⟩
  unfold x_up at hw
  by_cases hj : j = i
  · rw [if_pos hj] at hw
    cases hw
    subst hj
    exact ⟨d3 _ List.mem_cons_self, hv⟩
  · rw [if_neg hj] at hw
    have key : ls j = some w ∧ (j + 1 = i → x_cat w = 1) := by
      by_cases hj1 : j + 1 = i
      · rw [if_pos hj1] at hw
        exact ⟨(x_nl_some hw).1, fun _ => (x_nl_some hw).2⟩
      · rw [if_neg hj1] at hw
        exact ⟨hw, fun q => absurd q hj1⟩
    refine ⟨?_, (S.loc key.1).2⟩
    refine d3 (j, x_c X ρ w) (List.mem_cons_of_mem _ (List.mem_filter.mpr ⟨x_ll_mem (S.lt key.1) key.1, ?_⟩))
    by_cases hj1 : j + 1 = i
    · simp [hj, x_cat_c, key.2 hj1]
    · simp [hj, hj1]
theorem x_St.store2 {i : Nat} {v : xV} {lsD : Array Slot} (S : x_St X ρ0 n0 nL s ρ lsC H locs ls st M h) (hv : x_vk h v)
    (hd : lv_has lsD nL ((i, x_c X ρ v) :: (x_ll X ρ nL ls).filter (fun q => !(q.1 == i) && (!(q.1 == i + 1) && !(q.1 + 1 == i && q.2.category == 2))))) : x_St X ρ0 n0 nL s ρ lsD H locs (x_up2 ls i v) st M h := by
  obtain ⟨d1, d2, d3⟩ := hd
  refine ⟨⟨d1, d2, fun j w hw => ?_⟩, S.2⟩
  unfold x_up2 at hw
  by_cases hj : j = i
  · rw [if_pos hj] at hw
    cases hw
    subst hj
    exact ⟨d3 _ List.mem_cons_self, hv⟩
  · rw [if_neg hj] at hw
    by_cases hj2 : j = i + 1
    · rw [if_pos hj2] at hw
      cases hw
    · rw [if_neg hj2] at hw
      have key : ls j = some w ∧ (j + 1 = i → x_cat w = 1) := by
        by_cases hj1 : j + 1 = i
        · rw [if_pos hj1] at hw
          exact ⟨(x_nl_some hw).1, fun _ => (x_nl_some hw).2⟩
        · rw [if_neg hj1] at hw
          exact ⟨hw, fun q => absurd q hj1⟩
      refine ⟨?_, (S.loc key.1).2⟩
      refine d3 (j, x_c X ρ w) (List.mem_cons_of_mem _ (List.mem_filter.mpr ⟨x_ll_mem (S.lt key.1) key.1, ?_⟩))
      by_cases hj1 : j + 1 = i
      · simp [hj, hj2, x_cat_c, key.2 hj1]
      · simp [hj, hj1, hj2]
end XS
theorem x_pick {s : State} {args : Array Value} {w : Jvm.Cond} (hts : ∀ w ∈ x_tb, w.before args s = true) (p : Nat) (hp : x_tbl[p]? = some w) (hg : goodWord w = true) : w.before args s = true :=
  hts w (List.mem_filter.mpr ⟨List.mem_of_getElem? hp, hg⟩)
