section SN
variable {X : xX} {ρ0 : Nat → Nat} {n0 : Nat} {z : xMD} {p : Program} {l : Launch} {e : Env} {R : Room} {s : State} {m : MethodId} {args : Array Value} {below : List Frame} {meth : Method} {c : Code} {Q : State → Prop}
variable {pc cells slots : Nat} {ls : xL} {st : List xV} {M : xM} {h : xH}
theorem sn_iconst (hx : x_Cx X z p l R s m args meth c) {k : Int} (hk : x_i32 k) (d : decode (zB z) pc = .ok (.iconst k, 1)) (kk : x_Wt X ρ0 n0 (zL z) p l e R s m args below meth c Q (pc + 1) ls (xI k :: st) M h cells slots) : x_Wt X ρ0 n0 (zL z) p l e R s m args below meth c Q (pc) ls st M h cells slots := by
  intro ρ lsC H locs S
  exact lv_iconst hx.1 hx.2.1 d rfl (kk ρ lsC H locs (S.push hk))
theorem sn_bipush (hx : x_Cx X z p l R s m args meth c) {k : Int} (hk : x_i32 k) (he : (Int8.ofInt k).toInt32 = Int32.ofInt k) (d : decode (zB z) pc = .ok (.bipush k, 2)) (kk : x_Wt X ρ0 n0 (zL z) p l e R s m args below meth c Q (pc + 2) ls (xI k :: st) M h cells slots) : x_Wt X ρ0 n0 (zL z) p l e R s m args below meth c Q (pc) ls st M h cells slots := by
  intro ρ lsC H locs S
  exact lv_bipush hx.1 hx.2.1 d he (kk ρ lsC H locs (S.push hk))
theorem sn_sipush (hx : x_Cx X z p l R s m args meth c) {k : Int} (hk : x_i32 k) (he : (Int16.ofInt k).toInt32 = Int32.ofInt k) (d : decode (zB z) pc = .ok (.sipush k, 3)) (kk : x_Wt X ρ0 n0 (zL z) p l e R s m args below meth c Q (pc + 3) ls (xI k :: st) M h cells slots) : x_Wt X ρ0 n0 (zL z) p l e R s m args below meth c Q (pc) ls st M h cells slots := by
  intro ρ lsC H locs S
  exact lv_sipush hx.1 hx.2.1 d he (kk ρ lsC H locs (S.push hk))
theorem sn_lconst (hx : x_Cx X z p l R s m args meth c) {k : Fin 2} (d : decode (zB z) pc = .ok (.lconst k, 1)) (kk : x_Wt X ρ0 n0 (zL z) p l e R s m args below meth c Q (pc + 1) ls (xJ k.val :: st) M h cells slots) : x_Wt X ρ0 n0 (zL z) p l e R s m args below meth c Q (pc) ls st M h cells slots := by
  intro ρ lsC H locs S
  exact lv_lconst hx.1 hx.2.1 d (v := Int64.ofInt k.val) (by rw [Int64.ofInt_eq_ofNat]) (kk ρ lsC H locs (S.push (v := xJ k.val) (by show x_i64 _; unfold x_i64; omega)))
theorem sn_null (hx : x_Cx X z p l R s m args meth c) (d : decode (zB z) pc = .ok (.aconst_null, 1)) (kk : x_Wt X ρ0 n0 (zL z) p l e R s m args below meth c Q (pc + 1) ls (xA 0 :: st) M h cells slots) : x_Wt X ρ0 n0 (zL z) p l e R s m args below meth c Q (pc) ls st M h cells slots := by
  intro ρ lsC H locs S
  exact lv_null hx.1 hx.2.1 d (kk ρ lsC H locs (S.push (v := xA 0) (Nat.lt_of_lt_of_le Nat.zero_lt_one S.2.2.1.2.2.1)))
theorem sn_iload (hx : x_Cx X z p l R s m args meth c) {i : Nat} {x : Int} (hl : ls i = some (xI x)) (d : decode (zB z) pc = .ok (.iload i, 2)) (kk : x_Wt X ρ0 n0 (zL z) p l e R s m args below meth c Q (pc + 2) ls (xI x :: st) M h cells slots) : x_Wt X ρ0 n0 (zL z) p l e R s m args below meth c Q (pc) ls st M h cells slots := by
  intro ρ lsC H locs S
  exact lv_iload hx.1 hx.2.1 d (S.loc hl).1 (kk ρ lsC H locs (S.push (S.loc hl).2))
theorem sn_iload_n (hx : x_Cx X z p l R s m args meth c) {i : Fin 4} {x : Int} (hl : ls i.val = some (xI x)) (d : decode (zB z) pc = .ok (.iload_n i, 1)) (kk : x_Wt X ρ0 n0 (zL z) p l e R s m args below meth c Q (pc + 1) ls (xI x :: st) M h cells slots) : x_Wt X ρ0 n0 (zL z) p l e R s m args below meth c Q (pc) ls st M h cells slots := by
  intro ρ lsC H locs S
  exact lv_iload_n hx.1 hx.2.1 d rfl (S.loc hl).1 (kk ρ lsC H locs (S.push (S.loc hl).2))
theorem sn_lload (hx : x_Cx X z p l R s m args meth c) {i : Nat} {x : Int} (hl : ls i = some (xJ x)) (d : decode (zB z) pc = .ok (.lload i, 2)) (kk : x_Wt X ρ0 n0 (zL z) p l e R s m args below meth c Q (pc + 2) ls (xJ x :: st) M h cells slots) : x_Wt X ρ0 n0 (zL z) p l e R s m args below meth c Q (pc) ls st M h cells slots := by
  intro ρ lsC H locs S
  exact lv_lload hx.1 hx.2.1 d (S.loc hl).1 (kk ρ lsC H locs (S.push (S.loc hl).2))
theorem sn_lload_n (hx : x_Cx X z p l R s m args meth c) {i : Fin 4} {x : Int} (hl : ls i.val = some (xJ x)) (d : decode (zB z) pc = .ok (.lload_n i, 1)) (kk : x_Wt X ρ0 n0 (zL z) p l e R s m args below meth c Q (pc + 1) ls (xJ x :: st) M h cells slots) : x_Wt X ρ0 n0 (zL z) p l e R s m args below meth c Q (pc) ls st M h cells slots := by
  intro ρ lsC H locs S
  exact lv_lload_n hx.1 hx.2.1 d rfl (S.loc hl).1 (kk ρ lsC H locs (S.push (S.loc hl).2))
theorem sn_aload (hx : x_Cx X z p l R s m args meth c) {i : Nat} {x : Nat ⊕ Nat ⊕ Nat} (hl : ls i = some (.inr (.inr x))) (d : decode (zB z) pc = .ok (.aload i, 2)) (kk : x_Wt X ρ0 n0 (zL z) p l e R s m args below meth c Q (pc + 2) ls (.inr (.inr x) :: st) M h cells slots) : x_Wt X ρ0 n0 (zL z) p l e R s m args below meth c Q (pc) ls st M h cells slots := by
  intro ρ lsC H locs S
  have h1 := S.loc hl
  have k1 := kk ρ lsC H locs (S.push h1.2)
  rcases x with r | a | j
  · have h2 : lsC[i]? = some (.val (va_rf (x_rf ρ r))) := h1.1
    have k2 : W p l e R s m args below meth c H locs cells slots Q (F0 m (pc + 2) lsC (va_rf (x_rf ρ r) :: st.map (x_c X ρ))) := k1
    generalize x_rf ρ r = y at h2 k2
    cases y with
    | none => exact lv_aloadN hx.1 hx.2.1 d h2 k2
    | some y => exact lv_aload hx.1 hx.2.1 d h2 k2
  · exact lv_aload hx.1 hx.2.1 d h1.1 k1
  · exact lv_aload hx.1 hx.2.1 d h1.1 k1
theorem sn_istore (hx : x_Cx X z p l R s m args meth c) {i : Nat} {x : Int} (hi : i < zL z) (d : decode (zB z) pc = .ok (.istore i, 2)) (kk : x_Wt X ρ0 n0 (zL z) p l e R s m args below meth c Q (pc + 2) (x_up ls i (xI x)) st M h cells slots) : x_Wt X ρ0 n0 (zL z) p l e R s m args below meth c Q (pc) ls (xI x :: st) M h cells slots := by
  intro ρ lsC H locs S
  exact lv_istore hx.1 hx.2.1 d S.has hi rfl (fun lsD hd => kk ρ lsD H locs (S.pop.store S.top hd))
theorem sn_lstore (hx : x_Cx X z p l R s m args meth c) {i : Nat} {x : Int} (hi : i + 1 < zL z) (d : decode (zB z) pc = .ok (.lstore i, 2)) (kk : x_Wt X ρ0 n0 (zL z) p l e R s m args below meth c Q (pc + 2) (x_up2 ls i (xJ x)) st M h cells slots) : x_Wt X ρ0 n0 (zL z) p l e R s m args below meth c Q (pc) ls (xJ x :: st) M h cells slots := by
  intro ρ lsC H locs S
  exact lv_lstore hx.1 hx.2.1 d S.has hi rfl (fun lsD hd => kk ρ lsD H locs (S.pop.store2 S.top hd))
theorem sn_astore (hx : x_Cx X z p l R s m args meth c) {i : Nat} {x : Nat ⊕ Nat ⊕ Nat} (hi : i < zL z) (d : decode (zB z) pc = .ok (.astore i, 2)) (kk : x_Wt X ρ0 n0 (zL z) p l e R s m args below meth c Q (pc + 2) (x_up ls i (.inr (.inr x))) st M h cells slots) : x_Wt X ρ0 n0 (zL z) p l e R s m args below meth c Q (pc) ls (.inr (.inr x) :: st) M h cells slots := by
  intro ρ lsC H locs S
  have k1 : ∀ lsD : Array Slot, lv_has lsD (zL z) ((i, x_c X ρ (.inr (.inr x))) :: (x_ll X ρ (zL z) ls).filter (fun q => !(q.1 == i) && !(q.1 + 1 == i && q.2.category == 2))) → W p l e R s m args below meth c H locs cells slots Q (F0 m (pc + 2) lsD (st.map (x_c X ρ))) := fun lsD hd => kk ρ lsD H locs (S.pop.store S.top hd)
  rcases x with r | a | j
  · show W p l e R s m args below meth c H locs cells slots Q (F0 m pc lsC (va_rf (x_rf ρ r) :: st.map (x_c X ρ)))
    have k2 : ∀ lsD : Array Slot, lv_has lsD (zL z) ((i, va_rf (x_rf ρ r)) :: (x_ll X ρ (zL z) ls).filter (fun q => !(q.1 == i) && !(q.1 + 1 == i && q.2.category == 2))) → W p l e R s m args below meth c H locs cells slots Q (F0 m (pc + 2) lsD (st.map (x_c X ρ))) := k1
    generalize x_rf ρ r = y at k2 ⊢
    cases y with
    | none => exact lv_astoreN hx.1 hx.2.1 d S.has hi rfl k2
    | some y => exact lv_astore hx.1 hx.2.1 d S.has hi rfl k2
  · exact lv_astore hx.1 hx.2.1 d S.has hi rfl k1
  · exact lv_astore hx.1 hx.2.1 d S.has hi rfl k1
theorem sn_aload_n (hx : x_Cx X z p l R s m args meth c) {i : Fin 4} {x : Nat ⊕ Nat ⊕ Nat} (hl : ls i.val = some (.inr (.inr x))) (d : decode (zB z) pc = .ok (.aload_n i, 1)) (kk : x_Wt X ρ0 n0 (zL z) p l e R s m args below meth c Q (pc + 1) ls (.inr (.inr x) :: st) M h cells slots) : x_Wt X ρ0 n0 (zL z) p l e R s m args below meth c Q (pc) ls st M h cells slots := by
  intro ρ lsC H locs S
  have h1 := S.loc hl
  have k1 := kk ρ lsC H locs (S.push h1.2)
  rcases x with r | a | j
  · have h2 : lsC[i.val]? = some (.val (va_rf (x_rf ρ r))) := h1.1
    have k2 : W p l e R s m args below meth c H locs cells slots Q (F0 m (pc + 1) lsC (va_rf (x_rf ρ r) :: st.map (x_c X ρ))) := k1
    generalize x_rf ρ r = y at h2 k2
    cases y with
    | none => exact lv_aload_nN hx.1 hx.2.1 d rfl h2 k2
    | some y => exact lv_aload_n hx.1 hx.2.1 d rfl h2 k2
  · exact lv_aload_n hx.1 hx.2.1 d rfl h1.1 k1
  · exact lv_aload_n hx.1 hx.2.1 d rfl h1.1 k1
theorem sn_istore_n (hx : x_Cx X z p l R s m args meth c) {i : Fin 4} {x : Int} (hi : i.val < zL z) (d : decode (zB z) pc = .ok (.istore_n i, 1)) (kk : x_Wt X ρ0 n0 (zL z) p l e R s m args below meth c Q (pc + 1) (x_up ls i.val (xI x)) st M h cells slots) : x_Wt X ρ0 n0 (zL z) p l e R s m args below meth c Q (pc) ls (xI x :: st) M h cells slots := by
  intro ρ lsC H locs S
  exact lv_istore_n hx.1 hx.2.1 d rfl S.has hi rfl (fun lsD hd => kk ρ lsD H locs (S.pop.store S.top hd))
theorem sn_lstore_n (hx : x_Cx X z p l R s m args meth c) {i : Fin 4} {x : Int} (hi : i.val + 1 < zL z) (d : decode (zB z) pc = .ok (.lstore_n i, 1)) (kk : x_Wt X ρ0 n0 (zL z) p l e R s m args below meth c Q (pc + 1) (x_up2 ls i.val (xJ x)) st M h cells slots) : x_Wt X ρ0 n0 (zL z) p l e R s m args below meth c Q (pc) ls (xJ x :: st) M h cells slots := by
  intro ρ lsC H locs S
  exact lv_lstore_n hx.1 hx.2.1 d rfl S.has hi rfl (fun lsD hd => kk ρ lsD H locs (S.pop.store2 S.top hd))
theorem sn_astore_n (hx : x_Cx X z p l R s m args meth c) {i : Fin 4} {x : Nat ⊕ Nat ⊕ Nat} (hi : i.val < zL z) (d : decode (zB z) pc = .ok (.astore_n i, 1)) (kk : x_Wt X ρ0 n0 (zL z) p l e R s m args below meth c Q (pc + 1) (x_up ls i.val (.inr (.inr x))) st M h cells slots) : x_Wt X ρ0 n0 (zL z) p l e R s m args below meth c Q (pc) ls (.inr (.inr x) :: st) M h cells slots := by
  intro ρ lsC H locs S
  have k1 : ∀ lsD : Array Slot, lv_has lsD (zL z) ((i.val, x_c X ρ (.inr (.inr x))) :: (x_ll X ρ (zL z) ls).filter (fun q => !(q.1 == i.val) && !(q.1 + 1 == i.val && q.2.category == 2))) → W p l e R s m args below meth c H locs cells slots Q (F0 m (pc + 1) lsD (st.map (x_c X ρ))) := fun lsD hd => kk ρ lsD H locs (S.pop.store S.top hd)
  rcases x with r | a | j
  · show W p l e R s m args below meth c H locs cells slots Q (F0 m pc lsC (va_rf (x_rf ρ r) :: st.map (x_c X ρ)))
    have k2 : ∀ lsD : Array Slot, lv_has lsD (zL z) ((i.val, va_rf (x_rf ρ r)) :: (x_ll X ρ (zL z) ls).filter (fun q => !(q.1 == i.val) && !(q.1 + 1 == i.val && q.2.category == 2))) → W p l e R s m args below meth c H locs cells slots Q (F0 m (pc + 1) lsD (st.map (x_c X ρ))) := k1
    generalize x_rf ρ r = y at k2 ⊢
    cases y with
    | none => exact lv_astore_nN hx.1 hx.2.1 d rfl S.has hi rfl k2
    | some y => exact lv_astore_n hx.1 hx.2.1 d rfl S.has hi rfl k2
  · exact lv_astore_n hx.1 hx.2.1 d rfl S.has hi rfl k1
  · exact lv_astore_n hx.1 hx.2.1 d rfl S.has hi rfl k1
theorem sn_iinc (hx : x_Cx X z p l R s m args meth c) {i : Nat} {k x : Int} (hl : ls i = some (xI x)) (d : decode (zB z) pc = .ok (.iinc i k, 3)) (kk : x_Wt X ρ0 n0 (zL z) p l e R s m args below meth c Q (pc + 3) (x_up ls i (xI (w32 (x + k)))) st M h cells slots) : x_Wt X ρ0 n0 (zL z) p l e R s m args below meth c Q (pc) ls st M h cells slots := by
  intro ρ lsC H locs S
  obtain ⟨j, hj⟩ := List.getElem?_of_mem (x_ll_mem (X := X) (ρ := ρ) (S.lt hl) hl)
  refine lv_iinc hx.1 hx.2.1 d S.has (k := j) hj (v := Int32.ofInt (w32 (x + k))) (by rw [i32_w, Int32.ofInt_add]) (S.lt hl) rfl (fun lsD hd => kk ρ lsD H locs (S.store (v := xI (w32 (x + k))) (w32_in _) hd))
theorem sn_iincW (hx : x_Cx X z p l R s m args meth c) {i : Nat} {k x : Int} (hl : ls i = some (xI x)) (d : decode (zB z) pc = .ok (.iinc i k, 6)) (kk : x_Wt X ρ0 n0 (zL z) p l e R s m args below meth c Q (pc + 6) (x_up ls i (xI (w32 (x + k)))) st M h cells slots) : x_Wt X ρ0 n0 (zL z) p l e R s m args below meth c Q (pc) ls st M h cells slots := by
  intro ρ lsC H locs S
  obtain ⟨j, hj⟩ := List.getElem?_of_mem (x_ll_mem (X := X) (ρ := ρ) (S.lt hl) hl)
  refine lv_iincW hx.1 hx.2.1 d S.has (k := j) hj (v := Int32.ofInt (w32 (x + k))) (by rw [i32_w, Int32.ofInt_add]) (S.lt hl) rfl (fun lsD hd => kk ρ lsD H locs (S.store (v := xI (w32 (x + k))) (w32_in _) hd))
theorem sn_iadd (hx : x_Cx X z p l R s m args meth c) {a b : Int} (d : decode (zB z) pc = .ok (.iadd, 1)) (kk : x_Wt X ρ0 n0 (zL z) p l e R s m args below meth c Q (pc + 1) ls (xI (w32 (a + b)) :: st) M h cells slots) : x_Wt X ρ0 n0 (zL z) p l e R s m args below meth c Q (pc) ls (xI b :: xI a :: st) M h cells slots := by
  intro ρ lsC H locs S
  have k1 := kk ρ lsC H locs (S.pop.pop.push (v := xI (w32 (a + b))) (w32_in _))
  refine lv_iadd hx.1 hx.2.1 d ?_
  rw [← Int32.ofInt_add, ← i32_w]
  exact k1
theorem sn_isub (hx : x_Cx X z p l R s m args meth c) {a b : Int} (d : decode (zB z) pc = .ok (.isub, 1)) (kk : x_Wt X ρ0 n0 (zL z) p l e R s m args below meth c Q (pc + 1) ls (xI (w32 (a - b)) :: st) M h cells slots) : x_Wt X ρ0 n0 (zL z) p l e R s m args below meth c Q (pc) ls (xI b :: xI a :: st) M h cells slots := by
  intro ρ lsC H locs S
  have k1 := kk ρ lsC H locs (S.pop.pop.push (v := xI (w32 (a - b))) (w32_in _))
  refine lv_isub hx.1 hx.2.1 d ?_
  rw [← Int32.ofInt_sub, ← i32_w]
  exact k1
theorem sn_imul (hx : x_Cx X z p l R s m args meth c) {a b : Int} (d : decode (zB z) pc = .ok (.imul, 1)) (kk : x_Wt X ρ0 n0 (zL z) p l e R s m args below meth c Q (pc + 1) ls (xI (w32 (a * b)) :: st) M h cells slots) : x_Wt X ρ0 n0 (zL z) p l e R s m args below meth c Q (pc) ls (xI b :: xI a :: st) M h cells slots := by
  intro ρ lsC H locs S
  have k1 := kk ρ lsC H locs (S.pop.pop.push (v := xI (w32 (a * b))) (w32_in _))
  refine lv_imul hx.1 hx.2.1 d ?_
  rw [← Int32.ofInt_mul, ← i32_w]
  exact k1
theorem sn_iand (hx : x_Cx X z p l R s m args meth c) {a b : Int} (d : decode (zB z) pc = .ok (.iand, 1)) (kk : x_Wt X ρ0 n0 (zL z) p l e R s m args below meth c Q (pc + 1) ls (xI (x_and a b) :: st) M h cells slots) : x_Wt X ρ0 n0 (zL z) p l e R s m args below meth c Q (pc) ls (xI b :: xI a :: st) M h cells slots := by
  intro ρ lsC H locs S
  have k1 := kk ρ lsC H locs (S.pop.pop.push (v := xI (x_and a b)) (i32_of _))
  refine lv_iand hx.1 hx.2.1 d ?_
  rw [show Int32.ofInt a &&& Int32.ofInt b = Int32.ofInt (x_and a b) from (Int32.ofInt_toInt _).symm]
  exact k1
theorem sn_ior (hx : x_Cx X z p l R s m args meth c) {a b : Int} (d : decode (zB z) pc = .ok (.ior, 1)) (kk : x_Wt X ρ0 n0 (zL z) p l e R s m args below meth c Q (pc + 1) ls (xI (x_or a b) :: st) M h cells slots) : x_Wt X ρ0 n0 (zL z) p l e R s m args below meth c Q (pc) ls (xI b :: xI a :: st) M h cells slots := by
  intro ρ lsC H locs S
  have k1 := kk ρ lsC H locs (S.pop.pop.push (v := xI (x_or a b)) (i32_of _))
  refine lv_ior hx.1 hx.2.1 d ?_
  rw [show Int32.ofInt a ||| Int32.ofInt b = Int32.ofInt (x_or a b) from (Int32.ofInt_toInt _).symm]
  exact k1
theorem sn_ixor (hx : x_Cx X z p l R s m args meth c) {a b : Int} (d : decode (zB z) pc = .ok (.ixor, 1)) (kk : x_Wt X ρ0 n0 (zL z) p l e R s m args below meth c Q (pc + 1) ls (xI (x_xor a b) :: st) M h cells slots) : x_Wt X ρ0 n0 (zL z) p l e R s m args below meth c Q (pc) ls (xI b :: xI a :: st) M h cells slots := by
  intro ρ lsC H locs S
  have k1 := kk ρ lsC H locs (S.pop.pop.push (v := xI (x_xor a b)) (i32_of _))
  refine lv_ixor hx.1 hx.2.1 d ?_
  rw [show Int32.ofInt a ^^^ Int32.ofInt b = Int32.ofInt (x_xor a b) from (Int32.ofInt_toInt _).symm]
  exact k1
theorem sn_ishl (hx : x_Cx X z p l R s m args meth c) {a b : Int} (d : decode (zB z) pc = .ok (.ishl, 1)) (kk : x_Wt X ρ0 n0 (zL z) p l e R s m args below meth c Q (pc + 1) ls (xI (x_shl a b) :: st) M h cells slots) : x_Wt X ρ0 n0 (zL z) p l e R s m args below meth c Q (pc) ls (xI b :: xI a :: st) M h cells slots := by
  intro ρ lsC H locs S
  have k1 := kk ρ lsC H locs (S.pop.pop.push (v := xI (x_shl a b)) (i32_of _))
  refine lv_ishl hx.1 hx.2.1 d ?_
  rw [show Int32.ofInt a <<< (Int32.ofInt b &&& 31) = Int32.ofInt (x_shl a b) from (Int32.ofInt_toInt _).symm]
  exact k1
theorem sn_ishr (hx : x_Cx X z p l R s m args meth c) {a b : Int} (d : decode (zB z) pc = .ok (.ishr, 1)) (kk : x_Wt X ρ0 n0 (zL z) p l e R s m args below meth c Q (pc + 1) ls (xI (x_shr a b) :: st) M h cells slots) : x_Wt X ρ0 n0 (zL z) p l e R s m args below meth c Q (pc) ls (xI b :: xI a :: st) M h cells slots := by
  intro ρ lsC H locs S
  have k1 := kk ρ lsC H locs (S.pop.pop.push (v := xI (x_shr a b)) (i32_of _))
  refine lv_ishr hx.1 hx.2.1 d ?_
  rw [show Int32.ofInt a >>> (Int32.ofInt b &&& 31) = Int32.ofInt (x_shr a b) from (Int32.ofInt_toInt _).symm]
  exact k1
theorem sn_idiv (hx : x_Cx X z p l R s m args meth c) {a b : Int} (hb0 : b ≠ 0) (d : decode (zB z) pc = .ok (.idiv, 1)) (kk : x_Wt X ρ0 n0 (zL z) p l e R s m args below meth c Q (pc + 1) ls (xI (x_div a b) :: st) M h cells slots) : x_Wt X ρ0 n0 (zL z) p l e R s m args below meth c Q (pc) ls (xI b :: xI a :: st) M h cells slots := by
  intro ρ lsC H locs S
  have k1 := kk ρ lsC H locs (S.pop.pop.push (v := xI (x_div a b)) (i32_of _))
  refine lv_idiv hx.1 hx.2.1 d (by rw [show (0 : Int32) = Int32.ofInt 0 from rfl, i32_eq S.top i32_0]; exact hb0) ?_
  rw [show Int32.ofInt a / Int32.ofInt b = Int32.ofInt (x_div a b) from (Int32.ofInt_toInt _).symm]
  exact k1
theorem sn_irem (hx : x_Cx X z p l R s m args meth c) {a b : Int} (hb0 : b ≠ 0) (d : decode (zB z) pc = .ok (.irem, 1)) (kk : x_Wt X ρ0 n0 (zL z) p l e R s m args below meth c Q (pc + 1) ls (xI (x_rem a b) :: st) M h cells slots) : x_Wt X ρ0 n0 (zL z) p l e R s m args below meth c Q (pc) ls (xI b :: xI a :: st) M h cells slots := by
  intro ρ lsC H locs S
  have k1 := kk ρ lsC H locs (S.pop.pop.push (v := xI (x_rem a b)) (i32_of _))
  refine lv_irem hx.1 hx.2.1 d (by rw [show (0 : Int32) = Int32.ofInt 0 from rfl, i32_eq S.top i32_0]; exact hb0) ?_
  rw [show Int32.ofInt a - Int32.ofInt a / Int32.ofInt b * Int32.ofInt b = Int32.ofInt (x_rem a b) from (Int32.ofInt_toInt _).symm]
  exact k1
theorem sn_ladd (hx : x_Cx X z p l R s m args meth c) {a b : Int} (d : decode (zB z) pc = .ok (.ladd, 1)) (kk : x_Wt X ρ0 n0 (zL z) p l e R s m args below meth c Q (pc + 1) ls (xJ (w64 (a + b)) :: st) M h cells slots) : x_Wt X ρ0 n0 (zL z) p l e R s m args below meth c Q (pc) ls (xJ b :: xJ a :: st) M h cells slots := by
  intro ρ lsC H locs S
  have k1 := kk ρ lsC H locs (S.pop.pop.push (v := xJ (w64 (a + b))) (w64_in _))
  refine lv_ladd hx.1 hx.2.1 d ?_
  rw [← Int64.ofInt_add, ← i64_w]
  exact k1
theorem sn_lsub (hx : x_Cx X z p l R s m args meth c) {a b : Int} (d : decode (zB z) pc = .ok (.lsub, 1)) (kk : x_Wt X ρ0 n0 (zL z) p l e R s m args below meth c Q (pc + 1) ls (xJ (w64 (a - b)) :: st) M h cells slots) : x_Wt X ρ0 n0 (zL z) p l e R s m args below meth c Q (pc) ls (xJ b :: xJ a :: st) M h cells slots := by
  intro ρ lsC H locs S
  have k1 := kk ρ lsC H locs (S.pop.pop.push (v := xJ (w64 (a - b))) (w64_in _))
  refine lv_lsub hx.1 hx.2.1 d ?_
  rw [← Int64.ofInt_sub, ← i64_w]
  exact k1
theorem sn_lmul (hx : x_Cx X z p l R s m args meth c) {a b : Int} (d : decode (zB z) pc = .ok (.lmul, 1)) (kk : x_Wt X ρ0 n0 (zL z) p l e R s m args below meth c Q (pc + 1) ls (xJ (w64 (a * b)) :: st) M h cells slots) : x_Wt X ρ0 n0 (zL z) p l e R s m args below meth c Q (pc) ls (xJ b :: xJ a :: st) M h cells slots := by
  intro ρ lsC H locs S
  have k1 := kk ρ lsC H locs (S.pop.pop.push (v := xJ (w64 (a * b))) (w64_in _))
  refine lv_lmul hx.1 hx.2.1 d ?_
  rw [← Int64.ofInt_mul, ← i64_w]
  exact k1
theorem sn_land (hx : x_Cx X z p l R s m args meth c) {a b : Int} (d : decode (zB z) pc = .ok (.land, 1)) (kk : x_Wt X ρ0 n0 (zL z) p l e R s m args below meth c Q (pc + 1) ls (xJ (x_landL a b) :: st) M h cells slots) : x_Wt X ρ0 n0 (zL z) p l e R s m args below meth c Q (pc) ls (xJ b :: xJ a :: st) M h cells slots := by
  intro ρ lsC H locs S
  have k1 := kk ρ lsC H locs (S.pop.pop.push (v := xJ (x_landL a b)) (i64_of _))
  refine lv_land hx.1 hx.2.1 d ?_
  rw [show Int64.ofInt a &&& Int64.ofInt b = Int64.ofInt (x_landL a b) from (Int64.ofInt_toInt _).symm]
  exact k1
theorem sn_lshr (hx : x_Cx X z p l R s m args meth c) {a b : Int} (d : decode (zB z) pc = .ok (.lshr, 1)) (kk : x_Wt X ρ0 n0 (zL z) p l e R s m args below meth c Q (pc + 1) ls (xJ (x_shrL a b) :: st) M h cells slots) : x_Wt X ρ0 n0 (zL z) p l e R s m args below meth c Q (pc) ls (xI b :: xJ a :: st) M h cells slots := by
  intro ρ lsC H locs S
  exact lv_lshr hx.1 hx.2.1 d (v := Int64.ofInt (x_shrL a b)) (Int64.ofInt_toInt _).symm (kk ρ lsC H locs (S.pop.pop.push (v := xJ (x_shrL a b)) (i64_of _)))
theorem sn_i2l (hx : x_Cx X z p l R s m args meth c) {a : Int} (d : decode (zB z) pc = .ok (.i2l, 1)) (kk : x_Wt X ρ0 n0 (zL z) p l e R s m args below meth c Q (pc + 1) ls (xJ a :: st) M h cells slots) : x_Wt X ρ0 n0 (zL z) p l e R s m args below meth c Q (pc) ls (xI a :: st) M h cells slots := by
  intro ρ lsC H locs S
  have ha : x_i32 a := S.top
  exact lv_i2l hx.1 hx.2.1 d (v := Int64.ofInt a) (Int64.toInt_inj.mp (by rw [Int32.toInt_toInt64, i32_to ha, i64_to (by unfold x_i64; unfold x_i32 at ha; omega)])) (kk ρ lsC H locs (S.pop.push (v := xJ a) (by show x_i64 a; unfold x_i64; unfold x_i32 at ha; omega)))
theorem sn_l2i (hx : x_Cx X z p l R s m args meth c) {a : Int} (d : decode (zB z) pc = .ok (.l2i, 1)) (kk : x_Wt X ρ0 n0 (zL z) p l e R s m args below meth c Q (pc + 1) ls (xI (w32 a) :: st) M h cells slots) : x_Wt X ρ0 n0 (zL z) p l e R s m args below meth c Q (pc) ls (xJ a :: st) M h cells slots := by
  intro ρ lsC H locs S
  have ha : x_i64 a := S.top
  exact lv_l2i hx.1 hx.2.1 d (v := Int32.ofInt (w32 a)) (by rw [i32_w]; show Int32.ofInt (Int64.ofInt a).toInt = _; rw [i64_to ha]) (kk ρ lsC H locs (S.pop.push (v := xI (w32 a)) (w32_in _)))
theorem sn_i2b (hx : x_Cx X z p l R s m args meth c) {a : Int} (d : decode (zB z) pc = .ok (.i2b, 1)) (kk : x_Wt X ρ0 n0 (zL z) p l e R s m args below meth c Q (pc + 1) ls (xI (w8 a) :: st) M h cells slots) : x_Wt X ρ0 n0 (zL z) p l e R s m args below meth c Q (pc) ls (xI a :: st) M h cells slots := by
  intro ρ lsC H locs S
  exact lv_i2b hx.1 hx.2.1 d (v := Int32.ofInt (w8 a)) (Int32.toInt_inj.mp (by rw [i32_to (w8_in a), Int8.toInt_toInt32, Int32.toInt8_ofInt, Int8.toInt_ofInt]; rfl)) (kk ρ lsC H locs (S.pop.push (v := xI (w8 a)) (w8_in _)))
theorem sn_lcmp (hx : x_Cx X z p l R s m args meth c) {a b : Int} (d : decode (zB z) pc = .ok (.lcmp, 1)) (kk : x_Wt X ρ0 n0 (zL z) p l e R s m args below meth c Q (pc + 1) ls (xI (x_cmp a b) :: st) M h cells slots) : x_Wt X ρ0 n0 (zL z) p l e R s m args below meth c Q (pc) ls (xJ b :: xJ a :: st) M h cells slots := by
  intro ρ lsC H locs S
  have hb : x_i64 b := S.top
  have ha : x_i64 a := S.pop.top
  refine W.lcmp hx.1 hx.2.1 d ?_
  have e : lg_cmp (Int64.ofInt a) (Int64.ofInt b) = Int32.ofInt (x_cmp a b) := by
    unfold lg_cmp x_cmp
    simp only [Int64.lt_iff_toInt_lt, ← Int64.toInt_inj, i64_to ha, i64_to hb, GT.gt]
    by_cases h1 : a < b
    · rw [if_neg (show ¬ b < a by omega), if_neg (show ¬ a = b by omega), if_pos h1]; rfl
    · by_cases h2 : a = b
      · rw [if_neg (show ¬ b < a by omega), if_pos h2, if_neg h1, if_pos h2]; rfl
      · rw [if_pos (show b < a by omega), if_neg h1, if_neg h2]; rfl
  rw [e]
  exact kk ρ lsC H locs (S.pop.pop.push (v := xI (x_cmp a b)) (by show x_i32 _; unfold x_i32 x_cmp; split <;> (try split) <;> omega))
theorem sn_dup (hx : x_Cx X z p l R s m args meth c) {v : xV} (hv : x_cat v = 1) (d : decode (zB z) pc = .ok (.dup, 1)) (kk : x_Wt X ρ0 n0 (zL z) p l e R s m args below meth c Q (pc + 1) ls (v :: v :: st) M h cells slots) : x_Wt X ρ0 n0 (zL z) p l e R s m args below meth c Q (pc) ls (v :: st) M h cells slots := by
  intro ρ lsC H locs S
  exact lv_dup hx.1 hx.2.1 d (by rw [x_cat_c]; exact hv) (kk ρ lsC H locs (S.push S.top))
theorem sn_pop (hx : x_Cx X z p l R s m args meth c) {v : xV} (hv : x_cat v = 1) (d : decode (zB z) pc = .ok (.pop, 1)) (kk : x_Wt X ρ0 n0 (zL z) p l e R s m args below meth c Q (pc + 1) ls st M h cells slots) : x_Wt X ρ0 n0 (zL z) p l e R s m args below meth c Q (pc) ls (v :: st) M h cells slots := by
  intro ρ lsC H locs S
  exact lv_pop hx.1 hx.2.1 d (by rw [x_cat_c]; exact hv) (kk ρ lsC H locs S.pop)
theorem sn_dup2 (hx : x_Cx X z p l R s m args meth c) {v w : xV} (hv : x_cat v = 1) (hw : x_cat w = 1) (d : decode (zB z) pc = .ok (.dup2, 1)) (kk : x_Wt X ρ0 n0 (zL z) p l e R s m args below meth c Q (pc + 1) ls (v :: w :: v :: w :: st) M h cells slots) : x_Wt X ρ0 n0 (zL z) p l e R s m args below meth c Q (pc) ls (v :: w :: st) M h cells slots := by
  intro ρ lsC H locs S
  exact lv_dup2_11 hx.1 hx.2.1 d (by rw [x_cat_c]; exact hv) (by rw [x_cat_c]; exact hw) (kk ρ lsC H locs ((S.push S.pop.top).push S.top))
theorem sn_icmp_eq (hx : x_Cx X z p l R s m args meth c) {a b o : Int} {t : Nat} (ht : (pc : Int) + o = (t : Int)) (d : decode (zB z) pc = .ok (.if_icmp .eq o, 3)) (k1 : a = b → x_Wt X ρ0 n0 (zL z) p l e R s m args below meth c Q (t) ls st M h cells slots) (k2 : ¬ (a = b) → x_Wt X ρ0 n0 (zL z) p l e R s m args below meth c Q (pc + 3) ls st M h cells slots) : x_Wt X ρ0 n0 (zL z) p l e R s m args below meth c Q (pc) ls (xI b :: xI a :: st) M h cells slots := by
  intro ρ lsC H locs S
  have e := i32_eq S.pop.top S.top
  refine lv_icmp_eq hx.1 hx.2.1 d ht (fun hc => k1 ?_ ρ lsC H locs S.pop.pop) (fun hc => k2 ?_ ρ lsC H locs S.pop.pop)
  · first | exact e.mp hc | exact (not_congr e).mp hc | exact (fun z => hc (e.mpr z))
  · first | exact (not_congr e).mp hc | exact (fun z => z (e.mp hc))
theorem sn_if_eq (hx : x_Cx X z p l R s m args meth c) {a o : Int} {t : Nat} (ht : (pc : Int) + o = (t : Int)) (d : decode (zB z) pc = .ok (.ifCond .eq o, 3)) (k1 : a = 0 → x_Wt X ρ0 n0 (zL z) p l e R s m args below meth c Q (t) ls st M h cells slots) (k2 : ¬ (a = 0) → x_Wt X ρ0 n0 (zL z) p l e R s m args below meth c Q (pc + 3) ls st M h cells slots) : x_Wt X ρ0 n0 (zL z) p l e R s m args below meth c Q (pc) ls (xI a :: st) M h cells slots := by
  intro ρ lsC H locs S
  have e := i32_eq S.top i32_0
  refine lv_if_eq hx.1 hx.2.1 d ht (fun hc => k1 ?_ ρ lsC H locs S.pop) (fun hc => k2 ?_ ρ lsC H locs S.pop)
  · first | exact e.mp hc | exact (not_congr e).mp hc | exact (fun z => hc (e.mpr z))
  · first | exact (not_congr e).mp hc | exact (fun z => z (e.mp hc))
theorem sn_icmp_ne (hx : x_Cx X z p l R s m args meth c) {a b o : Int} {t : Nat} (ht : (pc : Int) + o = (t : Int)) (d : decode (zB z) pc = .ok (.if_icmp .ne o, 3)) (k1 : a ≠ b → x_Wt X ρ0 n0 (zL z) p l e R s m args below meth c Q (t) ls st M h cells slots) (k2 : ¬ (a ≠ b) → x_Wt X ρ0 n0 (zL z) p l e R s m args below meth c Q (pc + 3) ls st M h cells slots) : x_Wt X ρ0 n0 (zL z) p l e R s m args below meth c Q (pc) ls (xI b :: xI a :: st) M h cells slots := by
  intro ρ lsC H locs S
  have e := i32_eq S.pop.top S.top
  refine lv_icmp_ne hx.1 hx.2.1 d ht (fun hc => k1 ?_ ρ lsC H locs S.pop.pop) (fun hc => k2 ?_ ρ lsC H locs S.pop.pop)
  · first | exact e.mp hc | exact (not_congr e).mp hc | exact (fun z => hc (e.mpr z))
  · first | exact (not_congr e).mp hc | exact (fun z => z (e.mp hc))
theorem sn_if_ne (hx : x_Cx X z p l R s m args meth c) {a o : Int} {t : Nat} (ht : (pc : Int) + o = (t : Int)) (d : decode (zB z) pc = .ok (.ifCond .ne o, 3)) (k1 : a ≠ 0 → x_Wt X ρ0 n0 (zL z) p l e R s m args below meth c Q (t) ls st M h cells slots) (k2 : ¬ (a ≠ 0) → x_Wt X ρ0 n0 (zL z) p l e R s m args below meth c Q (pc + 3) ls st M h cells slots) : x_Wt X ρ0 n0 (zL z) p l e R s m args below meth c Q (pc) ls (xI a :: st) M h cells slots := by
  intro ρ lsC H locs S
  have e := i32_eq S.top i32_0
  refine lv_if_ne hx.1 hx.2.1 d ht (fun hc => k1 ?_ ρ lsC H locs S.pop) (fun hc => k2 ?_ ρ lsC H locs S.pop)
  · first | exact e.mp hc | exact (not_congr e).mp hc | exact (fun z => hc (e.mpr z))
  · first | exact (not_congr e).mp hc | exact (fun z => z (e.mp hc))
theorem sn_icmp_lt (hx : x_Cx X z p l R s m args meth c) {a b o : Int} {t : Nat} (ht : (pc : Int) + o = (t : Int)) (d : decode (zB z) pc = .ok (.if_icmp .lt o, 3)) (k1 : a < b → x_Wt X ρ0 n0 (zL z) p l e R s m args below meth c Q (t) ls st M h cells slots) (k2 : ¬ (a < b) → x_Wt X ρ0 n0 (zL z) p l e R s m args below meth c Q (pc + 3) ls st M h cells slots) : x_Wt X ρ0 n0 (zL z) p l e R s m args below meth c Q (pc) ls (xI b :: xI a :: st) M h cells slots := by
  intro ρ lsC H locs S
  have e := i32_lt S.pop.top S.top
  refine lv_icmp_lt hx.1 hx.2.1 d ht (fun hc => k1 ?_ ρ lsC H locs S.pop.pop) (fun hc => k2 ?_ ρ lsC H locs S.pop.pop)
  · first | exact e.mp hc | exact (not_congr e).mp hc | exact (fun z => hc (e.mpr z))
  · first | exact (not_congr e).mp hc | exact (fun z => z (e.mp hc))
theorem sn_if_lt (hx : x_Cx X z p l R s m args meth c) {a o : Int} {t : Nat} (ht : (pc : Int) + o = (t : Int)) (d : decode (zB z) pc = .ok (.ifCond .lt o, 3)) (k1 : a < 0 → x_Wt X ρ0 n0 (zL z) p l e R s m args below meth c Q (t) ls st M h cells slots) (k2 : ¬ (a < 0) → x_Wt X ρ0 n0 (zL z) p l e R s m args below meth c Q (pc + 3) ls st M h cells slots) : x_Wt X ρ0 n0 (zL z) p l e R s m args below meth c Q (pc) ls (xI a :: st) M h cells slots := by
  intro ρ lsC H locs S
  have e := i32_lt S.top i32_0
  refine lv_if_lt hx.1 hx.2.1 d ht (fun hc => k1 ?_ ρ lsC H locs S.pop) (fun hc => k2 ?_ ρ lsC H locs S.pop)
  · first | exact e.mp hc | exact (not_congr e).mp hc | exact (fun z => hc (e.mpr z))
  · first | exact (not_congr e).mp hc | exact (fun z => z (e.mp hc))
theorem sn_icmp_ge (hx : x_Cx X z p l R s m args meth c) {a b o : Int} {t : Nat} (ht : (pc : Int) + o = (t : Int)) (d : decode (zB z) pc = .ok (.if_icmp .ge o, 3)) (k1 : b ≤ a → x_Wt X ρ0 n0 (zL z) p l e R s m args below meth c Q (t) ls st M h cells slots) (k2 : ¬ (b ≤ a) → x_Wt X ρ0 n0 (zL z) p l e R s m args below meth c Q (pc + 3) ls st M h cells slots) : x_Wt X ρ0 n0 (zL z) p l e R s m args below meth c Q (pc) ls (xI b :: xI a :: st) M h cells slots := by
  intro ρ lsC H locs S
  have e := i32_le S.top S.pop.top
  refine lv_icmp_ge hx.1 hx.2.1 d ht (fun hc => k1 ?_ ρ lsC H locs S.pop.pop) (fun hc => k2 ?_ ρ lsC H locs S.pop.pop)
  · first | exact e.mp hc | exact (not_congr e).mp hc | exact (fun z => hc (e.mpr z))
  · first | exact (not_congr e).mp hc | exact (fun z => z (e.mp hc))
theorem sn_if_ge (hx : x_Cx X z p l R s m args meth c) {a o : Int} {t : Nat} (ht : (pc : Int) + o = (t : Int)) (d : decode (zB z) pc = .ok (.ifCond .ge o, 3)) (k1 : 0 ≤ a → x_Wt X ρ0 n0 (zL z) p l e R s m args below meth c Q (t) ls st M h cells slots) (k2 : ¬ (0 ≤ a) → x_Wt X ρ0 n0 (zL z) p l e R s m args below meth c Q (pc + 3) ls st M h cells slots) : x_Wt X ρ0 n0 (zL z) p l e R s m args below meth c Q (pc) ls (xI a :: st) M h cells slots := by
  intro ρ lsC H locs S
  have e := i32_le i32_0 S.top
  refine lv_if_ge hx.1 hx.2.1 d ht (fun hc => k1 ?_ ρ lsC H locs S.pop) (fun hc => k2 ?_ ρ lsC H locs S.pop)
  · first | exact e.mp hc | exact (not_congr e).mp hc | exact (fun z => hc (e.mpr z))
  · first | exact (not_congr e).mp hc | exact (fun z => z (e.mp hc))
theorem sn_icmp_gt (hx : x_Cx X z p l R s m args meth c) {a b o : Int} {t : Nat} (ht : (pc : Int) + o = (t : Int)) (d : decode (zB z) pc = .ok (.if_icmp .gt o, 3)) (k1 : b < a → x_Wt X ρ0 n0 (zL z) p l e R s m args below meth c Q (t) ls st M h cells slots) (k2 : ¬ (b < a) → x_Wt X ρ0 n0 (zL z) p l e R s m args below meth c Q (pc + 3) ls st M h cells slots) : x_Wt X ρ0 n0 (zL z) p l e R s m args below meth c Q (pc) ls (xI b :: xI a :: st) M h cells slots := by
  intro ρ lsC H locs S
  have e := i32_lt S.top S.pop.top
  refine lv_icmp_gt hx.1 hx.2.1 d ht (fun hc => k1 ?_ ρ lsC H locs S.pop.pop) (fun hc => k2 ?_ ρ lsC H locs S.pop.pop)
  · first | exact e.mp hc | exact (not_congr e).mp hc | exact (fun z => hc (e.mpr z))
  · first | exact (not_congr e).mp hc | exact (fun z => z (e.mp hc))
theorem sn_if_gt (hx : x_Cx X z p l R s m args meth c) {a o : Int} {t : Nat} (ht : (pc : Int) + o = (t : Int)) (d : decode (zB z) pc = .ok (.ifCond .gt o, 3)) (k1 : 0 < a → x_Wt X ρ0 n0 (zL z) p l e R s m args below meth c Q (t) ls st M h cells slots) (k2 : ¬ (0 < a) → x_Wt X ρ0 n0 (zL z) p l e R s m args below meth c Q (pc + 3) ls st M h cells slots) : x_Wt X ρ0 n0 (zL z) p l e R s m args below meth c Q (pc) ls (xI a :: st) M h cells slots := by
  intro ρ lsC H locs S
  have e := i32_lt i32_0 S.top
  refine lv_if_gt hx.1 hx.2.1 d ht (fun hc => k1 ?_ ρ lsC H locs S.pop) (fun hc => k2 ?_ ρ lsC H locs S.pop)
  · first | exact e.mp hc | exact (not_congr e).mp hc | exact (fun z => hc (e.mpr z))
  · first | exact (not_congr e).mp hc | exact (fun z => z (e.mp hc))
theorem sn_icmp_le (hx : x_Cx X z p l R s m args meth c) {a b o : Int} {t : Nat} (ht : (pc : Int) + o = (t : Int)) (d : decode (zB z) pc = .ok (.if_icmp .le o, 3)) (k1 : a ≤ b → x_Wt X ρ0 n0 (zL z) p l e R s m args below meth c Q (t) ls st M h cells slots) (k2 : ¬ (a ≤ b) → x_Wt X ρ0 n0 (zL z) p l e R s m args below meth c Q (pc + 3) ls st M h cells slots) : x_Wt X ρ0 n0 (zL z) p l e R s m args below meth c Q (pc) ls (xI b :: xI a :: st) M h cells slots := by
  intro ρ lsC H locs S
  have e := i32_le S.pop.top S.top
  refine lv_icmp_le hx.1 hx.2.1 d ht (fun hc => k1 ?_ ρ lsC H locs S.pop.pop) (fun hc => k2 ?_ ρ lsC H locs S.pop.pop)
  · first | exact e.mp hc | exact (not_congr e).mp hc | exact (fun z => hc (e.mpr z))
  · first | exact (not_congr e).mp hc | exact (fun z => z (e.mp hc))
theorem sn_if_le (hx : x_Cx X z p l R s m args meth c) {a o : Int} {t : Nat} (ht : (pc : Int) + o = (t : Int)) (d : decode (zB z) pc = .ok (.ifCond .le o, 3)) (k1 : a ≤ 0 → x_Wt X ρ0 n0 (zL z) p l e R s m args below meth c Q (t) ls st M h cells slots) (k2 : ¬ (a ≤ 0) → x_Wt X ρ0 n0 (zL z) p l e R s m args below meth c Q (pc + 3) ls st M h cells slots) : x_Wt X ρ0 n0 (zL z) p l e R s m args below meth c Q (pc) ls (xI a :: st) M h cells slots := by
  intro ρ lsC H locs S
  have e := i32_le S.top i32_0
  refine lv_if_le hx.1 hx.2.1 d ht (fun hc => k1 ?_ ρ lsC H locs S.pop) (fun hc => k2 ?_ ρ lsC H locs S.pop)
  · first | exact e.mp hc | exact (not_congr e).mp hc | exact (fun z => hc (e.mpr z))
  · first | exact (not_congr e).mp hc | exact (fun z => z (e.mp hc))
theorem x_rf_0 {ρ : Nat → Nat} : x_rf ρ 0 = none := rfl
theorem x_rf_s {ρ : Nat → Nat} {r : Nat} (h : r ≠ 0) : x_rf ρ r = some (ρ r) := if_neg h
theorem sn_ifnull (hx : x_Cx X z p l R s m args meth c) {o : Int} {t r : Nat} (ht : (pc : Int) + o = (t : Int)) (d : decode (zB z) pc = .ok (.ifnull o, 3)) (k1 : r = 0 → x_Wt X ρ0 n0 (zL z) p l e R s m args below meth c Q (t) ls st M h cells slots) (k2 : r ≠ 0 → x_Wt X ρ0 n0 (zL z) p l e R s m args below meth c Q (pc + 3) ls st M h cells slots) : x_Wt X ρ0 n0 (zL z) p l e R s m args below meth c Q (pc) ls (xA r :: st) M h cells slots := by
  intro ρ lsC H locs S
  show W p l e R s m args below meth c H locs cells slots Q (F0 m pc lsC (va_rf (x_rf ρ r) :: st.map (x_c X ρ)))
  by_cases hr : r = 0
  · rw [hr]
    exact lv_ifnullN hx.1 hx.2.1 d ht (k1 hr ρ lsC H locs S.pop)
  · rw [x_rf_s hr]
    exact lv_ifnull hx.1 hx.2.1 d (k2 hr ρ lsC H locs S.pop)
theorem sn_ifnonnull (hx : x_Cx X z p l R s m args meth c) {o : Int} {t r : Nat} (ht : (pc : Int) + o = (t : Int)) (d : decode (zB z) pc = .ok (.ifnonnull o, 3)) (k1 : r ≠ 0 → x_Wt X ρ0 n0 (zL z) p l e R s m args below meth c Q (t) ls st M h cells slots) (k2 : r = 0 → x_Wt X ρ0 n0 (zL z) p l e R s m args below meth c Q (pc + 3) ls st M h cells slots) : x_Wt X ρ0 n0 (zL z) p l e R s m args below meth c Q (pc) ls (xA r :: st) M h cells slots := by
  intro ρ lsC H locs S
  show W p l e R s m args below meth c H locs cells slots Q (F0 m pc lsC (va_rf (x_rf ρ r) :: st.map (x_c X ρ)))
  by_cases hr : r = 0
  · rw [hr]
    exact lv_ifnonnullN hx.1 hx.2.1 d (k2 hr ρ lsC H locs S.pop)
  · rw [x_rf_s hr]
    exact lv_ifnonnull hx.1 hx.2.1 d ht (k1 hr ρ lsC H locs S.pop)
theorem sn_goto (hx : x_Cx X z p l R s m args meth c) {o : Int} {t : Nat} (ht : (pc : Int) + o = (t : Int)) (d : decode (zB z) pc = .ok (.goto o, 3)) (kk : x_Wt X ρ0 n0 (zL z) p l e R s m args below meth c Q (t) ls st M h cells slots) : x_Wt X ρ0 n0 (zL z) p l e R s m args below meth c Q (pc) ls st M h cells slots := fun ρ lsC H locs S => lv_goto hx.1 hx.2.1 d ht (kk ρ lsC H locs S)
theorem sn_ineg (hx : x_Cx X z p l R s m args meth c) {a : Int} (d : decode (zB z) pc = .ok (.ineg, 1)) (kk : x_Wt X ρ0 n0 (zL z) p l e R s m args below meth c Q (pc + 1) ls (xI (w32 (-a)) :: st) M h cells slots) : x_Wt X ρ0 n0 (zL z) p l e R s m args below meth c Q (pc) ls (xI a :: st) M h cells slots := by
  intro ρ lsC H locs S
  have k1 := kk ρ lsC H locs (S.pop.push (v := xI (w32 (-a))) (w32_in _))
  refine lv_ineg hx.1 hx.2.1 d ?_
  rw [← Int32.ofInt_neg, ← i32_w]
  exact k1
theorem u32c (x : Int32) : (x.toUInt32 % 65536).toInt32.toInt = x.toInt % 65536 := by
  have h1 : x.toUInt32.toNat = (x.toInt % 4294967296).toNat := by
    have := x.toInt_lt
    have := x.le_toInt
    have e : x.toInt = x.toUInt32.toBitVec.toInt := rfl
    rw [e, BitVec.toInt_eq_toNat_cond]
    show x.toUInt32.toBitVec.toNat = _
    have := x.toUInt32.toBitVec.isLt
    split <;> omega
  have h2 : (x.toUInt32 % 65536).toNat = x.toUInt32.toNat % 65536 := by simp
  have e2 : (x.toUInt32 % 65536).toInt32.toInt = ((x.toUInt32 % 65536).toBitVec).toInt := rfl
  rw [e2, BitVec.toInt_eq_toNat_cond]
  have h3 : (x.toUInt32 % 65536).toBitVec.toNat = x.toUInt32.toNat % 65536 := h2
  rw [h3, h1]
  have := x.toInt_lt
  have := x.le_toInt
  split <;> omega
theorem sn_i2c (hx : x_Cx X z p l R s m args meth c) {a : Int} (d : decode (zB z) pc = .ok (.i2c, 1)) (kk : x_Wt X ρ0 n0 (zL z) p l e R s m args below meth c Q (pc + 1) ls (xI (a % 65536) :: st) M h cells slots) : x_Wt X ρ0 n0 (zL z) p l e R s m args below meth c Q (pc) ls (xI a :: st) M h cells slots := by
  intro ρ lsC H locs S
  have ha : x_i32 a := S.top
  have hr : x_i32 (a % 65536) := by unfold x_i32; omega
  exact lv_i2c hx.1 hx.2.1 d (v := Int32.ofInt (a % 65536)) (Int32.toInt_inj.mp (by rw [u32c, i32_to ha, i32_to hr])) (kk ρ lsC H locs (S.pop.push (v := xI (a % 65536)) hr))
theorem sn_iushr (hx : x_Cx X z p l R s m args meth c) {a b : Int} (d : decode (zB z) pc = .ok (.iushr, 1)) (kk : x_Wt X ρ0 n0 (zL z) p l e R s m args below meth c Q (pc + 1) ls (xI (x_ushr a b) :: st) M h cells slots) : x_Wt X ρ0 n0 (zL z) p l e R s m args below meth c Q (pc) ls (xI b :: xI a :: st) M h cells slots := by
  intro ρ lsC H locs S
  refine lv_iushr hx.1 hx.2.1 d (v := Int32.ofInt (x_ushr a b)) ?_ (kk ρ lsC H locs (S.pop.pop.push (v := xI (x_ushr a b)) (i32_of _)))
  unfold x_ushr
  rw [Int32.ofInt_toInt]
theorem sn_lor (hx : x_Cx X z p l R s m args meth c) {a b : Int} (d : decode (zB z) pc = .ok (.lor, 1)) (kk : x_Wt X ρ0 n0 (zL z) p l e R s m args below meth c Q (pc + 1) ls (xJ (x_orL a b) :: st) M h cells slots) : x_Wt X ρ0 n0 (zL z) p l e R s m args below meth c Q (pc) ls (xJ b :: xJ a :: st) M h cells slots := by
  intro ρ lsC H locs S
  have k1 := kk ρ lsC H locs (S.pop.pop.push (v := xJ (x_orL a b)) (i64_of _))
  refine lv_lor hx.1 hx.2.1 d ?_
  have e : Int64.ofInt (x_orL a b) = Int64.ofInt a ||| Int64.ofInt b := by unfold x_orL; rw [Int64.ofInt_toInt]
  rw [← e]
  exact k1
theorem sn_lshl (hx : x_Cx X z p l R s m args meth c) {a b : Int} (d : decode (zB z) pc = .ok (.lshl, 1)) (kk : x_Wt X ρ0 n0 (zL z) p l e R s m args below meth c Q (pc + 1) ls (xJ (x_shlL a b) :: st) M h cells slots) : x_Wt X ρ0 n0 (zL z) p l e R s m args below meth c Q (pc) ls (xI b :: xJ a :: st) M h cells slots := by
  intro ρ lsC H locs S
  refine lv_lshl hx.1 hx.2.1 d (v := Int64.ofInt (x_shlL a b)) ?_ (kk ρ lsC H locs (S.pop.pop.push (v := xJ (x_shlL a b)) (i64_of _)))
  unfold x_shlL
  rw [Int64.ofInt_toInt]
theorem sn_dup_x1 (hx : x_Cx X z p l R s m args meth c) {v w : xV} (hv : x_cat v = 1) (hw : x_cat w = 1) (d : decode (zB z) pc = .ok (.dup_x1, 1)) (kk : x_Wt X ρ0 n0 (zL z) p l e R s m args below meth c Q (pc + 1) ls (v :: w :: v :: st) M h cells slots) : x_Wt X ρ0 n0 (zL z) p l e R s m args below meth c Q (pc) ls (v :: w :: st) M h cells slots := by
  intro ρ lsC H locs S
  exact lv_dup_x1 hx.1 hx.2.1 d (by rw [x_cat_c]; exact hv) (by rw [x_cat_c]; exact hw) (kk ρ lsC H locs ((S.pop.pop.push S.top).push S.pop.top |>.push S.top))
end SN
