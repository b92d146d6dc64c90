/-! bodies with handlers: the law's helpers (by wip/whole/mk77.py out of the rows of bodies without handlers) -/
def x_Cy (X : xX) (z : xMD) (p : Program) (l : Launch) (R : Room) (s : State) (m : MethodId) (args : Array Value) (meth : Method) (c : Code) : Prop :=
  p.tables.exec = Jvm.exec ∧ c.code = zB z ∧ c.maxLocals = zL z ∧ s.vm.findClass (zN z).cls = some m.cls ∧ (∀ w ∈ x_tb, w.before args s = true) ∧ meth.sig.returnType = zR z ∧ meth.locks = false ∧ l.stackTraces = false ∧ (c.exceptionTable.toList = tableOf (x_hh z)) ∧ R = x_rm z ∧ meth.name = (zN z).name ∧ va_K (XD X) vwCl (x_tys X) s ∧ x_O X s s.heap ∧ XB X ≤ s.heap.size
/-- the exception's number of a catch type of the law's -/
def y_cls (k : Nat) : Nat := if k = 34 then 0 else if k = 106 then 1 else if k = 111 then 2 else 9
/-- where a throw is taken, and its number -/
def y_find : List (Nat × Nat × Nat × Nat) → Nat → Nat → Option (Nat × Nat)
  | [], _, _ => none
  | q :: qs, e, i => if y_cls q.2.2.2 = e then some (q.2.2.1, i + 1) else y_find qs e (i + 1)
theorem y_find_at : ∀ (hs : List (Nat × Nat × Nat × Nat)) (e i t j : Nat), y_find hs e i = some (t, j) → ∃ pre x suf, hs = pre ++ x :: suf ∧ x.2.2.1 = t ∧ y_cls x.2.2.2 = e ∧ ∀ q ∈ pre, y_cls q.2.2.2 ≠ e
  | [], _, _, _, _, h => by cases h
  | q :: qs, e, i, t, j, h => by
    unfold y_find at h
    by_cases he : y_cls q.2.2.2 = e
    · rw [if_pos he] at h
      cases h
      exact ⟨[], q, qs, rfl, rfl, he, fun z hz => absurd hz List.not_mem_nil⟩
    · rw [if_neg he] at h
      obtain ⟨pre, x, suf, h1, h2, h3, h4⟩ := y_find_at qs e (i + 1) t j h
      refine ⟨q :: pre, x, suf, by rw [h1]; rfl, h2, h3, fun z hz => ?_⟩
      rcases List.mem_cons.mp hz with rfl | hz
      · exact he
      · exact h4 z hz
def y_lk (k : Nat) : Jvm.Cond := .classLink "ScorePartsLaw" k (x_en (y_cls k))
set_option maxRecDepth 20000 in
theorem y_lk_ok : ∀ k ∈ [34, 106, 111], y_lk k ∈ x_tb := by
  have h : [34, 106, 111].all (fun k => decide (y_lk k ∈ x_tbl) && goodWord (y_lk k)) = true := by decide +kernel
  intro k hk
  have h1 := List.all_eq_true.mp h k hk
  rw [Bool.and_eq_true, decide_eq_true_eq] at h1
  exact List.mem_filter.mpr h1
set_option maxRecDepth 20000 in
theorem y_cast_ok : ∀ e ∈ [0, 1, 2], Cond.castable (x_en e) (x_en e) ∈ x_tbl ∧ vx_ot (Cond.castable (x_en e) (x_en e)) = true := by
  have h : [0, 1, 2].all (fun e => decide (Cond.castable (x_en e) (x_en e) ∈ x_tbl) && vx_ot (Cond.castable (x_en e) (x_en e))) = true := by decide +kernel
  intro k hk
  have h1 := List.all_eq_true.mp h k hk
  rw [Bool.and_eq_true, decide_eq_true_eq] at h1
  exact h1
theorem y_cls_lt {k : Nat} (h : y_cls k < 3) : k ∈ [34, 106, 111] := by
  unfold y_cls at h
  by_cases h1 : k = 34
  · rw [h1]; decide
  by_cases h2 : k = 106
  · rw [h2]; decide
  by_cases h3 : k = 111
  · rw [h3]; decide
  · rw [if_neg h1, if_neg h2, if_neg h3] at h
    omega
theorem y_ncl {a b : Nat} (ha : a < 3) (hb : b < 3) (h : a ≠ b) : (x_en a, x_en b) ∈ x_ncl := by
  have : ∀ a ∈ [0, 1, 2], ∀ b ∈ [0, 1, 2], a ≠ b → (x_en a, x_en b) ∈ x_ncl := by decide +kernel
  refine this a ?_ b ?_ h
  · have : a = 0 ∨ a = 1 ∨ a = 2 := by omega
    rcases this with rfl | rfl | rfl <;> decide
  · have : b = 0 ∨ b = 1 ∨ b = 2 := by omega
    rcases this with rfl | rfl | rfl <;> decide
section SY
variable {X : xX} {ρ0 : Nat → Nat} {n0 : Nat} {z : xMD} {p : Program} {l : Launch} {e : Env} {R : Room} {s : State} {m : MethodId} {args : Array Value} {below : List Frame} {meth : Method} {c : Code} {Q : State → Prop} {Φ : xO → xM → xH → Prop}
variable {pc cells slots : Nat} {ls : xL} {st : List xV} {M : xM} {h : xH}
theorem x_Cy.K (hx : x_Cy X z p l R s m args meth c) : va_K (XD X) vwCl (x_tys X) s := hx.2.2.2.2.2.2.2.2.2.2.2.1
theorem x_Cy.B (hx : x_Cy X z p l R s m args meth c) : XB X ≤ s.heap.size := hx.2.2.2.2.2.2.2.2.2.2.2.2.2
theorem x_Cy.O (hx : x_Cy X z p l R s m args meth c) : x_O X s s.heap := hx.2.2.2.2.2.2.2.2.2.2.2.2.1
theorem x_Cy.hts (hx : x_Cy X z p l R s m args meth c) : ∀ w ∈ x_tb, w.before args s = true := hx.2.2.2.2.1
theorem x_Cy.own (hx : x_Cy X z p l R s m args meth c) : s.vm.findClass (zN z).cls = some m.cls := hx.2.2.2.1
theorem x_Cy.rm (hx : x_Cy X z p l R s m args meth c) : R = x_rm z := hx.2.2.2.2.2.2.2.2.2.1
theorem x_Cy.lock (hx : x_Cy X z p l R s m args meth c) : meth.locks = false := hx.2.2.2.2.2.2.1
theorem x_Cy.ret (hx : x_Cy X z p l R s m args meth c) : meth.sig.returnType = zR z := hx.2.2.2.2.2.1
theorem x_Cy.tr (hx : x_Cy X z p l R s m args meth c) : l.stackTraces = false := hx.2.2.2.2.2.2.2.1
theorem x_Cy.tab (hx : x_Cy X z p l R s m args meth c) : c.exceptionTable.toList = tableOf (x_hh z) := hx.2.2.2.2.2.2.2.2.1
theorem sy_iconst (hx : x_Cy X z p l R s m args meth c) {k : Int} (hk : x_i32 k) (d : decode (zB z) pc = .ok (.iconst k, 1)) (kk : x_Wt X ρ0 n0 (zL z) p l e R s m args below meth c Q (pc + 1) ls (xI k :: st) M h cells slots) : x_Wt X ρ0 n0 (zL z) p l e R s m args below meth c Q (pc) ls st M h cells slots := by
  intro ρ lsC H locs S
  exact lv_iconst hx.1 hx.2.1 d rfl (kk ρ lsC H locs (S.push hk))
theorem sy_bipush (hx : x_Cy X z p l R s m args meth c) {k : Int} (hk : x_i32 k) (he : (Int8.ofInt k).toInt32 = Int32.ofInt k) (d : decode (zB z) pc = .ok (.bipush k, 2)) (kk : x_Wt X ρ0 n0 (zL z) p l e R s m args below meth c Q (pc + 2) ls (xI k :: st) M h cells slots) : x_Wt X ρ0 n0 (zL z) p l e R s m args below meth c Q (pc) ls st M h cells slots := by
  intro ρ lsC H locs S
  exact lv_bipush hx.1 hx.2.1 d he (kk ρ lsC H locs (S.push hk))
theorem sy_iload (hx : x_Cy X z p l R s m args meth c) {i : Nat} {x : Int} (hl : ls i = some (xI x)) (d : decode (zB z) pc = .ok (.iload i, 2)) (kk : x_Wt X ρ0 n0 (zL z) p l e R s m args below meth c Q (pc + 2) ls (xI x :: st) M h cells slots) : x_Wt X ρ0 n0 (zL z) p l e R s m args below meth c Q (pc) ls st M h cells slots := by
  intro ρ lsC H locs S
  exact lv_iload hx.1 hx.2.1 d (S.loc hl).1 (kk ρ lsC H locs (S.push (S.loc hl).2))
theorem sy_iload_n (hx : x_Cy X z p l R s m args meth c) {i : Fin 4} {x : Int} (hl : ls i.val = some (xI x)) (d : decode (zB z) pc = .ok (.iload_n i, 1)) (kk : x_Wt X ρ0 n0 (zL z) p l e R s m args below meth c Q (pc + 1) ls (xI x :: st) M h cells slots) : x_Wt X ρ0 n0 (zL z) p l e R s m args below meth c Q (pc) ls st M h cells slots := by
  intro ρ lsC H locs S
  exact lv_iload_n hx.1 hx.2.1 d rfl (S.loc hl).1 (kk ρ lsC H locs (S.push (S.loc hl).2))
theorem sy_aload (hx : x_Cy X z p l R s m args meth c) {i : Nat} {x : Nat ⊕ Nat ⊕ Nat} (hl : ls i = some (.inr (.inr x))) (d : decode (zB z) pc = .ok (.aload i, 2)) (kk : x_Wt X ρ0 n0 (zL z) p l e R s m args below meth c Q (pc + 2) ls (.inr (.inr x) :: st) M h cells slots) : x_Wt X ρ0 n0 (zL z) p l e R s m args below meth c Q (pc) ls st M h cells slots := by
  intro ρ lsC H locs S
  have h1 := S.loc hl
  have k1 := kk ρ lsC H locs (S.push h1.2)
  rcases x with r | a | j
  · have h2 : lsC[i]? = some (.val (va_rf (x_rf ρ r))) := h1.1
    have k2 : W p l e R s m args below meth c H locs cells slots Q (F0 m (pc + 2) lsC (va_rf (x_rf ρ r) :: st.map (x_c X ρ))) := k1
    generalize x_rf ρ r = y at h2 k2
    cases y with
    | none => exact lv_aloadN hx.1 hx.2.1 d h2 k2
    | some y => exact lv_aload hx.1 hx.2.1 d h2 k2
  · exact lv_aload hx.1 hx.2.1 d h1.1 k1
  · exact lv_aload hx.1 hx.2.1 d h1.1 k1
theorem sy_astore (hx : x_Cy X z p l R s m args meth c) {i : Nat} {x : Nat ⊕ Nat ⊕ Nat} (hi : i < zL z) (d : decode (zB z) pc = .ok (.astore i, 2)) (kk : x_Wt X ρ0 n0 (zL z) p l e R s m args below meth c Q (pc + 2) (x_up ls i (.inr (.inr x))) st M h cells slots) : x_Wt X ρ0 n0 (zL z) p l e R s m args below meth c Q (pc) ls (.inr (.inr x) :: st) M h cells slots := by
  intro ρ lsC H locs S
  have k1 : ∀ lsD : Array Slot, lv_has lsD (zL z) ((i, x_c X ρ (.inr (.inr x))) :: (x_ll X ρ (zL z) ls).filter (fun q => !(q.1 == i) && !(q.1 + 1 == i && q.2.category == 2))) → W p l e R s m args below meth c H locs cells slots Q (F0 m (pc + 2) lsD (st.map (x_c X ρ))) := fun lsD hd => kk ρ lsD H locs (S.pop.store S.top hd)
  rcases x with r | a | j
  · show W p l e R s m args below meth c H locs cells slots Q (F0 m pc lsC (va_rf (x_rf ρ r) :: st.map (x_c X ρ)))
    have k2 : ∀ lsD : Array Slot, lv_has lsD (zL z) ((i, va_rf (x_rf ρ r)) :: (x_ll X ρ (zL z) ls).filter (fun q => !(q.1 == i) && !(q.1 + 1 == i && q.2.category == 2))) → W p l e R s m args below meth c H locs cells slots Q (F0 m (pc + 2) lsD (st.map (x_c X ρ))) := k1
    generalize x_rf ρ r = y at k2 ⊢
    cases y with
    | none => exact lv_astoreN hx.1 hx.2.1 d S.has hi rfl k2
    | some y => exact lv_astore hx.1 hx.2.1 d S.has hi rfl k2
  · exact lv_astore hx.1 hx.2.1 d S.has hi rfl k1
  · exact lv_astore hx.1 hx.2.1 d S.has hi rfl k1
theorem sy_aload_n (hx : x_Cy X z p l R s m args meth c) {i : Fin 4} {x : Nat ⊕ Nat ⊕ Nat} (hl : ls i.val = some (.inr (.inr x))) (d : decode (zB z) pc = .ok (.aload_n i, 1)) (kk : x_Wt X ρ0 n0 (zL z) p l e R s m args below meth c Q (pc + 1) ls (.inr (.inr x) :: st) M h cells slots) : x_Wt X ρ0 n0 (zL z) p l e R s m args below meth c Q (pc) ls st M h cells slots := by
  intro ρ lsC H locs S
  have h1 := S.loc hl
  have k1 := kk ρ lsC H locs (S.push h1.2)
  rcases x with r | a | j
  · have h2 : lsC[i.val]? = some (.val (va_rf (x_rf ρ r))) := h1.1
    have k2 : W p l e R s m args below meth c H locs cells slots Q (F0 m (pc + 1) lsC (va_rf (x_rf ρ r) :: st.map (x_c X ρ))) := k1
    generalize x_rf ρ r = y at h2 k2
    cases y with
    | none => exact lv_aload_nN hx.1 hx.2.1 d rfl h2 k2
    | some y => exact lv_aload_n hx.1 hx.2.1 d rfl h2 k2
  · exact lv_aload_n hx.1 hx.2.1 d rfl h1.1 k1
  · exact lv_aload_n hx.1 hx.2.1 d rfl h1.1 k1
theorem sy_astore_n (hx : x_Cy X z p l R s m args meth c) {i : Fin 4} {x : Nat ⊕ Nat ⊕ Nat} (hi : i.val < zL z) (d : decode (zB z) pc = .ok (.astore_n i, 1)) (kk : x_Wt X ρ0 n0 (zL z) p l e R s m args below meth c Q (pc + 1) (x_up ls i.val (.inr (.inr x))) st M h cells slots) : x_Wt X ρ0 n0 (zL z) p l e R s m args below meth c Q (pc) ls (.inr (.inr x) :: st) M h cells slots := by
  intro ρ lsC H locs S
  have k1 : ∀ lsD : Array Slot, lv_has lsD (zL z) ((i.val, x_c X ρ (.inr (.inr x))) :: (x_ll X ρ (zL z) ls).filter (fun q => !(q.1 == i.val) && !(q.1 + 1 == i.val && q.2.category == 2))) → W p l e R s m args below meth c H locs cells slots Q (F0 m (pc + 1) lsD (st.map (x_c X ρ))) := fun lsD hd => kk ρ lsD H locs (S.pop.store S.top hd)
  rcases x with r | a | j
  · show W p l e R s m args below meth c H locs cells slots Q (F0 m pc lsC (va_rf (x_rf ρ r) :: st.map (x_c X ρ)))
    have k2 : ∀ lsD : Array Slot, lv_has lsD (zL z) ((i.val, va_rf (x_rf ρ r)) :: (x_ll X ρ (zL z) ls).filter (fun q => !(q.1 == i.val) && !(q.1 + 1 == i.val && q.2.category == 2))) → W p l e R s m args below meth c H locs cells slots Q (F0 m (pc + 1) lsD (st.map (x_c X ρ))) := k1
    generalize x_rf ρ r = y at k2 ⊢
    cases y with
    | none => exact lv_astore_nN hx.1 hx.2.1 d rfl S.has hi rfl k2
    | some y => exact lv_astore_n hx.1 hx.2.1 d rfl S.has hi rfl k2
  · exact lv_astore_n hx.1 hx.2.1 d rfl S.has hi rfl k1
  · exact lv_astore_n hx.1 hx.2.1 d rfl S.has hi rfl k1
theorem sy_istore_n (hx : x_Cy X z p l R s m args meth c) {i : Fin 4} {x : Int} (hi : i.val < zL z) (d : decode (zB z) pc = .ok (.istore_n i, 1)) (kk : x_Wt X ρ0 n0 (zL z) p l e R s m args below meth c Q (pc + 1) (x_up ls i.val (xI x)) st M h cells slots) : x_Wt X ρ0 n0 (zL z) p l e R s m args below meth c Q (pc) ls (xI x :: st) M h cells slots := by
  intro ρ lsC H locs S
  exact lv_istore_n hx.1 hx.2.1 d rfl S.has hi rfl (fun lsD hd => kk ρ lsD H locs (S.pop.store S.top hd))
theorem sy_iret (hx : x_Cy X z p l R s m args meth c) {v : Int} {ty : FieldType} (hr : zR z = some ty) (hn' : narrow ty (.int (Int32.ofInt v)) = .int (Int32.ofInt v)) (d : decode (zB z) pc = .ok (.ireturn, 1)) (hc : cells ≤ zC z) (hs : slots ≤ zS z) (hΦ : Φ (.inl (some (xI v))) M h) : x_Wt X ρ0 n0 (zL z) p l e R s m args below meth c (x_Q X ρ0 n0 Φ below args s z) (pc) ls [xI v] M h cells slots := by
  intro ρ lsC H locs S
  exact W.widen hc hs (vx_ret (W.zret hx.1 hx.2.1 (hx.ret.trans hr) hn' (fun t ht _ => S.post (r := some (xI v)) hΦ t ht) S.2.2.2.1.2.2 d hx.lock))
theorem y_recv (hx : x_Cy X z p l R s m args meth c) {ρ : Nat → Nat} {lsC : Array Slot} {H : Heap} {locs : List Loc} {st' : List xV} {r q : Nat} (S : x_St X ρ0 n0 (zL z) s ρ lsC H locs ls st' M h) (hq : q < 10) (hr : hK h r = q) : r ≠ 0 ∧ ∃ cellB : Cell, H[ρ r]? = some cellB ∧ cellB.vm.isStatics = false ∧ s.vm.findClass (x_cl q).1 = some cellB.cls := by
  obtain ⟨a1, a2⟩ := S.2.2.1.2.2.lt hr (by omega)
  have he := x_ws_get (X := X) (ρ := ρ) (M := M) a1 a2
  rw [x_cell_obj hr hq] at he
  exact ⟨by omega, va_recv hx.K S.2.2.1.1 (xc_ok q hq).1 he⟩
theorem x_St.preY (hx : x_Cy X z p l R s m args meth c) {ρ : Nat → Nat} {lsC : Array Slot} {H : Heap} {locs : List Loc} {st' as : List xV} (S : x_St X ρ0 n0 (zL z) s ρ lsC H locs ls st' M h) (has : ∀ a ∈ as, x_vk h a) (U : State) (hU : U.heap = H) (hW : s.WarmedH U.vm) : x_Pc X ρ as M h (as.map (x_c X ρ)).toArray U :=
  ⟨rfl, has, by rw [hU]; exact Nat.le_trans hx.B S.2.2.2.1.1, by rw [hU]; exact S.2.2.1, va_K.moved hW.alike hx.K, by rw [hU]; exact (x_O.warm hW (hx.O.kept S.2.2.2.1.2.1))⟩
theorem y_callB (hx : x_Cy X z p l R s m args meth c) {zz : xMD} {idx n : Nat} (hz : x_zok z zz n) (hf : zF zz < 1000) (hl : (Cond.methodLink (zN z).cls idx (zN zz)).before args s = true) : CallB R s args (zN z).cls idx (zN zz) (zB zz) (zL zz) (zR zz) (x_w1 zz) (x_rm zz) (zC zz) (zS zz) n := by
  obtain ⟨z1, z2, z3, z4, z5, z6⟩ := hz
  refine ⟨rfl, rfl, by rw [hx.rm]; exact z5, by rw [hx.rm]; exact z6, fun w hw a' U hW => ?_, (by rw [← x_cw_n hf]; exact List.mem_cons_self), (by rw [← x_cw_n hf]; exact hx.hts _ z1), hx.hts _ z2, z3, fun sig hsig => ?_, hl⟩
  · have hm : w ∈ x_tb := by
      rcases List.mem_cons.mp hw with rfl | h
      · exact z1
      · exact h
    exact word_at hW (x_goodtb w hm) (hx.hts w hm)
  · rw [hsig] at z4
    exact (Option.some.inj z4).symm
theorem y_fix (hx : x_Cy X z p l R s m args meth c) : CallFix p m c (zB z) (zL z) s args x_tb (zN z).cls := ⟨hx.1, hx.2.1, hx.2.2.1, hx.own, hx.hts⟩
/-- what a call at pc asks of the handlers -/
def y_cov (z : xMD) (pc : Nat) : Prop := ∀ q ∈ x_hh z, q.1 ≤ pc ∧ pc < q.2.1 ∧ y_cls q.2.2.2 < 3
theorem y_cat (hx : x_Cy X z p l R s m args meth c) {w : Jvm.Cond} (hw : w ∈ x_tbl) (hg : x_odd w = true) (ho : vx_ot w = true) : w.before args s = true := by
  by_cases hgw : goodWord w = true
  · exact hx.hts w (List.mem_filter.mpr ⟨hw, hgw⟩)
  · have h1 := hx.O.2.2.1.1 w hw hg
    simp only [vx_ot, Bool.or_eq_true] at ho
    exact va_tabs (ho.resolve_right hgw) rfl h1
theorem y_catch (hx : x_Cy X z p l R s m args meth c) (hL : (zN z).cls = "ScorePartsLaw") (hcov : y_cov z pc) {H : Heap} {locs : List Loc} {lsC : Array Slot} {rest : List Value} {ee t j q : Nat} {ce : Cell} (hf : y_find (x_hh z) ee 0 = some (t, j))
    (hcell : H[q]? = some ce) (hv : ce.vm = .none) (hcl : s.vm.findClass (x_en ee) = some ce.cls) (kk : W p l e R s m args below meth c H locs cells slots Q (F0 m t lsC [.ref q])) : vx_W p l e R s m args below meth c H locs cells slots Q (F0 m pc lsC rest) q := by
  obtain ⟨pre, x, suf, h1, h2, h3, h4⟩ := y_find_at _ _ _ _ _ hf
  have hxm : x ∈ x_hh z := by rw [h1]; exact List.mem_append_right _ List.mem_cons_self
  obtain ⟨c1, c2, c3⟩ := hcov x hxm
  have hlk : (Cond.classLink "ScorePartsLaw" x.2.2.2 (x_en (y_cls x.2.2.2))).before args s = true := hx.hts _ (y_lk_ok _ (y_cls_lt c3))
  rw [h3] at hlk c3
  have hee : ee ∈ [0, 1, 2] := by
    have : ee = 0 ∨ ee = 1 ∨ ee = 2 := by omega
    rcases this with rfl | rfl | rfl <;> decide
  obtain ⟨k1, k2⟩ := y_cast_ok ee hee
  have hown := hx.own
  rw [hL] at hown
  refine vx_catch (own := "ScorePartsLaw") (name := x_en ee) (E := x_en ee) hown (tableOf pre) ⟨x.1, x.2.1, x.2.2.1, x.2.2.2⟩ (tableOf suf) (by rw [hx.tab, h1]; simp only [tableOf, List.map_append, List.map_cons]) (fun y hy => ?_) ?_ ?_ hlk (y_cat hx k1 rfl k2) hcell hv hcl (by rw [h2]; exact kk)
  · obtain ⟨q9, hq9, rfl⟩ := List.mem_map.mp hy
    have hq : q9 ∈ x_hh z := by rw [h1]; exact List.mem_append_left _ hq9
    obtain ⟨d1, d2, d3⟩ := hcov q9 hq
    refine Or.inr ⟨fun h0 => ?_, x_en (y_cls q9.2.2.2), hx.hts _ (y_lk_ok _ (y_cls_lt d3)), hx.O.2.2.1.2 _ (y_ncl c3 d3 (fun h0 => h4 q9 hq9 h0.symm))⟩
    have h0' : q9.2.2.2 = 0 := h0
    rw [h0'] at d3
    exact absurd d3 (by decide)
  · show (decide (x.1 ≤ pc) && decide (pc < x.2.1)) = true
    rw [Bool.and_eq_true, decide_eq_true_eq, decide_eq_true_eq]
    exact ⟨c1, c2⟩
  · intro h0
    have h0' : x.2.2.2 = 0 := h0
    rw [h0'] at h3
    have : (9 : Nat) = ee := h3
    omega
/-- how a call that returns or throws goes on in a body with handlers -/
theorem y_after (hx : x_Cy X z p l R s m args meth c) (hL : (zN z).cls = "ScorePartsLaw") (hcov : y_cov z pc) {ρ : Nat → Nat} {lsC : Array Slot} {H : Heap} {locs : List Loc} {st0 : List Value} {as : Array Value} {mc ms : Nat} {Ψ : xO → xM → xH → Prop} (S : x_St X ρ0 n0 (zL z) s ρ lsC H locs ls st M h)
    (hr : vx_Run p l e R s m args below meth c H locs cells slots mc ms (F0 m pc lsC st0) (st.map (x_c X ρ)) (x_Qc X ρ (hn h) Ψ as) (x_XC X ρ (hn h) Ψ) (x_A X))
    (k0 : ∀ M' h', Ψ (.inl none) M' h' → False) (k1 : ∀ v M' h', Ψ (.inl (some v)) M' h' → x_Wt X ρ0 n0 (zL z) p l e R s m args below meth c Q (pc + 3) ls (v :: st) M' h' (cells + mc) (slots + ms)) (k2 : ∀ ee M' h', Ψ (.inr ee) M' h' → ∃ t j, y_find (x_hh z) ee 0 = some (t, j) ∧ ∀ q, x_Wt X ρ0 n0 (zL z) p l e R s m args below meth c Q t ls [xE q] M' h' (cells + mc) (slots + ms)) :
    W p l e R s m args below meth c H locs cells slots Q (F0 m pc lsC st0) := by
  intro T hT X9
  rcases hr T hT X9 with ⟨v, st₀, t, T', L, h0, X', hL1, e1, e2, ⟨⟨r', ρ', M', h', ho, hΨ, hvk, hext, hle, P'⟩, hF⟩, go⟩ | ⟨q, st₀, t, T', L, E, ce, h0, X', hL1, e1, e2, ⟨⟨ee, ρ', M', h', hE, hΨ, hext, hle, P'⟩, hF⟩, hce, hcv, hcl, go⟩
  · obtain ⟨-, -, hS1⟩ := vx_keep h0 e1 S.2.2.2.1 (fun q _ h => h) (fun q h => h) hL1 hF
    rw [← e1] at P'
    obtain ⟨S1, e3⟩ := S.back hext hle P' hS1
    cases ho
    cases r' with
    | none => exact (k0 M' h' hΨ).elim
    | some v =>
      obtain ⟨t2, a1, b1⟩ := k1 v M' h' hΨ ρ' lsC T'.heap (locs ++ L) (S1.push (hvk v rfl)) T' rfl X'
      rw [List.map_cons, e3] at a1
      exact ⟨t2, go t2 a1, b1⟩
  · obtain ⟨-, -, hS1⟩ := vx_keep h0 e1 S.2.2.2.1 (fun q _ h => h) (fun q h => h) hL1 hF
    rw [← e1] at P' hce
    obtain ⟨S1, e3⟩ := S.back hext hle P' hS1
    obtain ⟨t9, j, hf, kk⟩ := k2 ee M' h' hΨ
    rw [hE] at hcl
    have S9 : x_St X ρ0 n0 (zL z) s ρ' lsC T'.heap (locs ++ L) ls [xE q] M' h' := ⟨S1.1, fun v hv => by
      rcases List.mem_singleton.mp hv with rfl
      exact trivial, S1.2.2⟩
    obtain ⟨t2, a1, b1⟩ := y_catch (rest := st.map (x_c X ρ)) hx hL hcov hf hce hcv hcl (kk q ρ' lsC T'.heap (locs ++ L) S9) T' rfl X'
    exact ⟨t2, go.trans a1, b1⟩
theorem sy_callV (hx : x_Cy X z p l R s m args meth c) (hL : (zN z).cls = "ScorePartsLaw") (hcov : y_cov z pc) {zz : xMD} {idx q r : Nat} {as : List xV} {Ψ : xO → xM → xH → Prop} (w1 : (Cond.methodLink (zN z).cls idx (zN zz)).before args s = true) (w2 : (Cond.instanceMethod (zN zz)).before args s = true) (w3 : (Cond.selects (x_cl q).1 (zN zz) (zN zz)).before args s = true) (d : decode (zB z) pc = .ok (.invokevirtual idx, 3)) (hq : q < 10) (hr : hK h r = q) (hM : x_Cal zz (xA r :: as) M h Ψ) (hz : x_zok z zz as.length ∧ zF zz < 1000) (hst : (st.map x_cat).sum ≤ 8) (hc : cells + zC zz ≤ zC z) (hs : slots + zS zz ≤ zS z)
    (k0 : ∀ M' h', Ψ (.inl none) M' h' → False) (k1 : ∀ v M' h', Ψ (.inl (some v)) M' h' → x_Wt X ρ0 n0 (zL z) p l e R s m args below meth c Q (pc + 3) ls (v :: st) M' h' (cells + zC zz) (slots + zS zz)) (k2 : ∀ ee M' h', Ψ (.inr ee) M' h' → ∃ t j, y_find (x_hh z) ee 0 = some (t, j) ∧ ∀ q, x_Wt X ρ0 n0 (zL z) p l e R s m args below meth c Q t ls [xE q] M' h' (cells + zC zz) (slots + zS zz)) : x_Wt X ρ0 n0 (zL z) p l e R s m args below meth c Q (pc) ls (as.reverse ++ xA r :: st) M h cells slots := by
  intro ρ lsC H locs S
  obtain ⟨hr0, hcell⟩ := y_recv hx S hq hr
  have hS1 : x_St X ρ0 n0 (zL z) s ρ lsC H locs ls st M h := ⟨S.1, fun v hv => S.2.1 v (List.mem_append_right _ (List.mem_cons_of_mem _ hv)), S.2.2⟩
  have has : ∀ a ∈ as, x_vk h a := fun a ha => S.2.1 a (List.mem_append_left _ (List.mem_reverse.mpr ha))
  have hra : ∀ a ∈ xA r :: as, x_vk h a := fun a ha => by
    rcases List.mem_cons.mp ha with rfl | ha
    · exact S.2.1 _ (List.mem_append_right _ List.mem_cons_self)
    · exact has a ha
  have e1 : x_c X ρ (xA r) = .ref (ρ r) := by
    show va_rf (x_rf ρ r) = _
    rw [x_rf_s hr0]
    rfl
  have e0 : (as.reverse ++ xA r :: st).map (x_c X ρ) = (as.map (x_c X ρ)).reverse ++ .ref (ρ r) :: st.map (x_c X ρ) := by rw [List.map_append, x_rmap, List.map_cons, e1]
  have hPc : ∀ U : State, U.heap = H → s.WarmedH U.vm → x_Pc X ρ (xA r :: as) M h (Value.ref (ρ r) :: as.map (x_c X ρ)).toArray U := fun U hU hW => by
    have := hS1.preY hx hra U hU hW
    rw [List.map_cons, e1] at this
    exact this
  rw [e0]
  exact y_after hx hL hcov hS1 (vx_runV (g := F0 m pc lsC ((as.map (x_c X ρ)).reverse ++ .ref (ρ r) :: st.map (x_c X ρ))) (As := as.map (x_c X ρ)) (y_fix hx) (hM l hx.tr X ρ) ⟨y_callB hx hz.1 hz.2 w1, w2, w3⟩ ⟨x_blind, hcell, hPc⟩ rfl (by rw [List.length_map]) S.1.1 rfl (lv_room (by rw [x_sumc]; exact hst)) d ⟨by rw [hx.rm]; exact hc, by rw [hx.rm]; exact hs⟩) k0 k1 k2
/-! the helper's shape -/
def y_isA (z : xMD) (pc i : Nat) : Option Nat := match decode (zB z) pc with
  | .ok (.aload k, len) => if k = i ∧ len = 2 then some (pc + 2) else none
  | .ok (.aload_n k, len) => if k.val = i ∧ len = 1 then some (pc + 1) else none
  | _ => none
def y_isI (z : xMD) (pc i : Nat) : Option Nat := match decode (zB z) pc with
  | .ok (.iload k, len) => if k = i ∧ len = 2 then some (pc + 2) else none
  | .ok (.iload_n k, len) => if k.val = i ∧ len = 1 then some (pc + 1) else none
  | _ => none
def y_isS (z : xMD) (pc : Nat) : Option (Nat × Nat) := match decode (zB z) pc with
  | .ok (.astore k, len) => if k < zL z ∧ len = 2 then some (k, pc + 2) else none
  | .ok (.astore_n k, len) => if k.val < zL z ∧ len = 1 then some (k.val, pc + 1) else none
  | _ => none
def y_isL (z : xMD) : Nat → Nat → Nat → Option Nat
  | 0, _, pc => some pc
  | n + 1, i, pc => (y_isI z pc i).bind fun pc' => y_isL z n (i + 1) pc'
theorem y_doA (hx : x_Cy X z p l R s m args meth c) {i pc' : Nat} {x : Nat ⊕ Nat ⊕ Nat} (hi : y_isA z pc i = some pc') (hl : ls i = some (.inr (.inr x))) (kk : x_Wt X ρ0 n0 (zL z) p l e R s m args below meth c Q pc' ls (.inr (.inr x) :: st) M h cells slots) : x_Wt X ρ0 n0 (zL z) p l e R s m args below meth c Q pc ls st M h cells slots := by
  unfold y_isA at hi
  split at hi
  · rename_i k len d
    split at hi
    · rename_i hh
      obtain ⟨rfl, rfl⟩ := hh
      cases hi
      exact sy_aload hx hl d kk
    · cases hi
  · rename_i k len d
    split at hi
    · rename_i hh
      obtain ⟨rfl, rfl⟩ := hh
      cases hi
      exact sy_aload_n hx hl d kk
    · cases hi
  · cases hi
theorem y_doI (hx : x_Cy X z p l R s m args meth c) {i pc' : Nat} {x : Int} (hi : y_isI z pc i = some pc') (hl : ls i = some (xI x)) (kk : x_Wt X ρ0 n0 (zL z) p l e R s m args below meth c Q pc' ls (xI x :: st) M h cells slots) : x_Wt X ρ0 n0 (zL z) p l e R s m args below meth c Q pc ls st M h cells slots := by
  unfold y_isI at hi
  split at hi
  · rename_i k len d
    split at hi
    · rename_i hh
      obtain ⟨rfl, rfl⟩ := hh
      cases hi
      exact sy_iload hx hl d kk
    · cases hi
  · rename_i k len d
    split at hi
    · rename_i hh
      obtain ⟨rfl, rfl⟩ := hh
      cases hi
      exact sy_iload_n hx hl d kk
    · cases hi
  · cases hi
theorem y_doS (hx : x_Cy X z p l R s m args meth c) {pc' k : Nat} {x : Nat ⊕ Nat ⊕ Nat} (hi : y_isS z pc = some (k, pc')) (kk : x_Wt X ρ0 n0 (zL z) p l e R s m args below meth c Q pc' (x_up ls k (.inr (.inr x))) st M h cells slots) : x_Wt X ρ0 n0 (zL z) p l e R s m args below meth c Q pc ls (.inr (.inr x) :: st) M h cells slots := by
  unfold y_isS at hi
  split at hi
  · rename_i k len d
    split at hi
    · rename_i hh
      obtain ⟨h1, rfl⟩ := hh
      cases hi
      exact sy_astore hx h1 d kk
    · cases hi
  · rename_i k len d
    split at hi
    · rename_i hh
      obtain ⟨h1, rfl⟩ := hh
      cases hi
      exact sy_astore_n hx h1 d kk
    · cases hi
  · cases hi
theorem y_doL (hx : x_Cy X z p l R s m args meth c) : ∀ (xs : List Int) (i pc : Nat) (st : List xV) {pc' : Nat}, y_isL z xs.length i pc = some pc' → (∀ (j : Nat) (x : Int), xs[j]? = some x → ls (i + j) = some (xI x)) → x_Wt X ρ0 n0 (zL z) p l e R s m args below meth c Q pc' ls ((xs.map xI).reverse ++ st) M h cells slots → x_Wt X ρ0 n0 (zL z) p l e R s m args below meth c Q pc ls st M h cells slots
  | [], i, pc, st, pc', hi, hl, kk => by
    cases hi
    exact kk
  | x :: xs, i, pc, st, pc', hi, hl, kk => by
    simp only [List.length_cons, y_isL] at hi
    cases h1 : y_isI z pc i with
    | none => rw [h1] at hi; cases hi
    | some q =>
      rw [h1] at hi
      refine y_doI hx h1 (hl 0 x rfl) (y_doL hx xs (i + 1) q _ hi (fun j y hy => ?_) ?_)
      · have := hl (j + 1) y hy
        rw [show i + 1 + j = i + (j + 1) by omega]
        exact this
      · rw [List.map_cons, List.reverse_cons, List.append_assoc] at kk
        exact kk
def y_neg (z : xMD) (pc : Nat) : Option (Int × Nat) := match decode (zB z) pc with
  | .ok (.bipush k, len) => if k = -2 ∧ len = 2 then some (-2, pc + 2) else none
  | .ok (.iconst k, len) => if k = -1 ∧ len = 1 then some (-1, pc + 1) else none
  | _ => none
theorem y_doN (hx : x_Cy X z p l R s m args meth c) {pc' : Nat} {v : Int} (hi : y_neg z pc = some (v, pc')) (kk : x_Wt X ρ0 n0 (zL z) p l e R s m args below meth c Q pc' ls (xI v :: st) M h cells slots) : x_Wt X ρ0 n0 (zL z) p l e R s m args below meth c Q pc ls st M h cells slots := by
  unfold y_neg at hi
  split at hi
  · rename_i k len d
    split at hi
    · rename_i hh
      obtain ⟨rfl, rfl⟩ := hh
      cases hi
      exact sy_bipush hx (by unfold x_i32; omega) (by decide) d kk
    · cases hi
  · rename_i k len d
    split at hi
    · rename_i hh
      obtain ⟨rfl, rfl⟩ := hh
      cases hi
      exact sy_iconst hx (by unfold x_i32; omega) d kk
    · cases hi
  · cases hi
def y_hs (z : xMD) (pcc : Nat) (v : Int) : List (Nat × Nat × Nat × Nat) → Bool
  | [] => true
  | q :: qs => decide (q.1 ≤ pcc ∧ pcc < q.2.1 ∧ y_cls q.2.2.2 < 3) && ((match y_isS z q.2.2.1 with | some (_, pc') => (match y_neg z pc' with | some (v', pc2) => decide (v' = v ∧ decode (zB z) pc2 = .ok (.ireturn, 1)) | none => false) | none => false) && y_hs z pcc v qs)
theorem y_hs_cov {pcc : Nat} {v : Int} : ∀ (hs : List (Nat × Nat × Nat × Nat)), y_hs z pcc v hs = true → ∀ q ∈ hs, q.1 ≤ pcc ∧ pcc < q.2.1 ∧ y_cls q.2.2.2 < 3
  | [], _, q, hq => absurd hq List.not_mem_nil
  | a :: hs, h, q, hq => by
    unfold y_hs at h
    rw [Bool.and_eq_true, Bool.and_eq_true, decide_eq_true_eq] at h
    rcases List.mem_cons.mp hq with rfl | hq
    · exact h.1
    · exact y_hs_cov hs h.2.2 q hq
theorem y_hs_at {pcc : Nat} {v : Int} : ∀ (hs : List (Nat × Nat × Nat × Nat)) (i ee t j : Nat), y_hs z pcc v hs = true → y_find hs ee i = some (t, j) → ∃ k pc' pc2, y_isS z t = some (k, pc') ∧ y_neg z pc' = some (v, pc2) ∧ decode (zB z) pc2 = .ok (.ireturn, 1)
  | [], _, _, _, _, _, h => by cases h
  | a :: hs, i, ee, t, j, h, hf => by
    unfold y_hs at h
    rw [Bool.and_eq_true, Bool.and_eq_true, decide_eq_true_eq] at h
    unfold y_find at hf
    by_cases he : y_cls a.2.2.2 = ee
    · rw [if_pos he] at hf
      cases hf
      have h2 := h.2.1
      split at h2
      · rename_i k pc' hs9
        split at h2
        · rename_i v' pc2 hs8
          rw [decide_eq_true_eq] at h2
          obtain ⟨rfl, h3⟩ := h2
          exact ⟨k, pc', pc2, hs9, hs8, h3⟩
        · cases h2
      · cases h2
    · rw [if_neg he] at hf
      exact y_hs_at hs (i + 1) ee t j h.2.2 hf
/-- a call that never throws, in a body with handlers -/
theorem y_after0 (hx : x_Cy X z p l R s m args meth c) {ρ : Nat → Nat} {lsC : Array Slot} {H : Heap} {locs : List Loc} {st0 : List Value} {as : Array Value} {mc ms : Nat} {Ψ : xO → xM → xH → Prop} (S : x_St X ρ0 n0 (zL z) s ρ lsC H locs ls st M h)
    (hr : vx_Run p l e R s m args below meth c H locs cells slots mc ms (F0 m pc lsC st0) (st.map (x_c X ρ)) (x_Qc X ρ (hn h) Ψ as) (x_XC X ρ (hn h) Ψ) (x_A X))
    (k0 : ∀ M' h', Ψ (.inl none) M' h' → x_Wt X ρ0 n0 (zL z) p l e R s m args below meth c Q (pc + 3) ls st M' h' (cells + mc) (slots + ms)) (k1 : ∀ v M' h', Ψ (.inl (some v)) M' h' → x_Wt X ρ0 n0 (zL z) p l e R s m args below meth c Q (pc + 3) ls (v :: st) M' h' (cells + mc) (slots + ms)) (k2 : ∀ ee M' h', Ψ (.inr ee) M' h' → False) :
    W p l e R s m args below meth c H locs cells slots Q (F0 m pc lsC st0) := by
  intro T hT X9
  rcases hr T hT X9 with ⟨v, st₀, t, T', L, h0, X', hL1, e1, e2, ⟨⟨r', ρ', M', h', ho, hΨ, hvk, hext, hle, P'⟩, hF⟩, go⟩ | ⟨q, st₀, t, T', L, E, ce, h0, X', hL1, e1, e2, ⟨⟨ee, ρ', M', h', hE, hΨ, hext, hle, P'⟩, hF⟩, hce, hcv, hcl, go⟩
  · obtain ⟨-, -, hS1⟩ := vx_keep h0 e1 S.2.2.2.1 (fun q _ h => h) (fun q h => h) hL1 hF
    rw [← e1] at P'
    obtain ⟨S1, e3⟩ := S.back hext hle P' hS1
    cases ho
    cases r' with
    | none =>
      obtain ⟨t2, a1, b1⟩ := k0 M' h' hΨ ρ' lsC T'.heap (locs ++ L) S1 T' rfl X'
      rw [e3] at a1
      exact ⟨t2, go t2 a1, b1⟩
    | some v =>
      obtain ⟨t2, a1, b1⟩ := k1 v M' h' hΨ ρ' lsC T'.heap (locs ++ L) (S1.push (hvk v rfl)) T' rfl X'
      rw [List.map_cons, e3] at a1
      exact ⟨t2, go t2 a1, b1⟩
  · exact (k2 ee M' h' hΨ).elim
theorem sy_callS0 (hx : x_Cy X z p l R s m args meth c) {zz : xMD} {idx : Nat} {as : List xV} {Ψ : xO → xM → xH → Prop} (w1 : (Cond.methodLink (zN z).cls idx (zN zz)).before args s = true) (w2 : (Cond.static (zN zz)).before args s = true) (d : decode (zB z) pc = .ok (.invokestatic idx, 3)) (hM : x_Cal zz as M h Ψ) (hz : x_zok z zz as.length) (hst : (st.map x_cat).sum ≤ 8) (hc : cells + zC zz ≤ zC z) (hs : slots + zS zz ≤ zS z)
    (k0 : ∀ M' h', Ψ (.inl none) M' h' → x_Wt X ρ0 n0 (zL z) p l e R s m args below meth c Q (pc + 3) ls st M' h' (cells + zC zz) (slots + zS zz)) (k1 : ∀ v M' h', Ψ (.inl (some v)) M' h' → x_Wt X ρ0 n0 (zL z) p l e R s m args below meth c Q (pc + 3) ls (v :: st) M' h' (cells + zC zz) (slots + zS zz)) (k2 : ∀ e M' h', Ψ (.inr e) M' h' → False) : x_Wt X ρ0 n0 (zL z) p l e R s m args below meth c Q (pc) ls (as.reverse ++ st) M h cells slots := by
  intro ρ lsC H locs S
  have hS1 : x_St X ρ0 n0 (zL z) s ρ lsC H locs ls st M h := ⟨S.1, fun v hv => S.2.1 v (List.mem_append_right _ hv), S.2.2⟩
  have has : ∀ a ∈ as, x_vk h a := fun a ha => S.2.1 a (List.mem_append_left _ (List.mem_reverse.mpr ha))
  have e0 : (as.reverse ++ st).map (x_c X ρ) = (as.map (x_c X ρ)).reverse ++ st.map (x_c X ρ) := by rw [List.map_append, x_rmap]
  rw [e0]
  by_cases hf : zF zz < 1000
  · exact y_after0 hx hS1 (vx_runS (g := F0 m pc lsC ((as.map (x_c X ρ)).reverse ++ st.map (x_c X ρ))) (As := as.map (x_c X ρ)) (y_fix hx) (hM l hx.tr X ρ) ⟨y_callB hx hz hf w1, w2⟩ ⟨x_blind, fun U hU hW => hS1.preY hx has U hU hW⟩ rfl (by rw [List.length_map]) S.1.1 rfl (lv_room (by rw [x_sumc]; exact hst)) d ⟨by rw [hx.rm]; exact hc, by rw [hx.rm]; exact hs⟩) k0 k1 k2
  · exact y_after0 hx hS1 (vx_runSX (hh := x_hh zz) (bytes := zB zz) (maxL := zL zz) (ret := zR zz) (g := F0 m pc lsC ((as.map (x_c X ρ)).reverse ++ st.map (x_c X ρ))) (As := as.map (x_c X ρ)) (y_fix hx) (hM l hx.tr X ρ) ⟨⟨rfl, rfl, by rw [hx.rm]; exact hz.2.2.2.2.1, by rw [hx.rm]; exact hz.2.2.2.2.2, fun w hw a' U hW => (by have hm : w ∈ x_tb := (List.mem_cons.mp hw).elim (fun e => by rw [e]; exact hz.1) id; exact word_at hW (x_goodtb w hm) (hx.hts w hm)), (by rw [← x_cw_h hf]; exact List.mem_cons_self)⟩, (by rw [← x_cw_h hf]; exact hx.hts _ hz.1), hx.hts _ hz.2.1, hz.2.2.1, fun sig hsig => (by have := hz.2.2.2.1; rw [hsig] at this; exact (Option.some.inj this).symm), w1, w2⟩ ⟨x_blind, fun U hU hW => hS1.preY hx has U hU hW⟩ rfl (by rw [List.length_map]) S.1.1 rfl (lv_room (by rw [x_sumc]; exact hst)) d ⟨by rw [hx.rm]; exact hc, by rw [hx.rm]; exact hs⟩) k0 k1 k2
theorem sy_callV0 (hx : x_Cy X z p l R s m args meth c) {zz : xMD} {idx q r : Nat} {as : List xV} {Ψ : xO → xM → xH → Prop} (w1 : (Cond.methodLink (zN z).cls idx (zN zz)).before args s = true) (w2 : (Cond.instanceMethod (zN zz)).before args s = true) (w3 : (Cond.selects (x_cl q).1 (zN zz) (zN zz)).before args s = true) (d : decode (zB z) pc = .ok (.invokevirtual idx, 3)) (hq : q < 10) (hr : hK h r = q) (hM : x_Cal zz (xA r :: as) M h Ψ) (hz : x_zok z zz as.length ∧ zF zz < 1000) (hst : (st.map x_cat).sum ≤ 8) (hc : cells + zC zz ≤ zC z) (hs : slots + zS zz ≤ zS z)
    (k0 : ∀ M' h', Ψ (.inl none) M' h' → x_Wt X ρ0 n0 (zL z) p l e R s m args below meth c Q (pc + 3) ls st M' h' (cells + zC zz) (slots + zS zz)) (k1 : ∀ v M' h', Ψ (.inl (some v)) M' h' → x_Wt X ρ0 n0 (zL z) p l e R s m args below meth c Q (pc + 3) ls (v :: st) M' h' (cells + zC zz) (slots + zS zz)) (k2 : ∀ e M' h', Ψ (.inr e) M' h' → False) : x_Wt X ρ0 n0 (zL z) p l e R s m args below meth c Q (pc) ls (as.reverse ++ xA r :: st) M h cells slots := by
  intro ρ lsC H locs S
  obtain ⟨hr0, hcell⟩ := y_recv hx S hq hr
  have hS1 : x_St X ρ0 n0 (zL z) s ρ lsC H locs ls st M h := ⟨S.1, fun v hv => S.2.1 v (List.mem_append_right _ (List.mem_cons_of_mem _ hv)), S.2.2⟩
  have has : ∀ a ∈ as, x_vk h a := fun a ha => S.2.1 a (List.mem_append_left _ (List.mem_reverse.mpr ha))
  have hra : ∀ a ∈ xA r :: as, x_vk h a := fun a ha => by
    rcases List.mem_cons.mp ha with rfl | ha
    · exact S.2.1 _ (List.mem_append_right _ List.mem_cons_self)
    · exact has a ha
  have e1 : x_c X ρ (xA r) = .ref (ρ r) := by
    show va_rf (x_rf ρ r) = _
    rw [x_rf_s hr0]
    rfl
  have e0 : (as.reverse ++ xA r :: st).map (x_c X ρ) = (as.map (x_c X ρ)).reverse ++ .ref (ρ r) :: st.map (x_c X ρ) := by rw [List.map_append, x_rmap, List.map_cons, e1]
  have hPc : ∀ U : State, U.heap = H → s.WarmedH U.vm → x_Pc X ρ (xA r :: as) M h (Value.ref (ρ r) :: as.map (x_c X ρ)).toArray U := fun U hU hW => by
    have := hS1.preY hx hra U hU hW
    rw [List.map_cons, e1] at this
    exact this
  rw [e0]
  exact y_after0 hx hS1 (vx_runV (g := F0 m pc lsC ((as.map (x_c X ρ)).reverse ++ .ref (ρ r) :: st.map (x_c X ρ))) (As := as.map (x_c X ρ)) (y_fix hx) (hM l hx.tr X ρ) ⟨y_callB hx hz.1 hz.2 w1, w2, w3⟩ ⟨x_blind, hcell, hPc⟩ rfl (by rw [List.length_map]) S.1.1 rfl (lv_room (by rw [x_sumc]; exact hst)) d ⟨by rw [hx.rm]; exact hc, by rw [hx.rm]; exact hs⟩) k0 k1 k2
end SY
/-- A METHOD with handlers: from its entry -/
theorem y_met {z : xMD} (hz : ¬ zF z < 1000) (hpn : plainName (zN z).cls = true) {as : List xV} {M : xM} {h : xH} {Φ : xO → xM → xH → Prop} (hl : (as.map x_cat).sum ≤ zL z)
    (h0 : ∀ (X : xX) (ρ0 : Nat → Nat) (p : Program) (l : Launch) (e : Env) (s : State) (m : MethodId) (args : Array Value) (below : List Frame) (meth : Method) (c : Code), x_Cy X z p l (x_rm z) s m args meth c → x_Wt X ρ0 (hn h) (zL z) p l e (x_rm z) s m args below meth c (x_Q X ρ0 (hn h) Φ below args s z) 0 (x_ent as 0) [] M h 0 0) : x_Cal z as M h Φ := by
  intro l hl0 X ρ
  refine vx_ofWH (cc := zB z) (maxL := zL z) (ret := zR z) (hh := x_hh z) hpn (by unfold x_w1; rw [x_cw_h hz]) ?_
  intro p e s m args below meth c s₁ B1 hml hv
  obtain ⟨rfl, has, hsz, hP, hK1, hO⟩ := hv
  have hts := atoms_spec (ws := x_w1 z) B1.pre
  have htab : c.exceptionTable.toList = tableOf (x_hh z) := vx_table (x := zN z) B1 (by rw [← x_cw_h hz]; exact hts _ List.mem_cons_self)
  have hx : x_Cy X z p l (x_rm z) s m (as.map (x_c X ρ)).toArray meth c :=
    ⟨B1.exec, B1.bytes, hml, findClass_of_methodNamed B1.named, fun w hw => hts w (List.mem_cons_of_mem _ hw), B1.returns, B1.notSynchronized, hl0, htab, rfl, (name_of_methodNamed B1.named B1.method).1, hK1, hO, hsz⟩
  have hen := lv_entry (as.map (x_c X ρ)) (n := zL z) (by rw [x_lgsl]; exact hl)
  rw [lg_entry_eq]
  generalize (lg_sl (as.map (x_c X ρ)) ++ List.replicate (zL z - (lg_sl (as.map (x_c X ρ))).length) Slot.unset).toArray = lsC at hen ⊢
  exact h0 X ρ p l e s m _ below meth c hx ρ lsC s.heap [] ⟨⟨hen.1, hen.2.1, fun i v hi => ⟨hen.2.2 _ (x_entl as 0 i v hi).1, has v (x_entl (X := X) (ρ := ρ) as 0 i v hi).2⟩⟩, fun v hv => absurd hv List.not_mem_nil, hP, va_S.rf, fun id _ => rfl, Nat.le_refl _⟩
/-- the shape of a helper, checked: n arguments, pool entry, place of the call, places of the words -/
def y_ok (z zz : xMD) (n : Nat) (idx pcc pl pi pe p1 p2 : Nat) : Bool :=
  decide ((zN z).cls = "ScorePartsLaw" ∧ ¬ zF z < 1000 ∧ zR z = some .int ∧ n + 1 ≤ zL z ∧ zC zz ≤ zC z ∧ zS zz ≤ zS z) && (plainName (zN z).cls && ((match y_isA z 0 0 with
    | some q2 => decide (y_isL z n 1 q2 = some pcc)
    | none => false) && (decide (decode (zB z) pcc = .ok (.invokevirtual idx, 3)) && (x_has pl (.methodLink (zN z).cls idx (zN zz)) && (x_has pi (.instanceMethod (zN zz)) && (x_has pe (.selects (x_cl 7).1 (zN zz) (zN zz)) && (x_okv z zz n p2 p1 && (decide (decode (zB z) (pcc + 3) = .ok (.ireturn, 1)) && y_hs z pcc (-2) (x_hh z)))))))))
theorem y_sum : ∀ xs : List Int, ((xs.map xI).map x_cat).sum = xs.length
  | [] => rfl
  | x :: xs => by
    simp only [List.map_cons, List.sum_cons, List.length_cons, y_sum xs]
    show 1 + xs.length = _
    omega
theorem y_ent0 : ∀ (xs : List Int) (i j : Nat) (x : Int), xs[j]? = some x → x_ent (xs.map xI) i (i + j) = some (xI x)
  | [], i, j, x, hj => by simp at hj
  | y :: xs, i, j, x, hj => by
    show (if i + j = i then some (xI y) else x_ent (xs.map xI) (i + 1) (i + j)) = _
    cases j with
    | zero =>
      rw [if_pos (Nat.add_zero i)]
      simp at hj
      rw [hj]
    | succ j =>
      rw [if_neg (by omega), show i + (j + 1) = i + 1 + j by omega]
      exact y_ent0 xs (i + 1) j x (by simpa using hj)
/-- what a guarded call's end gives -/
def y_P (z : xMD) (v0 : Int) (Φ : xO → xM → xH → Prop) : xO → xM → xH → Prop := fun o M' h' => match o with
  | .inl (some (.inl v)) => Φ (.inl (some (xI v))) M' h'
  | .inr ee => (∃ t j, y_find (x_hh z) ee 0 = some (t, j)) ∧ Φ (.inl (some (xI v0))) M' h'
  | _ => False
/-- A HELPER of the law: what it answers, by the call that it guards -/
theorem y_help {z zz : xMD} {idx pcc pl pi pe p1 p2 n : Nat} (hB : y_ok z zz n idx pcc pl pi pe p1 p2 = true) {xs : List Int} (hn0 : xs.length = n) {M : xM} {h : xH} {Φ : xO → xM → xH → Prop} (h1 : hK h 1 = 7)
    (hM : x_Cal zz (xA 1 :: xs.map xI) M h (y_P z (-2) Φ)) : x_Cal z (xA 1 :: xs.map xI) M h Φ := by
  unfold y_ok at hB
  simp only [Bool.and_eq_true, decide_eq_true_eq] at hB
  obtain ⟨⟨b1, b2, b3, b4, b5, b6⟩, b7, b8, b9, b10, b11, b12, b13, b14, b17⟩ := hB
  split at b8
  · rename_i q2 hq2
    rw [decide_eq_true_eq] at b8
    refine y_met b2 b7 (by
      simp only [List.map_cons, List.sum_cons, y_sum, x_cat]
      omega) (fun X ρ0 p l e s m args below meth c hx => ?_)
    have e0 : x_ent (xA 1 :: xs.map xI) 0 0 = some (xA 1) := rfl
    have e3 : ∀ (j : Nat) (x : Int), xs[j]? = some x → x_ent (xA 1 :: xs.map xI) 0 (1 + j) = some (xI x) := fun j x hj => by
      show (if 1 + j = 0 then some (xA 1) else x_ent (xs.map xI) 1 (1 + j)) = _
      rw [if_neg (by omega)]
      exact y_ent0 xs 1 j x hj
    generalize x_ent (xA 1 :: xs.map xI) 0 = ls at e0 e3
    refine y_doA hx hq2 e0 ?_
    subst hn0
    refine y_doL hx xs 1 q2 _ b8 e3 ?_
    have hcov : y_cov z pcc := fun q hq => y_hs_cov _ b17 q hq
    refine sy_callV (as := xs.map xI) hx b1 hcov (hx.hts _ (x_has_in b10)) (hx.hts _ (x_has_in b11)) (hx.hts _ (x_has_in b12)) b9 (by decide) h1 hM (by rw [List.length_map]; exact x_okv_in b13) (Nat.le_of_ble_eq_true rfl) (by omega) (by omega) (fun M' h' k => k) (fun v M' h' k => ?_) (fun ee M' h' k => ?_)
    · cases v with
      | inl v => exact sy_iret hx b3 rfl b14 (by omega) (by omega) k
      | inr v => exact k.elim
    · obtain ⟨⟨t, j, f1⟩, f2⟩ := k
      refine ⟨t, j, f1, fun q => ?_⟩
      obtain ⟨i9, pc', pc2, g1, g2, g3⟩ := y_hs_at _ _ _ _ _ b17 f1
      exact y_doS hx g1 (y_doN hx g2 (sy_iret hx b3 rfl g3 (by omega) (by omega) f2))
  · cases b8
