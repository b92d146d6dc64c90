theorem x_cell_obj {X : xX} {ρ : Nat → Nat} {M : xM} {h : xH} {a q : Nat} (hk : hK h a = q) (hq : q < 10) : x_cell X ρ M h a = .inr (q, (List.range (x_N q)).map fun i => x_fv ρ (x_ty q i) (M a i) (hP h a i)) := by
  unfold x_cell; subst hk; rw [if_pos hq]
theorem x_cell_i {X : xX} {ρ : Nat → Nat} {M : xM} {h : xH} {a q : Nat} (hk : hK h a = q) (hq : q = 20 ∨ q = 21) : x_cell X ρ M h a = .inl (XA X (q - 20), (hL h a).toNat, .inl fun j => Int32.ofInt (M a j)) := by
  unfold x_cell; subst hk; rw [if_neg (by omega), if_pos (by omega)]
theorem x_cell_l {X : xX} {ρ : Nat → Nat} {M : xM} {h : xH} {a : Nat} (hk : hK h a = 22) : x_cell X ρ M h a = .inl (XA X 0, (hL h a).toNat, .inl fun j => Int32.ofInt (M a j)) := by
  unfold x_cell; rw [hk, if_neg (by omega), if_neg (by omega), if_pos (by omega)]
theorem x_cell_r {X : xX} {ρ : Nat → Nat} {M : xM} {h : xH} {a q : Nat} (hk : hK h a = q) (hq : q = 23 ∨ q = 24) : x_cell X ρ M h a = .inl (XA X (q - 20), (hL h a).toNat, .inr (.inr (.inr (.inr fun j => x_rf ρ (hP h a j))))) := by
  unfold x_cell; subst hk; rw [if_neg (by omega), if_neg (by omega), if_neg (by omega)]
theorem x_mrs {α : Type} (f g : Nat → α) (N i : Nat) (v : α) (hi : i < N) (hv : g i = v) (ho : ∀ j, j ≠ i → g j = f j) : ((List.range N).map f).set i v = (List.range N).map g := by
  apply List.ext_getElem?
  intro k
  by_cases hk : k = i
  · subst hk
    rw [List.getElem?_set_self (by simp; omega), List.getElem?_map, List.getElem?_range hi, ← hv]
    rfl
  · rw [List.getElem?_set_ne (fun q => hk q.symm), List.getElem?_map, List.getElem?_map]
    cases hr : (List.range N)[k]? with
    | none => rfl
    | some j =>
      obtain ⟨w, hw⟩ := List.getElem?_eq_some_iff.mp hr
      rw [List.getElem_range] at hw
      subst hw
      show some _ = some _
      rw [ho k hk]
theorem x_ok.lt {M : xM} {h : xH} (k : x_ok M h) {a q : Nat} (hk : hK h a = q) (hq : q < 25) : 1 ≤ a ∧ a < hn h := k.2.1 a (by omega)
theorem x_ok.w {M : xM} {h : xH} (k : x_ok M h) (a : Nat) (i v : Int) (hv : hK h a < 25 → x_rng (hK h a) i v) : x_ok (x_w M a i v) h := by
  obtain ⟨k1, k2, k3, k4, k5, k6⟩ := k
  refine ⟨k1, k2, k3, k4, fun id j hk => ?_, k6⟩
  unfold x_w
  by_cases hj : id = a ∧ j = i
  · rw [if_pos hj]
    obtain ⟨rfl, rfl⟩ := hj
    exact hv hk
  · rw [if_neg hj]
    exact k5 id j hk
theorem x_ok.pw {M : xM} {h : xH} (k : x_ok M h) (a : Nat) (i : Int) (r : Nat) (hr : r < hn h) : x_ok M (x_pw h a i r) := by
  obtain ⟨k1, k2, k3, k4, k5, k6⟩ := k
  refine ⟨k1, k2, k3, k4, k5, fun id j => ?_⟩
  show (if id = a ∧ j = i then r else hP h id j) < hn h
  split
  · exact hr
  · exact k6 id j
theorem x_w_o {X : xX} {ρ : Nat → Nat} {M : xM} {h : xH} {a : Nat} {i v : Int} (q : Nat) (hq : q ≠ a) : x_cell X ρ (x_w M a i v) h q = x_cell X ρ M h q := by
  have : ∀ j, x_w M a i v q j = M q j := fun j => if_neg (fun z => hq z.1)
  unfold x_cell
  simp only [this]
theorem x_pw_o {X : xX} {ρ : Nat → Nat} {M : xM} {h : xH} {a r : Nat} {i : Int} (q : Nat) (hq : q ≠ a) : x_cell X ρ M (x_pw h a i r) q = x_cell X ρ M h q := by
  have : ∀ j, hP (x_pw h a i r) q j = hP h q j := fun j => if_neg (fun z => hq z.1)
  unfold x_cell
  simp only [this]
  rfl
theorem x_vk.same {h h' : xH} (hn' : hn h' = hn h) {v : xV} (k : x_vk h v) : x_vk h' v := by
  rcases v with x | x | r | a | i
  · exact k
  · exact k
  · show r < hn h'
    rw [hn']
    exact k
  · exact k
  · exact k
/-- the same point over another memory of the same size -/
theorem x_St.mem {X : xX} {ρ0 : Nat → Nat} {n0 nL : Nat} {s : State} {ρ : Nat → Nat} {lsC : Array Slot} {H H1 : Heap} {locs locs1 : List Loc} {ls : xL} {st : List xV} {M M' : xM} {h h' : xH} (S : x_St X ρ0 n0 nL s ρ lsC H locs ls st M h) (hh : hn h' = hn h) (P : va_P (XD X) vwCl (x_ws X ρ M' h') H1) (D : va_D (x_A X) (x_ws X ρ M' h')) (K : x_ok M' h') (hS : va_S (x_A X) s.heap H1 locs1) : x_St X ρ0 n0 nL s ρ lsC H1 locs1 ls st M' h' :=
  ⟨⟨S.1.1, S.1.2.1, fun i v hi => ⟨(S.loc hi).1, (S.loc hi).2.same hh⟩⟩, fun v hv => (S.2.1 v hv).same hh, ⟨P, D, K⟩, hS, S.2.2.2.2.1, by rw [hh]; exact S.2.2.2.2.2⟩
theorem rng_i {q : Nat} {i v : Int} (hl : x_isl q i = false) (hv : x_i32 v) : x_rng q i v := by unfold x_rng; rw [if_neg (by rw [hl]; decide)]; exact hv
theorem rng_l {q : Nat} {i v : Int} (hl : x_isl q i = true) (hv : x_i64 v) : x_rng q i v := by unfold x_rng; rw [if_pos hl]; exact hv
theorem rng_i' {q : Nat} {i v : Int} (hl : x_isl q i = false) (hv : x_rng q i v) : x_i32 v := by unfold x_rng at hv; rw [if_neg (by rw [hl]; decide)] at hv; exact hv
theorem rng_l' {q : Nat} {i v : Int} (hl : x_isl q i = true) (hv : x_rng q i v) : x_i64 v := by unfold x_rng at hv; rw [if_pos hl] at hv; exact hv
section SM
variable {X : xX} {ρ0 : Nat → Nat} {n0 : Nat} {z : xMD} {p : Program} {l : Launch} {e : Env} {R : Room} {s : State} {m : MethodId} {args : Array Value} {below : List Frame} {meth : Method} {c : Code} {Q : State → Prop}
variable {pc cells slots : Nat} {ls : xL} {st : List xV} {M : xM} {h : xH}
theorem x_Cx.K (hx : x_Cx X z p l R s m args meth c) : va_K (XD X) vwCl (x_tys X) s := hx.2.2.2.2.2.2.2.2.2.2.2.1
theorem x_Cx.B (hx : x_Cx X z p l R s m args meth c) : XB X ≤ s.heap.size := hx.2.2.2.2.2.2.2.2.2.2.2.2.2
theorem x_Cx.O (hx : x_Cx X z p l R s m args meth c) : x_O X s s.heap := hx.2.2.2.2.2.2.2.2.2.2.2.2.1
theorem x_Cx.hts (hx : x_Cx X z p l R s m args meth c) : ∀ w ∈ x_tb, w.before args s = true := hx.2.2.2.2.1
theorem x_Cx.own (hx : x_Cx X z p l R s m args meth c) : s.vm.findClass (zN z).cls = some m.cls := hx.2.2.2.1
theorem sn_getf (hx : x_Cx X z p l R s m args meth c) {q i idx a : Nat} (hq : q < 10) (hi : i < x_N q) (hw : (Jvm.Cond.fieldLink (zN z).cls idx ((x_cl q).2.1 i).1 ((x_cl q).2.1 i).2.1 ((x_cl q).2.1 i).2.2.1).before args s = true) (d : decode (zB z) pc = .ok (.getfield idx, 3)) (hk : hK h a = q) {v : xV} (hv : ∀ ρ, x_c X ρ v = x_fv ρ (x_ty q i) (M a i) (hP h a i)) (hvk : x_ok M h → x_vk h v) (kk : x_Wt X ρ0 n0 (zL z) p l e R s m args below meth c Q (pc + 3) ls (v :: st) M h cells slots) : x_Wt X ρ0 n0 (zL z) p l e R s m args below meth c Q (pc) ls (xA a :: st) M h cells slots := by
  intro ρ lsC H locs S
  obtain ⟨c1, c2, c3, c4, c5⟩ := xc_ok q hq
  have ok := S.2.2.1.2.2
  obtain ⟨a1, a2⟩ := ok.lt hk (by omega)
  have he := x_ws_get (X := X) (ρ := ρ) (M := M) a1 a2
  rw [x_cell_obj hk hq] at he
  show W p l e R s m args below meth c H locs cells slots Q (F0 m pc lsC (va_rf (x_rf ρ a) :: st.map (x_c X ρ)))
  rw [x_rf_s (show a ≠ 0 by omega)]
  exact va_get (v := x_c X ρ v) (ref := ((x_cl q).2.1 i).1) hx.1 hx.2.1 hx.hts c2 hx.own hx.K S.2.2.1.1 (a - 1) he c1 i (by rw [c5]; exact hi) hw (fun x hx => hx) (by rw [List.getElem?_map, List.getElem?_range hi, hv]; rfl) d (kk ρ lsC H locs (S.pop.push (hvk ok)))
theorem sn_putf (hx : x_Cx X z p l R s m args meth c) {q i idx a : Nat} (hq : q < 10) (hi : i < x_N q) (hw : (Jvm.Cond.fieldLink (zN z).cls idx ((x_cl q).2.1 i).1 ((x_cl q).2.1 i).2.1 ((x_cl q).2.1 i).2.2.1).before args s = true) (hf : ((x_cl q).2.1 i).2.2.2 = false) (d : decode (zB z) pc = .ok (.putfield idx, 3)) (hk : hK h a = q) {v : xV} {M' : xM} {h' : xH} (hh : hn h' = hn h) (hkk : hK h' a = q)
    (hfn : ∀ ρ, x_c X ρ v = x_fv ρ (x_ty q i) (M' a i) (hP h' a i) ∧ narrow (x_ty q i) (x_c X ρ v) = x_c X ρ v ∧ fits (x_ty q i) (x_c X ρ v) = true) (ho : ∀ (ρ : Nat → Nat) (j : Nat), j ≠ i → x_fv ρ (x_ty q j) (M' a j) (hP h' a j) = x_fv ρ (x_ty q j) (M a j) (hP h a j)) (hc : ∀ (ρ : Nat → Nat) (b : Nat), b ≠ a → x_cell X ρ M' h' b = x_cell X ρ M h b) (hok : x_ok M h → x_vk h v → x_ok M' h')
    (kk : x_Wt X ρ0 n0 (zL z) p l e R s m args below meth c Q (pc + 3) ls st M' h' cells slots) : x_Wt X ρ0 n0 (zL z) p l e R s m args below meth c Q (pc) ls (v :: xA a :: st) M h cells slots := by
  intro ρ lsC H locs S
  obtain ⟨c1, c2, c3, c4, c5⟩ := xc_ok q hq
  have ok := S.2.2.1.2.2
  obtain ⟨a1, a2⟩ := ok.lt hk (by omega)
  have he := x_ws_get (X := X) (ρ := ρ) (M := M) a1 a2
  rw [x_cell_obj hk hq] at he
  obtain ⟨f1, f2, f3⟩ := hfn ρ
  show W p l e R s m args below meth c H locs cells slots Q (F0 m pc lsC (x_c X ρ v :: va_rf (x_rf ρ a) :: st.map (x_c X ρ)))
  rw [x_rf_s (show a ≠ 0 by omega)]
  refine va_put (ref := ((x_cl q).2.1 i).1) (ty := x_ty q i) hx.1 hx.2.1 hx.hts c2 (x_ty q) c3 c4 hx.own hx.K S.2.2.1.1 S.2.2.1.2.1 S.2.2.2.1 (a - 1) he c1 i (by rw [c5]; exact hi) hw (fun x hx => hx) hf (c3 i (by rw [c5]; exact hi)) f2 f3 (by simp; exact hi) d (fun H1 locs1 P1 D1 S1 => ?_)
  have e1 : (x_ws X ρ M h).set (a - 1) (ρ a, .inr (q, ((List.range (x_N q)).map fun i => x_fv ρ (x_ty q i) (M a i) (hP h a i)).set i (x_c X ρ v))) = x_ws X ρ M' h' :=
    x_ws_set a1 a2 hh (hc ρ) (by rw [x_cell_obj hkk hq, x_mrs _ (fun i => x_fv ρ (x_ty q i) (M' a i) (hP h' a i)) _ _ _ hi f1.symm (ho ρ)])
  rw [e1] at P1 D1
  exact kk ρ lsC H1 locs1 (S.pop.pop.mem hh P1 D1 (hok ok S.top) S1)
theorem sn_putfF (hx : x_Cx X z p l R s m args meth c) {q i idx a : Nat} (hq : q < 10) (hi : i < x_N q) (hw : (Jvm.Cond.fieldLink (zN z).cls idx ((x_cl q).2.1 i).1 ((x_cl q).2.1 i).2.1 ((x_cl q).2.1 i).2.2.1).before args s = true) (hf : ((x_cl q).2.1 i).2.2.2 = true) (hin : (zN z).name = "<init>") (hdc : ((x_cl q).2.1 i).1 = (zN z).cls) (d : decode (zB z) pc = .ok (.putfield idx, 3)) (hk : hK h a = q) {v : xV} {M' : xM} {h' : xH} (hh : hn h' = hn h) (hkk : hK h' a = q)
    (hfn : ∀ ρ, x_c X ρ v = x_fv ρ (x_ty q i) (M' a i) (hP h' a i) ∧ narrow (x_ty q i) (x_c X ρ v) = x_c X ρ v ∧ fits (x_ty q i) (x_c X ρ v) = true) (ho : ∀ (ρ : Nat → Nat) (j : Nat), j ≠ i → x_fv ρ (x_ty q j) (M' a j) (hP h' a j) = x_fv ρ (x_ty q j) (M a j) (hP h a j)) (hc : ∀ (ρ : Nat → Nat) (b : Nat), b ≠ a → x_cell X ρ M' h' b = x_cell X ρ M h b) (hok : x_ok M h → x_vk h v → x_ok M' h')
    (kk : x_Wt X ρ0 n0 (zL z) p l e R s m args below meth c Q (pc + 3) ls st M' h' cells slots) : x_Wt X ρ0 n0 (zL z) p l e R s m args below meth c Q (pc) ls (v :: xA a :: st) M h cells slots := by
  intro ρ lsC H locs S
  obtain ⟨c1, c2, c3, c4, c5⟩ := xc_ok q hq
  have ok := S.2.2.1.2.2
  obtain ⟨a1, a2⟩ := ok.lt hk (by omega)
  have he := x_ws_get (X := X) (ρ := ρ) (M := M) a1 a2
  rw [x_cell_obj hk hq] at he
  obtain ⟨f1, f2, f3⟩ := hfn ρ
  show W p l e R s m args below meth c H locs cells slots Q (F0 m pc lsC (x_c X ρ v :: va_rf (x_rf ρ a) :: st.map (x_c X ρ)))
  rw [x_rf_s (show a ≠ 0 by omega)]
  refine va_putF (ref := ((x_cl q).2.1 i).1) (ty := x_ty q i) hx.1 hx.2.1 hx.hts c2 (x_ty q) c3 c4 hx.own hx.K S.2.2.1.1 S.2.2.1.2.1 S.2.2.2.1 (a - 1) he c1 i (by rw [c5]; exact hi) hw (fun x hx => hx) hf (hx.2.2.2.2.2.2.2.2.2.2.1.trans hin) hdc (c3 i (by rw [c5]; exact hi)) f2 f3 (by simp; exact hi) d (fun H1 locs1 P1 D1 S1 => ?_)
  have e1 : (x_ws X ρ M h).set (a - 1) (ρ a, .inr (q, ((List.range (x_N q)).map fun i => x_fv ρ (x_ty q i) (M a i) (hP h a i)).set i (x_c X ρ v))) = x_ws X ρ M' h' :=
    x_ws_set a1 a2 hh (hc ρ) (by rw [x_cell_obj hkk hq, x_mrs _ (fun i => x_fv ρ (x_ty q i) (M' a i) (hP h' a i)) _ _ _ hi f1.symm (ho ρ)])
  rw [e1] at P1 D1
  exact kk ρ lsC H1 locs1 (S.pop.pop.mem hh P1 D1 (hok ok S.top) S1)
theorem sn_iaload (hx : x_Cx X z p l R s m args meth c) {i : Int} {a : Nat} (d : decode (zB z) pc = .ok (.iaload, 1)) (hk : hK h a = 20) (hi : 0 ≤ i ∧ i < hL h a) (kk : x_Wt X ρ0 n0 (zL z) p l e R s m args below meth c Q (pc + 1) ls (xI (M a i) :: st) M h cells slots) : x_Wt X ρ0 n0 (zL z) p l e R s m args below meth c Q (pc) ls (xI i :: xA a :: st) M h cells slots := by
  intro ρ lsC H locs S
  have ok := S.2.2.1.2.2
  obtain ⟨a1, a2⟩ := ok.lt hk (by omega)
  have he := x_ws_get (X := X) (ρ := ρ) (M := M) a1 a2
  rw [x_cell_i hk (Or.inl rfl)] at he
  show W p l e R s m args below meth c H locs cells slots Q (F0 m pc lsC (.int (Int32.ofInt i) :: va_rf (x_rf ρ a) :: st.map (x_c X ρ)))
  rw [x_rf_s (show a ≠ 0 by omega)]
  refine va_iald hx.1 hx.2.1 hx.K S.2.2.1.1 (a - 1) 0 he rfl (i32_vin S.top hi.1 hi.2) d ?_
  rw [i32_cl S.top]
  have k1 := kk ρ lsC H locs (S.pop.pop.push (v := xI (M a i)) (rng_i' (q := 20) rfl (by have := ok.2.2.2.2.1 a i (by omega); rw [hk] at this; exact this)))
  have e1 : ((i.toNat : Nat) : Int) = i := Int.toNat_of_nonneg hi.1
  rw [e1]
  exact k1
theorem sn_baload (hx : x_Cx X z p l R s m args meth c) {i : Int} {a : Nat} (d : decode (zB z) pc = .ok (.baload, 1)) (hk : hK h a = 21) (hi : 0 ≤ i ∧ i < hL h a) (kk : x_Wt X ρ0 n0 (zL z) p l e R s m args below meth c Q (pc + 1) ls (xI (M a i) :: st) M h cells slots) : x_Wt X ρ0 n0 (zL z) p l e R s m args below meth c Q (pc) ls (xI i :: xA a :: st) M h cells slots := by
  intro ρ lsC H locs S
  have ok := S.2.2.1.2.2
  obtain ⟨a1, a2⟩ := ok.lt hk (by omega)
  have he := x_ws_get (X := X) (ρ := ρ) (M := M) a1 a2
  rw [x_cell_i hk (Or.inr rfl)] at he
  show W p l e R s m args below meth c H locs cells slots Q (F0 m pc lsC (.int (Int32.ofInt i) :: va_rf (x_rf ρ a) :: st.map (x_c X ρ)))
  rw [x_rf_s (show a ≠ 0 by omega)]
  refine va_bald hx.1 hx.2.1 hx.K S.2.2.1.1 (a - 1) 1 he rfl (i32_vin S.top hi.1 hi.2) d ?_
  rw [i32_cl S.top]
  have k1 := kk ρ lsC H locs (S.pop.pop.push (v := xI (M a i)) (rng_i' (q := 21) rfl (by have := ok.2.2.2.2.1 a i (by omega); rw [hk] at this; exact this)))
  have e1 : ((i.toNat : Nat) : Int) = i := Int.toNat_of_nonneg hi.1
  rw [e1]
  exact k1
theorem sn_aaload23 (hx : x_Cx X z p l R s m args meth c) {i : Int} {a : Nat} (d : decode (zB z) pc = .ok (.aaload, 1)) (hk : hK h a = 23) (hi : 0 ≤ i ∧ i < hL h a) (kk : x_Wt X ρ0 n0 (zL z) p l e R s m args below meth c Q (pc + 1) ls (xA (hP h a i) :: st) M h cells slots) : x_Wt X ρ0 n0 (zL z) p l e R s m args below meth c Q (pc) ls (xI i :: xA a :: st) M h cells slots := by
  intro ρ lsC H locs S
  have ok := S.2.2.1.2.2
  obtain ⟨a1, a2⟩ := ok.lt hk (by omega)
  have he := x_ws_get (X := X) (ρ := ρ) (M := M) a1 a2
  rw [x_cell_r hk (by omega)] at he
  show W p l e R s m args below meth c H locs cells slots Q (F0 m pc lsC (.int (Int32.ofInt i) :: va_rf (x_rf ρ a) :: st.map (x_c X ρ)))
  rw [x_rf_s (show a ≠ 0 by omega)]
  refine va_aldq hx.1 hx.2.1 hx.K S.2.2.1.1 (a - 1) 3 he rfl (i32_vin S.top hi.1 hi.2) d ?_
  rw [i32_cl S.top]
  have k1 := kk ρ lsC H locs (S.pop.pop.push (v := xA (hP h a i)) (ok.2.2.2.2.2 a i))
  have e1 : ((i.toNat : Nat) : Int) = i := Int.toNat_of_nonneg hi.1
  rw [e1]
  exact k1
theorem sn_aaload24 (hx : x_Cx X z p l R s m args meth c) {i : Int} {a : Nat} (d : decode (zB z) pc = .ok (.aaload, 1)) (hk : hK h a = 24) (hi : 0 ≤ i ∧ i < hL h a) (kk : x_Wt X ρ0 n0 (zL z) p l e R s m args below meth c Q (pc + 1) ls (xA (hP h a i) :: st) M h cells slots) : x_Wt X ρ0 n0 (zL z) p l e R s m args below meth c Q (pc) ls (xI i :: xA a :: st) M h cells slots := by
  intro ρ lsC H locs S
  have ok := S.2.2.1.2.2
  obtain ⟨a1, a2⟩ := ok.lt hk (by omega)
  have he := x_ws_get (X := X) (ρ := ρ) (M := M) a1 a2
  rw [x_cell_r hk (by omega)] at he
  show W p l e R s m args below meth c H locs cells slots Q (F0 m pc lsC (.int (Int32.ofInt i) :: va_rf (x_rf ρ a) :: st.map (x_c X ρ)))
  rw [x_rf_s (show a ≠ 0 by omega)]
  refine va_aldq hx.1 hx.2.1 hx.K S.2.2.1.1 (a - 1) 4 he rfl (i32_vin S.top hi.1 hi.2) d ?_
  rw [i32_cl S.top]
  have k1 := kk ρ lsC H locs (S.pop.pop.push (v := xA (hP h a i)) (ok.2.2.2.2.2 a i))
  have e1 : ((i.toNat : Nat) : Int) = i := Int.toNat_of_nonneg hi.1
  rw [e1]
  exact k1
theorem sn_iastore (hx : x_Cx X z p l R s m args meth c) {i v : Int} {a : Nat} (d : decode (zB z) pc = .ok (.iastore, 1)) (hk : hK h a = 20) (hi : 0 ≤ i ∧ i < hL h a) (kk : x_Wt X ρ0 n0 (zL z) p l e R s m args below meth c Q (pc + 1) ls st (x_w M a i v) h cells slots) : x_Wt X ρ0 n0 (zL z) p l e R s m args below meth c Q (pc) ls (xI v :: xI i :: xA a :: st) M h cells slots := by
  intro ρ lsC H locs S
  have ok := S.2.2.1.2.2
  obtain ⟨a1, a2⟩ := ok.lt hk (by omega)
  have he := x_ws_get (X := X) (ρ := ρ) (M := M) a1 a2
  rw [x_cell_i hk (Or.inl rfl)] at he
  show W p l e R s m args below meth c H locs cells slots Q (F0 m pc lsC (.int (Int32.ofInt v) :: .int (Int32.ofInt i) :: va_rf (x_rf ρ a) :: st.map (x_c X ρ)))
  rw [x_rf_s (show a ≠ 0 by omega)]
  refine va_iast hx.1 hx.2.1 hx.K S.2.2.1.1 S.2.2.1.2.1 S.2.2.2.1 (a - 1) 0 he rfl (i32_vin S.pop.top hi.1 hi.2) d (fun H1 locs1 P1 D1 S1 => ?_)
  rw [i32_cl S.pop.top] at P1 D1
  have e1 : (x_ws X ρ M h).set (a - 1) (ρ a, .inl (XA X (20 - 20), (hL h a).toNat, .inl (upd (fun j : Nat => Int32.ofInt (M a j)) i.toNat (Int32.ofInt v)))) = x_ws X ρ (x_w M a i v) h :=
    x_ws_set a1 a2 rfl (fun b hb => x_w_o b hb) (by
      rw [x_cell_i hk (Or.inl rfl)]
      congr 4
      funext j
      unfold x_w upd
      by_cases hj : j = i.toNat
      · rw [if_pos hj, if_pos ⟨rfl, by omega⟩]
      · rw [if_neg hj, if_neg (by omega)])
  rw [e1] at P1 D1
  exact kk ρ lsC H1 locs1 (S.pop.pop.pop.mem rfl P1 D1 (ok.w a i v (fun _ => by rw [hk]; exact rng_i rfl S.top)) S1)
theorem sn_bastore (hx : x_Cx X z p l R s m args meth c) {i v : Int} {a : Nat} (d : decode (zB z) pc = .ok (.bastore, 1)) (hk : hK h a = 21) (hi : 0 ≤ i ∧ i < hL h a) (kk : x_Wt X ρ0 n0 (zL z) p l e R s m args below meth c Q (pc + 1) ls st (x_w M a i (w8 v)) h cells slots) : x_Wt X ρ0 n0 (zL z) p l e R s m args below meth c Q (pc) ls (xI v :: xI i :: xA a :: st) M h cells slots := by
  intro ρ lsC H locs S
  have ok := S.2.2.1.2.2
  obtain ⟨a1, a2⟩ := ok.lt hk (by omega)
  have he := x_ws_get (X := X) (ρ := ρ) (M := M) a1 a2
  rw [x_cell_i hk (Or.inr rfl)] at he
  show W p l e R s m args below meth c H locs cells slots Q (F0 m pc lsC (.int (Int32.ofInt v) :: .int (Int32.ofInt i) :: va_rf (x_rf ρ a) :: st.map (x_c X ρ)))
  rw [x_rf_s (show a ≠ 0 by omega)]
  refine va_bast hx.1 hx.2.1 hx.K S.2.2.1.1 S.2.2.1.2.1 S.2.2.2.1 (a - 1) 1 he rfl (i32_vin S.pop.top hi.1 hi.2) d (fun H1 locs1 P1 D1 S1 => ?_)
  rw [i32_cl S.pop.top] at P1 D1
  have e1 : (x_ws X ρ M h).set (a - 1) (ρ a, .inl (XA X (21 - 20), (hL h a).toNat, .inl (upd (fun j : Nat => Int32.ofInt (M a j)) i.toNat (vp_nar .byte (Int32.ofInt v))))) = x_ws X ρ (x_w M a i (w8 v)) h :=
    x_ws_set a1 a2 rfl (fun b hb => x_w_o b hb) (by
      rw [x_cell_i hk (Or.inr rfl)]
      congr 4
      funext j
      unfold x_w upd
      by_cases hj : j = i.toNat
      · rw [if_pos hj, if_pos ⟨rfl, by omega⟩]
        rw [vp_nar_byte]; exact (Int32.toInt_inj.mp (by rw [i32_to (w8_in v), Int8.toInt_toInt32, Int32.toInt8_ofInt, Int8.toInt_ofInt]; rfl)).symm
      · rw [if_neg hj, if_neg (by omega)])
  rw [e1] at P1 D1
  exact kk ρ lsC H1 locs1 (S.pop.pop.pop.mem rfl P1 D1 (ok.w a i (w8 v) (fun _ => by rw [hk]; exact rng_i rfl (w8_in v))) S1)
end SM
