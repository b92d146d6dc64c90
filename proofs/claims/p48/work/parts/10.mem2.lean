def x_ru (ρ : Nat → Nat) (n q : Nat) : Nat → Nat := fun id => if id = n then q else ρ id
theorem x_ru_o {ρ : Nat → Nat} {n q r : Nat} (h : r < n) : x_ru ρ n q r = ρ r := if_neg (by omega)
theorem x_rf_u {ρ : Nat → Nat} {n q r : Nat} (h : r < n) : x_rf (x_ru ρ n q) r = x_rf ρ r := by
  unfold x_rf
  split
  · rfl
  · rw [x_ru_o h]
theorem x_c_u {X : xX} {ρ : Nat → Nat} {h : xH} {q : Nat} {v : xV} (hv : x_vk h v) : x_c X (x_ru ρ (hn h) q) v = x_c X ρ v := by
  rcases v with x | x | r | a | i
  · rfl
  · rfl
  · show va_rf (x_rf _ r) = va_rf (x_rf ρ r)
    rw [x_rf_u hv]
  · rfl
  · rfl
theorem x_fv_u {ρ : Nat → Nat} {n q : Nat} {t : FieldType} {v : Int} {r : Nat} (h : r < n) : x_fv (x_ru ρ n q) t v r = x_fv ρ t v r := by
  cases t <;> first | rfl | (show va_rf (x_rf _ r) = va_rf (x_rf ρ r); rw [x_rf_u h])
theorem x_cell_u {X : xX} {ρ : Nat → Nat} {M : xM} {h : xH} {k q : Nat} {len : Int} (ok : x_ok M h) {id : Nat} (hid : id < hn h) : x_cell X (x_ru ρ (hn h) q) (x_z M h) (x_new h k len) id = x_cell X ρ M h id := by
  have e : id ≠ hn h := by omega
  have eK : hK (x_new h k len) id = hK h id := if_neg e
  have eL : hL (x_new h k len) id = hL h id := if_neg e
  have eP : ∀ j, hP (x_new h k len) id j = hP h id j := fun j => if_neg e
  have eM : ∀ j, x_z M h id j = M id j := fun j => if_neg e
  unfold x_cell
  simp only [eK, eL, eP, eM, x_fv_u (ok.2.2.2.2.2 id _), x_rf_u (ok.2.2.2.2.2 id _)]
theorem x_ok.new {M : xM} {h : xH} (ok : x_ok M h) {k : Nat} {len : Int} (hk : k < 10 ∨ (20 ≤ k ∧ k < 25)) (hl : 0 ≤ len ∧ len < 2147483648) : x_ok (x_z M h) (x_new h k len) := by
  obtain ⟨k1, k2, k3, k4, k5, k6⟩ := ok
  refine ⟨Nat.le_add_left _ _, fun id hid => ?_, fun id a b => ?_, fun id => ?_, fun id i hid => ?_, fun id i => ?_⟩
  · show 1 ≤ id ∧ id < hn h + 1
    have hid' : (if id = hn h then k else hK h id) < 25 := hid
    by_cases e : id = hn h
    · omega
    · rw [if_neg e] at hid'
      have := k2 id hid'
      omega
  · show (if id = hn h then k else hK h id) < 10 ∨ (20 ≤ (if id = hn h then k else hK h id) ∧ (if id = hn h then k else hK h id) < 25)
    have b' : id < hn h + 1 := b
    by_cases e : id = hn h
    · rw [if_pos e]; exact hk
    · rw [if_neg e]; exact k3 id a (by omega)
  · show 0 ≤ (if id = hn h then len else hL h id) ∧ (if id = hn h then len else hL h id) < 2147483648
    by_cases e : id = hn h
    · rw [if_pos e]; exact hl
    · rw [if_neg e]; exact k4 id
  · show x_rng (if id = hn h then k else hK h id) i (if id = hn h then 0 else M id i)
    have hid' : (if id = hn h then k else hK h id) < 25 := hid
    by_cases e : id = hn h
    · rw [if_pos e, if_pos e]
      unfold x_rng x_i64 x_i32
      split <;> omega
    · rw [if_neg e] at hid'
      rw [if_neg e, if_neg e]
      exact k5 id i hid'
  · show (if id = hn h then 0 else hP h id i) < hn h + 1
    have := k6 id i
    split <;> omega
theorem x_map_u {X : xX} {ρ : Nat → Nat} {h : xH} {q : Nat} {st : List xV} (hs : ∀ v ∈ st, x_vk h v) : st.map (x_c X (x_ru ρ (hn h) q)) = st.map (x_c X ρ) := List.map_congr_left fun v hv => x_c_u (hs v hv)
theorem x_vk.grow {h h' : xH} (hh : hn h ≤ hn h') {v : xV} (k : x_vk h v) : x_vk h' v := by
  rcases v with x | x | r | a | i
  · exact k
  · exact k
  · exact Nat.lt_of_lt_of_le k hh
  · exact k
  · exact k
/-- the same point behind a new object -/
theorem x_St.fresh {X : xX} {ρ0 : Nat → Nat} {n0 nL : Nat} {s : State} {ρ : Nat → Nat} {lsC : Array Slot} {H H1 : Heap} {locs locs1 : List Loc} {ls : xL} {st : List xV} {M : xM} {h : xH} {k q : Nat} {len : Int} {e : va_E} (S : x_St X ρ0 n0 nL s ρ lsC H locs ls st M h) (hk : k < 10 ∨ (20 ≤ k ∧ k < 25)) (hl : 0 ≤ len ∧ len < 2147483648)
    (he : x_cell X (x_ru ρ (hn h) q) (x_z M h) (x_new h k len) (hn h) = e) (P : va_P (XD X) vwCl (x_ws X ρ M h ++ [(q, e)]) H1) (D : va_D (x_A X) (x_ws X ρ M h ++ [(q, e)])) (hS : va_S (x_A X) s.heap H1 locs1) : x_St X ρ0 n0 nL s (x_ru ρ (hn h) q) lsC H1 locs1 ls (xA (hn h) :: st) (x_z M h) (x_new h k len) := by
  have ok := S.2.2.1.2.2
  have e1 : x_ws X ρ M h ++ [(q, e)] = x_ws X (x_ru ρ (hn h) q) (x_z M h) (x_new h k len) := x_ws_new ok.1 rfl (fun id hid => ⟨x_ru_o hid, x_cell_u ok hid⟩) (if_pos rfl) he
  rw [e1] at P D
  refine ⟨⟨S.1.1, S.1.2.1, fun i v hi => ⟨by rw [x_c_u (S.loc hi).2]; exact (S.loc hi).1, (S.loc hi).2.grow (Nat.le_succ _)⟩⟩, fun v hv => ?_, ⟨P, D, ok.new hk hl⟩, hS, fun id hid => ?_, Nat.le_trans S.2.2.2.2.2 (Nat.le_succ _)⟩
  · rcases List.mem_cons.mp hv with rfl | hv
    · exact Nat.lt_succ_self _
    · exact (S.2.1 v hv).grow (Nat.le_succ _)
  · rw [x_ru_o (Nat.lt_of_lt_of_le hid S.2.2.2.2.2)]
    exact S.2.2.2.2.1 id hid
def x_tok (t : FieldType) : Bool := match t with
  | .int => true
  | .long => true
  | .byte => true
  | .boolean => true
  | .object _ => true
  | .array _ => true
  | _ => false
theorem x_tok_ok : ∀ q, q < 10 → ∀ j, j < x_N q → x_tok (x_ty q j) = true := by decide +kernel
theorem x_fv_0 {ρ : Nat → Nat} {t : FieldType} (h : x_tok t = true) : x_fv ρ t 0 0 = defaultValue t := by
  cases t <;> first | rfl | (simp [x_tok] at h)
theorem x_cell_n {X : xX} {ρ : Nat → Nat} {M : xM} {h : xH} {k : Nat} {len : Int} : hK (x_new h k len) (hn h) = k ∧ hL (x_new h k len) (hn h) = len ∧ (∀ j, hP (x_new h k len) (hn h) j = 0) ∧ ∀ j, x_z M h (hn h) j = 0 := ⟨if_pos rfl, if_pos rfl, fun _ => if_pos rfl, fun _ => if_pos rfl⟩
section SM2
variable {X : xX} {ρ0 : Nat → Nat} {n0 : Nat} {z : xMD} {p : Program} {l : Launch} {e : Env} {R : Room} {s : State} {m : MethodId} {args : Array Value} {below : List Frame} {meth : Method} {c : Code} {Q : State → Prop}
variable {pc cells slots : Nat} {ls : xL} {st : List xV} {M : xM} {h : xH}
theorem x_Cx.rm (hx : x_Cx X z p l R s m args meth c) : R = x_rm z := hx.2.2.2.2.2.2.2.2.2.1
theorem sn_aastore23 (hx : x_Cx X z p l R s m args meth c) {i : Int} {a r : Nat} (d : decode (zB z) pc = .ok (.aastore, 1)) (hk : hK h a = 23) (hr : r = 0 ∨ hK h r = 1) (hi : 0 ≤ i ∧ i < hL h a) (kk : x_Wt X ρ0 n0 (zL z) p l e R s m args below meth c Q (pc + 1) ls st M (x_pw h a i r) cells slots) : x_Wt X ρ0 n0 (zL z) p l e R s m args below meth c Q (pc) ls (xA r :: xI i :: xA a :: st) M h cells slots := by
  intro ρ lsC H locs S
  have ok := S.2.2.1.2.2
  obtain ⟨a1, a2⟩ := ok.lt hk (by omega)
  have he := x_ws_get (X := X) (ρ := ρ) (M := M) a1 a2
  rw [x_cell_r hk (by omega)] at he
  have hr2 : r < hn h := S.top
  have e1 : (x_ws X ρ M h).set (a - 1) (ρ a, .inl (XA X (23 - 20), (hL h a).toNat, .inr (.inr (.inr (.inr (va_up (fun j : Nat => x_rf ρ (hP h a j)) i.toNat (x_rf ρ r))))))) = x_ws X ρ M (x_pw h a i r) :=
    x_ws_set a1 a2 rfl (fun b hb => x_pw_o b hb) (by
      rw [x_cell_r (h := x_pw h a i r) (q := 23) hk (by omega)]
      show Sum.inl (XA X (23 - 20), (hL h a).toNat, _) = _
      congr 8
      funext j
      show x_rf ρ (if a = a ∧ (j : Int) = i then r else hP h a j) = va_up _ i.toNat (x_rf ρ r) j
      unfold va_up
      by_cases hj : j = i.toNat
      · rw [if_pos hj, if_pos ⟨rfl, by omega⟩]
      · rw [if_neg hj, if_neg (by omega)])
  show W p l e R s m args below meth c H locs cells slots Q (F0 m pc lsC (va_rf (x_rf ρ r) :: .int (Int32.ofInt i) :: va_rf (x_rf ρ a) :: st.map (x_c X ρ)))
  rw [x_rf_s (show a ≠ 0 by omega)]
  by_cases hr0 : r = 0
  · subst hr0
    refine va_astqN hx.1 hx.2.1 hx.K S.2.2.1.1 S.2.2.1.2.1 S.2.2.2.1 (a - 1) 3 he rfl (i32_vin S.pop.top hi.1 hi.2) d (fun H1 locs1 P1 D1 S1 => ?_)
    rw [i32_cl S.pop.top] at P1 D1
    have e1' := e1
    rw [x_rf_0] at e1'
    rw [e1'] at P1 D1
    exact kk ρ lsC H1 locs1 (S.pop.pop.pop.mem rfl P1 D1 (ok.pw a i 0 hr2) S1)
  · have hrk : hK h r = 1 := hr.resolve_left hr0
    obtain ⟨r1, r2⟩ := ok.lt hrk (by omega)
    have hv := x_ws_get (X := X) (ρ := ρ) (M := M) r1 r2
    rw [x_cell_obj hrk (by omega)] at hv
    rw [x_rf_s hr0]
    refine va_astq hx.1 hx.2.1 hx.K S.2.2.1.1 S.2.2.1.2.1 S.2.2.2.1 (a - 1) 3 (r - 1) 1 he rfl hv (r := (RX1, TX1, x_N 1)) rfl (i32_vin S.pop.top hi.1 hi.2) d (fun H1 locs1 P1 D1 S1 => ?_)
    rw [i32_cl S.pop.top] at P1 D1
    have e1' := e1
    rw [x_rf_s hr0] at e1'
    rw [e1'] at P1 D1
    exact kk ρ lsC H1 locs1 (S.pop.pop.pop.mem rfl P1 D1 (ok.pw a i r hr2) S1)
theorem sn_aastore24 (hx : x_Cx X z p l R s m args meth c) {i : Int} {a r : Nat} (d : decode (zB z) pc = .ok (.aastore, 1)) (hk : hK h a = 24) (hr : r = 0 ∨ hK h r = 4) (hi : 0 ≤ i ∧ i < hL h a) (kk : x_Wt X ρ0 n0 (zL z) p l e R s m args below meth c Q (pc + 1) ls st M (x_pw h a i r) cells slots) : x_Wt X ρ0 n0 (zL z) p l e R s m args below meth c Q (pc) ls (xA r :: xI i :: xA a :: st) M h cells slots := by
  intro ρ lsC H locs S
  have ok := S.2.2.1.2.2
  obtain ⟨a1, a2⟩ := ok.lt hk (by omega)
  have he := x_ws_get (X := X) (ρ := ρ) (M := M) a1 a2
  rw [x_cell_r hk (by omega)] at he
  have hr2 : r < hn h := S.top
  have e1 : (x_ws X ρ M h).set (a - 1) (ρ a, .inl (XA X (24 - 20), (hL h a).toNat, .inr (.inr (.inr (.inr (va_up (fun j : Nat => x_rf ρ (hP h a j)) i.toNat (x_rf ρ r))))))) = x_ws X ρ M (x_pw h a i r) :=
    x_ws_set a1 a2 rfl (fun b hb => x_pw_o b hb) (by
      rw [x_cell_r (h := x_pw h a i r) (q := 24) hk (by omega)]
      show Sum.inl (XA X (24 - 20), (hL h a).toNat, _) = _
      congr 8
      funext j
      show x_rf ρ (if a = a ∧ (j : Int) = i then r else hP h a j) = va_up _ i.toNat (x_rf ρ r) j
      unfold va_up
      by_cases hj : j = i.toNat
      · rw [if_pos hj, if_pos ⟨rfl, by omega⟩]
      · rw [if_neg hj, if_neg (by omega)])
  show W p l e R s m args below meth c H locs cells slots Q (F0 m pc lsC (va_rf (x_rf ρ r) :: .int (Int32.ofInt i) :: va_rf (x_rf ρ a) :: st.map (x_c X ρ)))
  rw [x_rf_s (show a ≠ 0 by omega)]
  by_cases hr0 : r = 0
  · subst hr0
    refine va_astqN hx.1 hx.2.1 hx.K S.2.2.1.1 S.2.2.1.2.1 S.2.2.2.1 (a - 1) 4 he rfl (i32_vin S.pop.top hi.1 hi.2) d (fun H1 locs1 P1 D1 S1 => ?_)
    rw [i32_cl S.pop.top] at P1 D1
    have e1' := e1
    rw [x_rf_0] at e1'
    rw [e1'] at P1 D1
    exact kk ρ lsC H1 locs1 (S.pop.pop.pop.mem rfl P1 D1 (ok.pw a i 0 hr2) S1)
  · have hrk : hK h r = 4 := hr.resolve_left hr0
    obtain ⟨r1, r2⟩ := ok.lt hrk (by omega)
    have hv := x_ws_get (X := X) (ρ := ρ) (M := M) r1 r2
    rw [x_cell_obj hrk (by omega)] at hv
    rw [x_rf_s hr0]
    refine va_astq hx.1 hx.2.1 hx.K S.2.2.1.1 S.2.2.1.2.1 S.2.2.2.1 (a - 1) 4 (r - 1) 4 he rfl hv (r := (RX4, TX4, x_N 4)) rfl (i32_vin S.pop.top hi.1 hi.2) d (fun H1 locs1 P1 D1 S1 => ?_)
    rw [i32_cl S.pop.top] at P1 D1
    have e1' := e1
    rw [x_rf_s hr0] at e1'
    rw [e1'] at P1 D1
    exact kk ρ lsC H1 locs1 (S.pop.pop.pop.mem rfl P1 D1 (ok.pw a i r hr2) S1)
theorem sn_alen (hx : x_Cx X z p l R s m args meth c) {a : Nat} (d : decode (zB z) pc = .ok (.arraylength, 1)) (h1 : 20 ≤ hK h a) (h2 : hK h a ≤ 24) (kk : x_Wt X ρ0 n0 (zL z) p l e R s m args below meth c Q (pc + 1) ls (xI (hL h a) :: st) M h cells slots) : x_Wt X ρ0 n0 (zL z) p l e R s m args below meth c Q (pc) ls (xA a :: st) M h cells slots := by
  intro ρ lsC H locs S
  have ok := S.2.2.1.2.2
  obtain ⟨a1, a2⟩ := ok.lt rfl (show hK h a < 25 by omega)
  obtain ⟨l1, l2⟩ := ok.2.2.2.1 a
  have he := x_ws_get (X := X) (ρ := ρ) (M := M) a1 a2
  have hv : Int32.ofNat (hL h a).toNat = Int32.ofInt (hL h a) := by
    rw [← Int32.ofInt_eq_ofNat, Int.toNat_of_nonneg l1]
  have k1 := kk ρ lsC H locs (S.pop.push (v := xI (hL h a)) (by show x_i32 _; unfold x_i32; omega))
  show W p l e R s m args below meth c H locs cells slots Q (F0 m pc lsC (va_rf (x_rf ρ a) :: st.map (x_c X ρ)))
  rw [x_rf_s (show a ≠ 0 by omega)]
  have hk : hK h a = 20 ∨ hK h a = 21 ∨ hK h a = 22 ∨ hK h a = 23 ∨ hK h a = 24 := by omega
  rcases hk with hk | hk | hk | hk | hk
  · rw [x_cell_i hk (Or.inl rfl)] at he
    exact va_alen hx.1 hx.2.1 hx.K S.2.2.1.1 (a - 1) 0 he (ty := .int) rfl hv d k1
  · rw [x_cell_i hk (Or.inr rfl)] at he
    exact va_alen hx.1 hx.2.1 hx.K S.2.2.1.1 (a - 1) 1 he (ty := .byte) rfl hv d k1
  · rw [x_cell_l hk] at he
    exact va_alen hx.1 hx.2.1 hx.K S.2.2.1.1 (a - 1) 2 he (ty := .int) rfl hv d k1
  · rw [x_cell_r hk (Or.inl rfl)] at he
    exact va_alen hx.1 hx.2.1 hx.K S.2.2.1.1 (a - 1) 3 he (ty := .object RX1) rfl hv d k1
  · rw [x_cell_r hk (Or.inr rfl)] at he
    exact va_alen hx.1 hx.2.1 hx.K S.2.2.1.1 (a - 1) 4 he (ty := .object RX4) rfl hv d k1
theorem x_Ag (hx : x_Cx X z p l R s m args meth c) : ∀ q, s.heap.size ≤ q → x_A X q := fun q hq => Nat.le_trans hx.B hq
theorem sn_new (hx : x_Cx X z p l R s m args meth c) {q idx : Nat} (hq : q < 10) (w1 : (Cond.classLink (zN z).cls idx (x_cl q).1).before args s = true) (w2 : (Cond.instantiable (x_cl q).1 (x_N q)).before args s = true) (w3 : (Cond.initialized (x_cl q).1).before args s = true) (d : decode (zB z) pc = .ok (.new idx, 3)) (hc : cells + 1 ≤ zC z) (hs : slots + x_N q ≤ zS z)
    (kk : x_Wt X ρ0 n0 (zL z) p l e R s m args below meth c Q (pc + 3) ls (xA (hn h) :: st) (x_z M h) (x_new h q 0) (cells + 1) (slots + x_N q)) : x_Wt X ρ0 n0 (zL z) p l e R s m args below meth c Q (pc) ls st M h cells slots := by
  intro ρ lsC H locs S
  obtain ⟨c1, c2, c3, c4, c5⟩ := xc_ok q hq
  have ok := S.2.2.1.2.2
  rw [← c5] at w2 hs kk
  refine va_new hx.1 hx.2.1 hx.hts c2 (x_ty q) c3 hx.own w1 w2 w3 hx.K S.2.2.1.1 S.2.2.1.2.1 S.2.2.2.1 (x_Ag hx) c1 (fs := (List.range (x_N q)).map fun i => x_fv ρ (x_ty q i) 0 0) (fun j hj => ?_) (by rw [hx.rm]; exact hc) (by rw [hx.rm]; exact hs) d (fun b H1 P1 D1 S1 => ?_)
  · rw [c5] at hj
    unfold vp_V
    rw [List.getD_eq_getElem?_getD, List.getElem?_map, List.getElem?_range hj]
    exact (x_fv_0 (x_tok_ok q hq j hj)).symm
  · have k1 := kk _ lsC H1 locs (S.fresh (k := q) (q := b) (len := 0) (Or.inl hq) ⟨Int.le_refl _, by decide⟩ (by
        rw [x_cell_obj (show hK (x_new h q 0) (hn h) = q from if_pos rfl) hq]
        congr 2
        apply List.map_congr_left
        intro i _
        show x_fv _ _ (if hn h = hn h then 0 else _) (if hn h = hn h then 0 else _) = _
        rw [if_pos rfl, if_pos rfl]
        cases x_ty q i <;> rfl) P1 D1 S1)
    have e2 : ((xA (hn h) :: st).map (x_c X (x_ru ρ (hn h) b))) = .ref b :: st.map (x_c X ρ) := by
      rw [List.map_cons, x_map_u S.2.1]
      show va_rf (x_rf (x_ru ρ (hn h) b) (hn h)) :: _ = _
      rw [x_rf_s (show hn h ≠ 0 by have := ok.1; omega)]
      unfold x_ru
      rw [if_pos rfl]
      rfl
    rw [e2] at k1
    exact k1
theorem sn_newarray20 (hx : x_Cx X z p l R s m args meth c) {x : Int} (w1 : (Cond.arrayClass (newarray.typeOf .int)).before args s = true) (d : decode (zB z) pc = .ok (.newarray .int, 2)) (hv : 0 ≤ x ∧ x ≤ 50000) (hc : cells + 1 ≤ zC z) (hs : slots + x.toNat ≤ zS z)
    (kk : x_Wt X ρ0 n0 (zL z) p l e R s m args below meth c Q (pc + 2) ls (xA (hn h) :: st) (x_z M h) (x_new h 20 x) (cells + 1) (slots + x.toNat)) : x_Wt X ρ0 n0 (zL z) p l e R s m args below meth c Q (pc) ls (xI x :: st) M h cells slots := by
  intro ρ lsC H locs S
  have ok := S.2.2.1.2.2
  have hx32 : x_i32 x := S.top
  refine va_newa (ty := .int) hx.1 hx.2.1 w1 rfl hx.K S.2.2.1.1 S.2.2.1.2.1 S.2.2.2.1 (x_Ag hx) (n := Int32.ofInt x) (N' := x.toNat) (a0 := (x.toNat, .inl fun _ => Int32.ofInt 0)) (fun cA => rfl) (by rw [show (0 : Int32) = Int32.ofInt 0 from rfl, i32_lt hx32 i32_0]; omega) (i32_cl hx32) (by show x.toNat * _ ≤ _; simp only [componentBytes]; omega) (by rw [hx.rm]; exact hc) (by rw [hx.rm]; exact hs) d (fun b cA H1 K1 P1 D1 S1 => ?_)
  have hA : cA = XA X 0 := by
    have h1 : va_RA s cA .int := (K1.2 5 (cA, .int) rfl).2
    have h2 : va_RA s (XA X 0) .int := (hx.K.2 0 (XA X 0, .int) rfl).2
    exact Option.some.inj (Eq.trans (Eq.symm h1) h2)
  subst hA
  have k1 := kk _ lsC H1 locs (S.pop.fresh (k := 20) (q := b) (len := x) (Or.inr ⟨by decide, by decide⟩) ⟨hv.1, by omega⟩ (by
      rw [x_cell_i (show hK (x_new h 20 x) (hn h) = 20 from if_pos rfl) (Or.inl rfl)]
      show Sum.inl (_, (if hn h = hn h then x else _).toNat, _) = _
      rw [if_pos rfl]
      have e3 : ∀ j : Nat, x_z M h (hn h) j = 0 := fun j => if_pos rfl
      simp only [e3]) P1 D1 S1)
  have e2 : ((xA (hn h) :: st).map (x_c X (x_ru ρ (hn h) b))) = .ref b :: st.map (x_c X ρ) := by
    rw [List.map_cons, x_map_u S.pop.2.1]
    show va_rf (x_rf (x_ru ρ (hn h) b) (hn h)) :: _ = _
    rw [x_rf_s (show hn h ≠ 0 by have := ok.1; omega)]
    unfold x_ru
    rw [if_pos rfl]
    rfl
  rw [e2] at k1
  exact k1
theorem sn_newarray21 (hx : x_Cx X z p l R s m args meth c) {x : Int} (w1 : (Cond.arrayClass (newarray.typeOf .byte)).before args s = true) (d : decode (zB z) pc = .ok (.newarray .byte, 2)) (hv : 0 ≤ x ∧ x ≤ 50000) (hc : cells + 1 ≤ zC z) (hs : slots + x.toNat ≤ zS z)
    (kk : x_Wt X ρ0 n0 (zL z) p l e R s m args below meth c Q (pc + 2) ls (xA (hn h) :: st) (x_z M h) (x_new h 21 x) (cells + 1) (slots + x.toNat)) : x_Wt X ρ0 n0 (zL z) p l e R s m args below meth c Q (pc) ls (xI x :: st) M h cells slots := by
  intro ρ lsC H locs S
  have ok := S.2.2.1.2.2
  have hx32 : x_i32 x := S.top
  refine va_newa (ty := .byte) hx.1 hx.2.1 w1 rfl hx.K S.2.2.1.1 S.2.2.1.2.1 S.2.2.2.1 (x_Ag hx) (n := Int32.ofInt x) (N' := x.toNat) (a0 := (x.toNat, .inl fun _ => Int32.ofInt 0)) (fun cA => rfl) (by rw [show (0 : Int32) = Int32.ofInt 0 from rfl, i32_lt hx32 i32_0]; omega) (i32_cl hx32) (by show x.toNat * _ ≤ _; simp only [componentBytes]; omega) (by rw [hx.rm]; exact hc) (by rw [hx.rm]; exact hs) d (fun b cA H1 K1 P1 D1 S1 => ?_)
  have hA : cA = XA X 1 := by
    have h1 : va_RA s cA .byte := (K1.2 5 (cA, .byte) rfl).2
    have h2 : va_RA s (XA X 1) .byte := (hx.K.2 1 (XA X 1, .byte) rfl).2
    exact Option.some.inj (Eq.trans (Eq.symm h1) h2)
  subst hA
  have k1 := kk _ lsC H1 locs (S.pop.fresh (k := 21) (q := b) (len := x) (Or.inr ⟨by decide, by decide⟩) ⟨hv.1, by omega⟩ (by
      rw [x_cell_i (show hK (x_new h 21 x) (hn h) = 21 from if_pos rfl) (Or.inr rfl)]
      show Sum.inl (_, (if hn h = hn h then x else _).toNat, _) = _
      rw [if_pos rfl]
      have e3 : ∀ j : Nat, x_z M h (hn h) j = 0 := fun j => if_pos rfl
      simp only [e3]) P1 D1 S1)
  have e2 : ((xA (hn h) :: st).map (x_c X (x_ru ρ (hn h) b))) = .ref b :: st.map (x_c X ρ) := by
    rw [List.map_cons, x_map_u S.pop.2.1]
    show va_rf (x_rf (x_ru ρ (hn h) b) (hn h)) :: _ = _
    rw [x_rf_s (show hn h ≠ 0 by have := ok.1; omega)]
    unfold x_ru
    rw [if_pos rfl]
    rfl
  rw [e2] at k1
  exact k1
theorem sn_anewarray23 (hx : x_Cx X z p l R s m args meth c) {x : Int} {idx : Nat} (w1 : (Cond.classLink (zN z).cls idx RX1).before args s = true) (w2 : va_AO RX1 s) (d : decode (zB z) pc = .ok (.anewarray idx, 3)) (hv : 0 ≤ x ∧ x ≤ 50000) (hc : cells + 1 ≤ zC z) (hs : slots + x.toNat ≤ zS z)
    (kk : x_Wt X ρ0 n0 (zL z) p l e R s m args below meth c Q (pc + 3) ls (xA (hn h) :: st) (x_z M h) (x_new h 23 x) (cells + 1) (slots + x.toNat)) : x_Wt X ρ0 n0 (zL z) p l e R s m args below meth c Q (pc) ls (xI x :: st) M h cells slots := by
  intro ρ lsC H locs S
  have ok := S.2.2.1.2.2
  have hx32 : x_i32 x := S.top
  refine va_newq hx.1 hx.2.1 hx.own w1 w2 hx.K S.2.2.1.1 S.2.2.1.2.1 S.2.2.2.1 (x_Ag hx) (n := Int32.ofInt x) (N' := x.toNat) (by rw [show (0 : Int32) = Int32.ofInt 0 from rfl, i32_lt hx32 i32_0]; omega) (i32_cl hx32) (by omega) (by rw [hx.rm]; exact hc) (by rw [hx.rm]; exact hs) d (fun b cA H1 K1 P1 D1 S1 => ?_)
  have hA : cA = XA X 3 := by
    obtain ⟨-, -, -, -, -, h1⟩ := (K1.2 5 (cA, .object RX1) rfl).2
    obtain ⟨-, -, -, -, -, h2⟩ := (hx.K.2 3 (XA X 3, .object RX1) rfl).2
    exact Option.some.inj (Eq.trans (Eq.symm h1) h2)
  subst hA
  have k1 := kk _ lsC H1 locs (S.pop.fresh (k := 23) (q := b) (len := x) (Or.inr ⟨by decide, by decide⟩) ⟨hv.1, by omega⟩ (by
      rw [x_cell_r (show hK (x_new h 23 x) (hn h) = 23 from if_pos rfl) (by omega)]
      show Sum.inl (_, (if hn h = hn h then x else _).toNat, _) = _
      rw [if_pos rfl]
      have e3 : ∀ j : Nat, hP (x_new h 23 x) (hn h) j = 0 := fun j => if_pos rfl
      simp only [e3, x_rf_0]) P1 D1 S1)
  have e2 : ((xA (hn h) :: st).map (x_c X (x_ru ρ (hn h) b))) = .ref b :: st.map (x_c X ρ) := by
    rw [List.map_cons, x_map_u S.pop.2.1]
    show va_rf (x_rf (x_ru ρ (hn h) b) (hn h)) :: _ = _
    rw [x_rf_s (show hn h ≠ 0 by have := ok.1; omega)]
    unfold x_ru
    rw [if_pos rfl]
    rfl
  rw [e2] at k1
  exact k1
theorem sn_anewarray24 (hx : x_Cx X z p l R s m args meth c) {x : Int} {idx : Nat} (w1 : (Cond.classLink (zN z).cls idx RX4).before args s = true) (w2 : va_AO RX4 s) (d : decode (zB z) pc = .ok (.anewarray idx, 3)) (hv : 0 ≤ x ∧ x ≤ 50000) (hc : cells + 1 ≤ zC z) (hs : slots + x.toNat ≤ zS z)
    (kk : x_Wt X ρ0 n0 (zL z) p l e R s m args below meth c Q (pc + 3) ls (xA (hn h) :: st) (x_z M h) (x_new h 24 x) (cells + 1) (slots + x.toNat)) : x_Wt X ρ0 n0 (zL z) p l e R s m args below meth c Q (pc) ls (xI x :: st) M h cells slots := by
  intro ρ lsC H locs S
  have ok := S.2.2.1.2.2
  have hx32 : x_i32 x := S.top
  refine va_newq hx.1 hx.2.1 hx.own w1 w2 hx.K S.2.2.1.1 S.2.2.1.2.1 S.2.2.2.1 (x_Ag hx) (n := Int32.ofInt x) (N' := x.toNat) (by rw [show (0 : Int32) = Int32.ofInt 0 from rfl, i32_lt hx32 i32_0]; omega) (i32_cl hx32) (by omega) (by rw [hx.rm]; exact hc) (by rw [hx.rm]; exact hs) d (fun b cA H1 K1 P1 D1 S1 => ?_)
  have hA : cA = XA X 4 := by
    obtain ⟨-, -, -, -, -, h1⟩ := (K1.2 5 (cA, .object RX4) rfl).2
    obtain ⟨-, -, -, -, -, h2⟩ := (hx.K.2 4 (XA X 4, .object RX4) rfl).2
    exact Option.some.inj (Eq.trans (Eq.symm h1) h2)
  subst hA
  have k1 := kk _ lsC H1 locs (S.pop.fresh (k := 24) (q := b) (len := x) (Or.inr ⟨by decide, by decide⟩) ⟨hv.1, by omega⟩ (by
      rw [x_cell_r (show hK (x_new h 24 x) (hn h) = 24 from if_pos rfl) (by omega)]
      show Sum.inl (_, (if hn h = hn h then x else _).toNat, _) = _
      rw [if_pos rfl]
      have e3 : ∀ j : Nat, hP (x_new h 24 x) (hn h) j = 0 := fun j => if_pos rfl
      simp only [e3, x_rf_0]) P1 D1 S1)
  have e2 : ((xA (hn h) :: st).map (x_c X (x_ru ρ (hn h) b))) = .ref b :: st.map (x_c X ρ) := by
    rw [List.map_cons, x_map_u S.pop.2.1]
    show va_rf (x_rf (x_ru ρ (hn h) b) (hn h)) :: _ = _
    rw [x_rf_s (show hn h ≠ 0 by have := ok.1; omega)]
    unfold x_ru
    rw [if_pos rfl]
    rfl
  rw [e2] at k1
  exact k1
end SM2
