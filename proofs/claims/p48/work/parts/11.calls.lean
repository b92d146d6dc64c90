theorem x_sumc {X : xX} {ρ : Nat → Nat} (st : List xV) : ((st.map (x_c X ρ)).map fun v => v.category).sum = (st.map x_cat).sum := by
  rw [List.map_map]
  congr 1
  apply List.map_congr_left
  intro v _
  exact x_cat_c v
def x_Q (X : xX) (ρ0 : Nat → Nat) (n0 : Nat) (Φ : xO → xM → xH → Prop) (below : List Frame) (args : Array Value) (s : State) (z : xMD) : State → Prop := vx_MQ below (x_Qc X ρ0 n0 Φ) (x_XC X ρ0 n0 Φ) args s (zC z) (zS z) (x_A X)
theorem x_vF {A : Nat → Prop} {s t : State} {H : Heap} {locs : List Loc} (h : va_S A s.heap H locs) (ht : t.heap = H) : va_F A s t := by
  subst ht
  exact ⟨h.1, h.2.1⟩
theorem met_of_vx {l : Launch} {y : MethodName} {ws : List Jvm.Cond} {rm : Room} {Pc : Array Value → State → Prop} {Qc : Array Value → State → Outcome → State → Prop} {XC : String → State → State → Prop} {mc ms : Nat} {free : Addr → Prop} (h : vx_Met l y ws rm Pc Qc XC mc ms free) (hn : ∀ E st t, ¬ XC E st t) : Met l y ws rm Pc Qc mc ms free := by
  intro p e ha hc hk s m args below hf happ hP hK
  obtain ⟨n, o, h1, h2, h3, h4⟩ := h p e ha hc hk s m args below hf happ hP hK
  refine ⟨n, o, h1, h2, h3, ?_⟩
  rcases h4 with h4 | ⟨q, -, E, ce, L, hx, -⟩
  · exact h4
  · exact absurd hx (hn E _ _)
section SC
variable {X : xX} {ρ0 : Nat → Nat} {n0 : Nat} {z : xMD} {p : Program} {l : Launch} {e : Env} {R : Room} {s : State} {m : MethodId} {args : Array Value} {below : List Frame} {meth : Method} {c : Code} {Q : State → Prop} {Φ : xO → xM → xH → Prop}
variable {pc cells slots : Nat} {ls : xL} {st : List xV} {M : xM} {h : xH}
theorem x_Cx.lock (hx : x_Cx X z p l R s m args meth c) : meth.locks = false := hx.2.2.2.2.2.2.1
theorem x_Cx.ret (hx : x_Cx X z p l R s m args meth c) : meth.sig.returnType = zR z := hx.2.2.2.2.2.1
theorem x_Cx.tr (hx : x_Cx X z p l R s m args meth c) : l.stackTraces = false := hx.2.2.2.2.2.2.2.1
theorem x_Cx.exc (hx : x_Cx X z p l R s m args meth c) : ∀ x ∈ c.exceptionTable.toList, False := hx.2.2.2.2.2.2.2.2.1
theorem x_St.post {r : Option xV} {ρ : Nat → Nat} {lsC : Array Slot} {H : Heap} {locs : List Loc} (S : x_St X ρ0 n0 (zL z) s ρ lsC H locs ls r.toList M h) (hΦ : Φ (.inl r) M h) (t : State) (ht : t.heap = H) : x_Qc X ρ0 n0 Φ args s (.returned (r.map (x_c X ρ))) t :=
  ⟨⟨r, ρ, M, h, rfl, hΦ, fun v hv => S.2.1 v (by rw [hv]; exact List.mem_singleton_self v), S.2.2.2.2.1, S.2.2.2.2.2, by rw [ht]; exact S.2.2.1⟩, x_vF S.2.2.2.1 ht⟩
def x_scok (sc : xSc) (X : xX) : Prop := sc.2.1 < 0 ∨ (sc.1 = (XS X).1 ∧ sc.2.1 = (XS X).2.1 ∧ (XS X).2.1 < 2147483648 ∧ ∀ j : Nat, j < (XS X).2.1 → x_i32 (sc.2.2 j) ∧ Int32.ofInt (sc.2.2 j) = (XS X).2.2 j)
theorem sn_sld (hx : x_Cx X z p l R s m args meth c) {sc : xSc} (hsc : x_scok sc X) {i : Int} {a : Nat} (d : decode (zB z) pc = .ok (.iaload, 1)) (ha : a = sc.1) (hi : 0 ≤ i ∧ i < sc.2.1) (kk : x_Wt X ρ0 n0 (zL z) p l e R s m args below meth c Q (pc + 1) ls (xI (sc.2.2 i) :: st) M h cells slots) : x_Wt X ρ0 n0 (zL z) p l e R s m args below meth c Q (pc) ls (xI i :: xE a :: st) M h cells slots := by
  intro ρ lsC H locs S
  obtain ⟨q1, q2, q3, q4⟩ := hsc.resolve_left (by omega)
  have hi32 : x_i32 i := S.top
  obtain ⟨o1, o2⟩ := hx.O.2.2.2.2.1
  have hbl : (XS X).1 < s.heap.size := Nat.lt_of_lt_of_le o2 hx.B
  obtain ⟨v1, v2⟩ := q4 i.toNat (by omega)
  have e1 : ((i.toNat : Nat) : Int) = i := Int.toNat_of_nonneg hi.1
  rw [e1] at v1 v2
  show W p l e R s m args below meth c H locs cells slots Q (F0 m pc lsC (.int (Int32.ofInt i) :: .ref a :: st.map (x_c X ρ)))
  rw [ha, q1]
  refine va_sld hx.1 hx.2.1 o1 hbl (show ¬ x_A X (XS X).1 from Nat.not_le.mpr o2) S.2.2.2.1 (i := Int32.ofInt i) (by have := i32_vin (L := (XS X).2.1) hi32 hi.1 (by omega); simpa using this) d ?_
  rw [i32_cl hi32, ← v2]
  exact kk ρ lsC H locs (S.pop.pop.push (v := xI (sc.2.2 i)) v1)
theorem sn_slen (hx : x_Cx X z p l R s m args meth c) {sc : xSc} (hsc : x_scok sc X) (hpos : 0 ≤ sc.2.1) {a : Nat} (d : decode (zB z) pc = .ok (.arraylength, 1)) (ha : a = sc.1) (kk : x_Wt X ρ0 n0 (zL z) p l e R s m args below meth c Q (pc + 1) ls (xI sc.2.1 :: st) M h cells slots) : x_Wt X ρ0 n0 (zL z) p l e R s m args below meth c Q (pc) ls (xE a :: st) M h cells slots := by
  intro ρ lsC H locs S
  obtain ⟨q1, q2, q3, q4⟩ := hsc.resolve_left (by omega)
  obtain ⟨o1, o2⟩ := hx.O.2.2.2.2.1
  have hbl : (XS X).1 < s.heap.size := Nat.lt_of_lt_of_le o2 hx.B
  show W p l e R s m args below meth c H locs cells slots Q (F0 m pc lsC (.ref a :: st.map (x_c X ρ)))
  rw [ha, q1]
  refine va_slen hx.1 hx.2.1 o1 hbl (show ¬ x_A X (XS X).1 from Nat.not_le.mpr o2) S.2.2.2.1 d ?_
  have e1 : Int32.ofNat (XS X).2.1 = Int32.ofInt sc.2.1 := by rw [q2, Int32.ofInt_eq_ofNat]
  rw [e1]
  exact kk ρ lsC H locs (S.pop.push (v := xI sc.2.1) (by show x_i32 _; unfold x_i32; omega))
theorem sn_iret (hx : x_Cx X z p l R s m args meth c) {v : Int} {ty : FieldType} (hr : zR z = some ty) (hn' : narrow ty (.int (Int32.ofInt v)) = .int (Int32.ofInt v)) (d : decode (zB z) pc = .ok (.ireturn, 1)) (hc : cells ≤ zC z) (hs : slots ≤ zS z) (hΦ : Φ (.inl (some (xI v))) M h) : x_Wt X ρ0 n0 (zL z) p l e R s m args below meth c (x_Q X ρ0 n0 Φ below args s z) (pc) ls [xI v] M h cells slots := by
  intro ρ lsC H locs S
  exact W.widen hc hs (vx_ret (W.zret hx.1 hx.2.1 (hx.ret.trans hr) hn' (fun t ht _ => S.post (r := some (xI v)) hΦ t ht) S.2.2.2.1.2.2 d hx.lock))
theorem sn_aret (hx : x_Cx X z p l R s m args meth c) {r : Nat} {ty : FieldType} (hr : zR z = some ty) (hty : (∃ n, ty = .object n) ∨ ∃ t, ty = .array t) (d : decode (zB z) pc = .ok (.areturn, 1)) (hc : cells ≤ zC z) (hs : slots ≤ zS z) (hΦ : Φ (.inl (some (xA r))) M h) : x_Wt X ρ0 n0 (zL z) p l e R s m args below meth c (x_Q X ρ0 n0 Φ below args s z) (pc) ls [xA r] M h cells slots := by
  intro ρ lsC H locs S
  have k1 : ∀ t : State, t.heap = H → s.WarmedH t.vm → x_Qc X ρ0 n0 Φ args s (.returned (some (va_rf (x_rf ρ r)))) t := fun t ht _ => S.post (r := some (xA r)) hΦ t ht
  show W p l e R s m args below meth c H locs cells slots (x_Q X ρ0 n0 Φ below args s z) (F0 m pc lsC [va_rf (x_rf ρ r)])
  generalize x_rf ρ r = y at k1 ⊢
  cases y with
  | none => exact W.widen hc hs (vx_ret (W.aret hx.1 hx.2.1 (hx.ret.trans hr) hty (v := .null) (Or.inl rfl) k1 S.2.2.2.1.2.2 d hx.lock))
  | some y => exact W.widen hc hs (vx_ret (W.aret hx.1 hx.2.1 (hx.ret.trans hr) hty (v := .ref y) (Or.inr ⟨_, rfl⟩) k1 S.2.2.2.1.2.2 d hx.lock))
theorem sn_vret (hx : x_Cx X z p l R s m args meth c) (hr : zR z = none) (d : decode (zB z) pc = .ok (.return_, 1)) (hc : cells ≤ zC z) (hs : slots ≤ zS z) (hΦ : Φ (.inl none) M h) : x_Wt X ρ0 n0 (zL z) p l e R s m args below meth c (x_Q X ρ0 n0 Φ below args s z) (pc) ls [] M h cells slots := by
  intro ρ lsC H locs S
  exact W.widen hc hs (vx_ret (W.vret hx.1 hx.2.1 (hx.ret.trans hr) (fun t ht _ => S.post (r := none) hΦ t ht) S.2.2.2.1.2.2 d hx.lock))
def x_ex : List String := ["java/lang/RuntimeException", "java/lang/Exception"]
/-- what a throw of the class E asks of the tables: by places -/
def x_thr (own : String) (ik ic : Nat) (E : String) : Prop := Bundle.fit E = true ∧ (∀ w ∈ Cond.classLink own ik E :: Cond.initialized E :: vx_at0 own ic E x_ex, w ∈ x_tbl ∧ (goodWord w = true ∨ x_odd w = true) ∧ vx_ot w = true)
theorem x_any (hx : x_Cx X z p l R s m args meth c) {w : Jvm.Cond} (hw : w ∈ x_tbl) (hg : goodWord w = true ∨ x_odd w = true) (ho : vx_ot w = true) : w.before args s = true := by
  by_cases hgw : goodWord w = true
  · exact hx.hts w (List.mem_filter.mpr ⟨hw, hgw⟩)
  · have h1 := hx.O.2.2.1.1 w hw (hg.resolve_left hgw)
    simp only [vx_ot, Bool.or_eq_true] at ho
    exact va_tabs (ho.resolve_right hgw) rfl h1
theorem sn_throw (hx : x_Cx X z p l R s m args meth c) {ik ic ee : Nat} (ht : x_thr (zN z).cls ik ic (x_en ee)) (d0 : decode (zB z) pc = .ok (.new ik, 3)) (d3 : decode (zB z) (pc + 3) = .ok (.dup, 1)) (d4 : decode (zB z) (pc + 4) = .ok (.invokespecial ic, 3)) (d7 : decode (zB z) (pc + 7) = .ok (.athrow, 1))
    (hf : 6 ≤ zF z % 1000) (ho : 89 ≤ zO z) (hst : (st.map x_cat).sum ≤ 8) (hc : cells + 1 ≤ zC z) (hs : slots + 6 ≤ zS z) (hΦ : Φ (.inr ee) M h) : x_Wt X ρ0 n0 (zL z) p l e R s m args below meth c (x_Q X ρ0 n0 Φ below args s z) (pc) ls st M h cells slots := by
  intro ρ lsC H locs S
  have hall := fun w hw => x_any hx (ht.2 w hw).1 (ht.2 w hw).2.1 (ht.2 w hw).2.2
  refine vx_throw0 hx.1 hx.2.1 hx.tr hx.own ht.1 (by decide) (hall _ List.mem_cons_self) (hall _ (List.mem_cons_of_mem _ List.mem_cons_self)) (fun w hw => hall w (List.mem_cons_of_mem _ (List.mem_cons_of_mem _ hw))) (fun w hw => (ht.2 w hw).2.2) hx.O.1 hx.O.2.1 S.2.2.2.1 (S.1.1.trans hx.2.2.1.symm) d0 d3 d4 d7
    (fun x h => absurd h (fun h => hx.exc x h)) (by rw [hx.rm]; show 2 + 3 < zF z % 1000; omega) (by rw [hx.rm, x_sumc]; show _ + (13 * (2 + 1) + 42) ≤ zO z; omega) (by rw [hx.rm]; exact hc) (by rw [hx.rm]; exact hs) hx.lock (fun t _ h1 h2 => ?_) S.2.2.2.1.2.2 hc hs
  have hS := S.2.2.2.1
  refine ⟨⟨ee, ρ, M, h, rfl, hΦ, S.2.2.2.2.1, S.2.2.2.2.2, ⟨fun k q hq => (S.2.2.1.1 k q hq).kept (h2 _ (S.2.2.1.1 k q hq).lt), S.2.2.1.2⟩⟩, Nat.le_trans hS.1 h1, fun q h3 h4 => by rw [h2 q (Nat.lt_of_lt_of_le h3 hS.1)]; exact hS.2.1 q h3 h4⟩
theorem sn_acp (hx : x_Cx X z p l R s m args meth c) {idx a b : Nat} {dp sp k : Int} (w1 : (Cond.methodLink (zN z).cls idx arraycopyName).before args s = true) (w2 : (Cond.native arraycopyName).before args s = true) (w3 : (Cond.static arraycopyName).before args s = true) (w4 : (Cond.initialized "java/lang/System").before args s = true) (d : decode (zB z) pc = .ok (.invokestatic idx, 3))
    (hf : 1 ≤ zF z % 1000) (ho : 8 + (nativeFrameWords "java/lang/System" "arraycopy" 5 + 11) ≤ zO z) (hst : (st.map x_cat).sum ≤ 8) (ha : hK h a = 20) (hb : hK h b = 20) (hk : 0 ≤ k ∧ 0 ≤ sp ∧ 0 ≤ dp ∧ sp + k ≤ hL h a ∧ dp + k ≤ hL h b)
    (kk : x_Wt X ρ0 n0 (zL z) p l e R s m args below meth c Q (pc + 3) ls st (x_cp M a sp b dp k) h cells slots) : x_Wt X ρ0 n0 (zL z) p l e R s m args below meth c Q (pc) ls (xI k :: xI dp :: xA b :: xI sp :: xA a :: st) M h cells slots := by
  intro ρ lsC H locs S
  have ok := S.2.2.1.2.2
  obtain ⟨a1, a2⟩ := ok.lt ha (by omega)
  obtain ⟨b1, b2⟩ := ok.lt hb (by omega)
  have hea := x_ws_get (X := X) (ρ := ρ) (M := M) a1 a2
  have heb := x_ws_get (X := X) (ρ := ρ) (M := M) b1 b2
  rw [x_cell_i ha (Or.inl rfl)] at hea
  rw [x_cell_i hb (Or.inl rfl)] at heb
  have hk32 : x_i32 k := S.top
  have hdp : x_i32 dp := S.pop.top
  have hsp : x_i32 sp := S.pop.pop.pop.top
  obtain ⟨k1, k2, k3, k4, k5⟩ := hk
  show W p l e R s m args below meth c H locs cells slots Q (F0 m pc lsC (.int (Int32.ofInt k) :: .int (Int32.ofInt dp) :: va_rf (x_rf ρ b) :: .int (Int32.ofInt sp) :: va_rf (x_rf ρ a) :: st.map (x_c X ρ)))
  rw [x_rf_s (show a ≠ 0 by omega), x_rf_s (show b ≠ 0 by omega)]
  have nz : ∀ {x : Int}, x_i32 x → 0 ≤ x → ¬ Int32.ofInt x < 0 := fun {x} hx hx0 => by rw [show (0 : Int32) = Int32.ofInt 0 from rfl, i32_lt hx i32_0]; omega
  refine va_copyi hx.1 hx.2.1 (hx.2.2.1.trans S.1.1.symm) hx.own w1 w2 w3 w4 hx.K S.2.2.1.1 S.2.2.1.2.1 S.2.2.2.1 (a - 1) (b - 1) 0 0 hea heb (ty := .int) rfl rfl rfl (nz hsp k2) (nz hdp k3) (nz hk32 k1) (by rw [i32_cl hsp, i32_cl hk32]; omega) (by rw [i32_cl hdp, i32_cl hk32]; omega) (fun i _ => rfl) (by rw [hx.rm]; exact hf) (by rw [hx.rm, x_sumc]; show _ + _ ≤ zO z; omega) d (fun H1 locs1 P1 D1 S1 => ?_)
  rw [i32_cl hsp, i32_cl hdp, i32_cl hk32] at P1 D1
  have e1 : (x_ws X ρ M h).set (b - 1) (ρ b, .inl (XA X (20 - 20), (hL h b).toNat, .inl (va_cpy (fun j : Nat => Int32.ofInt (M a j)) (fun j : Nat => Int32.ofInt (M b j)) sp.toNat dp.toNat k.toNat))) = x_ws X ρ (x_cp M a sp b dp k) h :=
    x_ws_set b1 b2 rfl (fun q hq => by
      have : ∀ j, x_cp M a sp b dp k q j = M q j := fun j => if_neg (fun z => hq z.1)
      unfold x_cell
      simp only [this]) (by
      rw [x_cell_i hb (Or.inl rfl)]
      congr 4
      funext j
      unfold x_cp va_cpy
      by_cases hj : dp ≤ j ∧ (j : Int) < dp + k
      · rw [if_pos ⟨rfl, hj⟩, if_pos (by omega)]
        congr 2
        omega
      · rw [if_neg (fun z => hj z.2), if_neg (by omega)])
  rw [e1] at P1 D1
  refine kk ρ lsC H1 locs1 (S.pop.pop.pop.pop.pop.mem rfl P1 D1 ?_ S1)
  obtain ⟨q1, q2, q3, q4, q5, q6⟩ := ok
  refine ⟨q1, q2, q3, q4, fun id j hid => ?_, q6⟩
  unfold x_cp
  by_cases hj : id = b ∧ dp ≤ j ∧ j < dp + k
  · rw [if_pos hj, hj.1, hb]
    have h1 := q5 a (sp + (j - dp)) (by omega)
    rw [ha] at h1
    exact rng_i rfl (rng_i' (q := 20) rfl h1)
  · rw [if_neg hj]
    exact q5 id j hid
theorem x_fb {x : Int} (h1 : -128 ≤ x) (h2 : x < 128) : fits .byte (.int (Int32.ofInt x)) = true := by
  obtain ⟨y, hy⟩ : ∃ y : Nat, x + 128 = y := ⟨(x + 128).toNat, by omega⟩
  have hy2 : y < 256 := by omega
  have key : ∀ y : Nat, y < 256 → fits .byte (.int (Int32.ofInt ((y : Int) - 128))) = true := by decide +kernel
  have := key y hy2
  rw [show (y : Int) - 128 = x by omega] at this
  exact this
theorem sn_acpB (hx : x_Cx X z p l R s m args meth c) {idx a b : Nat} {dp sp k : Int} (w1 : (Cond.methodLink (zN z).cls idx arraycopyName).before args s = true) (w2 : (Cond.native arraycopyName).before args s = true) (w3 : (Cond.static arraycopyName).before args s = true) (w4 : (Cond.initialized "java/lang/System").before args s = true) (d : decode (zB z) pc = .ok (.invokestatic idx, 3))
    (hf : 1 ≤ zF z % 1000) (ho : 8 + (nativeFrameWords "java/lang/System" "arraycopy" 5 + 11) ≤ zO z) (hst : (st.map x_cat).sum ≤ 8) (ha : hK h a = 21) (hb : hK h b = 21) (hk : 0 ≤ k ∧ 0 ≤ sp ∧ 0 ≤ dp ∧ sp + k ≤ hL h a ∧ dp + k ≤ hL h b)
    (hfit : ∀ j : Int, sp ≤ j → j < sp + k → -128 ≤ M a j ∧ M a j < 128) (kk : x_Wt X ρ0 n0 (zL z) p l e R s m args below meth c Q (pc + 3) ls st (x_cp M a sp b dp k) h cells slots) : x_Wt X ρ0 n0 (zL z) p l e R s m args below meth c Q (pc) ls (xI k :: xI dp :: xA b :: xI sp :: xA a :: st) M h cells slots := by
  intro ρ lsC H locs S
  have ok := S.2.2.1.2.2
  obtain ⟨a1, a2⟩ := ok.lt ha (by omega)
  obtain ⟨b1, b2⟩ := ok.lt hb (by omega)
  have hea := x_ws_get (X := X) (ρ := ρ) (M := M) a1 a2
  have heb := x_ws_get (X := X) (ρ := ρ) (M := M) b1 b2
  rw [x_cell_i ha (Or.inr rfl)] at hea
  rw [x_cell_i hb (Or.inr rfl)] at heb
  have hk32 : x_i32 k := S.top
  have hdp : x_i32 dp := S.pop.top
  have hsp : x_i32 sp := S.pop.pop.pop.top
  obtain ⟨k1, k2, k3, k4, k5⟩ := hk
  show W p l e R s m args below meth c H locs cells slots Q (F0 m pc lsC (.int (Int32.ofInt k) :: .int (Int32.ofInt dp) :: va_rf (x_rf ρ b) :: .int (Int32.ofInt sp) :: va_rf (x_rf ρ a) :: st.map (x_c X ρ)))
  rw [x_rf_s (show a ≠ 0 by omega), x_rf_s (show b ≠ 0 by omega)]
  have nz : ∀ {x : Int}, x_i32 x → 0 ≤ x → ¬ Int32.ofInt x < 0 := fun {x} hx hx0 => by rw [show (0 : Int32) = Int32.ofInt 0 from rfl, i32_lt hx i32_0]; omega
  refine va_copyi hx.1 hx.2.1 (hx.2.2.1.trans S.1.1.symm) hx.own w1 w2 w3 w4 hx.K S.2.2.1.1 S.2.2.1.2.1 S.2.2.2.1 (a - 1) (b - 1) 1 1 hea heb (ty := .byte) rfl rfl rfl (nz hsp k2) (nz hdp k3) (nz hk32 k1) (by rw [i32_cl hsp, i32_cl hk32]; omega) (by rw [i32_cl hdp, i32_cl hk32]; omega) (fun i hi => by rw [i32_cl hk32] at hi; rw [i32_cl hsp]; have h9 := hfit (((sp.toNat + i : Nat)) : Int) (by omega) (by omega); exact x_fb h9.1 h9.2) (by rw [hx.rm]; exact hf) (by rw [hx.rm, x_sumc]; show _ + _ ≤ zO z; omega) d (fun H1 locs1 P1 D1 S1 => ?_)
  rw [i32_cl hsp, i32_cl hdp, i32_cl hk32] at P1 D1
  have e1 : (x_ws X ρ M h).set (b - 1) (ρ b, .inl (XA X (21 - 20), (hL h b).toNat, .inl (va_cpy (fun j : Nat => Int32.ofInt (M a j)) (fun j : Nat => Int32.ofInt (M b j)) sp.toNat dp.toNat k.toNat))) = x_ws X ρ (x_cp M a sp b dp k) h :=
    x_ws_set b1 b2 rfl (fun q hq => by
      have : ∀ j, x_cp M a sp b dp k q j = M q j := fun j => if_neg (fun z => hq z.1)
      unfold x_cell
      simp only [this]) (by
      rw [x_cell_i hb (Or.inr rfl)]
      congr 4
      funext j
      unfold x_cp va_cpy
      by_cases hj : dp ≤ j ∧ (j : Int) < dp + k
      · rw [if_pos ⟨rfl, hj⟩, if_pos (by omega)]
        congr 2
        omega
      · rw [if_neg (fun z => hj z.2), if_neg (by omega)])
  rw [e1] at P1 D1
  refine kk ρ lsC H1 locs1 (S.pop.pop.pop.pop.pop.mem rfl P1 D1 ?_ S1)
  obtain ⟨q1, q2, q3, q4, q5, q6⟩ := ok
  refine ⟨q1, q2, q3, q4, fun id j hid => ?_, q6⟩
  unfold x_cp
  by_cases hj : id = b ∧ dp ≤ j ∧ j < dp + k
  · rw [if_pos hj, hj.1, hb]
    have h1 := q5 a (sp + (j - dp)) (by omega)
    rw [ha] at h1
    exact rng_i rfl (rng_i' (q := 21) rfl h1)
  · rw [if_neg hj]
    exact q5 id j hid
theorem sn_min (hx : x_Cx X z p l R s m args meth c) {idx : Nat} {a b : Int} (w1 : (Cond.methodLink (zN z).cls idx Lib.Math.min.name).before args s = true) (w2 : (Cond.static Lib.Math.min.name).before args s = true) (w3 : (Cond.initialized "java/lang/Math").before args s = true) (w4 : (Cond.code Lib.Math.min.name Lib.Math.min.code 2 (some .int)).before args s = true) (d : decode (zB z) pc = .ok (.invokestatic idx, 3))
    (hf : 1 ≤ zF z % 1000) (ho : 21 ≤ zO z) (hst : (st.map x_cat).sum ≤ 8) (hc : cells ≤ zC z) (hs : slots ≤ zS z) (kk : x_Wt X ρ0 n0 (zL z) p l e R s m args below meth c Q (pc + 3) ls (xI (min a b) :: st) M h cells slots) : x_Wt X ρ0 n0 (zL z) p l e R s m args below meth c Q (pc) ls (xI b :: xI a :: st) M h cells slots := by
  intro ρ lsC H locs S
  refine va_mmin hx.1 hx.2.1 (hx.2.2.1.trans S.1.1.symm) hx.own w1 w2 w3 w4 (by rw [hx.rm]; exact hf) (by rw [hx.rm, x_sumc]; show _ + _ ≤ zO z; omega) (by rw [hx.rm]; exact hc) (by rw [hx.rm]; exact hs) d ?_
  have hb : x_i32 b := S.top
  have ha : x_i32 a := S.pop.top
  have hv : x_vk h (xI (min a b)) := by show x_i32 _; unfold x_i32 at *; omega
  have e1 : (if Int32.ofInt b < Int32.ofInt a then Int32.ofInt b else Int32.ofInt a) = Int32.ofInt (min a b) := by
    by_cases hab : b < a
    · rw [if_pos ((i32_lt hb ha).mpr hab), show min a b = b by omega]
    · rw [if_neg (fun z => hab ((i32_lt hb ha).mp z)), show min a b = a by omega]
  rw [e1]
  exact kk ρ lsC H locs (S.pop.pop.push hv)
theorem sn_max (hx : x_Cx X z p l R s m args meth c) {idx : Nat} {a b : Int} (w1 : (Cond.methodLink (zN z).cls idx Lib.Math.max.name).before args s = true) (w2 : (Cond.static Lib.Math.max.name).before args s = true) (w3 : (Cond.initialized "java/lang/Math").before args s = true) (w4 : (Cond.code Lib.Math.max.name Lib.Math.max.code 2 (some .int)).before args s = true) (d : decode (zB z) pc = .ok (.invokestatic idx, 3))
    (hf : 1 ≤ zF z % 1000) (ho : 21 ≤ zO z) (hst : (st.map x_cat).sum ≤ 8) (hc : cells ≤ zC z) (hs : slots ≤ zS z) (kk : x_Wt X ρ0 n0 (zL z) p l e R s m args below meth c Q (pc + 3) ls (xI (max a b) :: st) M h cells slots) : x_Wt X ρ0 n0 (zL z) p l e R s m args below meth c Q (pc) ls (xI b :: xI a :: st) M h cells slots := by
  intro ρ lsC H locs S
  refine va_mmax hx.1 hx.2.1 (hx.2.2.1.trans S.1.1.symm) hx.own w1 w2 w3 w4 (by rw [hx.rm]; exact hf) (by rw [hx.rm, x_sumc]; show _ + _ ≤ zO z; omega) (by rw [hx.rm]; exact hc) (by rw [hx.rm]; exact hs) d ?_
  have hb : x_i32 b := S.top
  have ha : x_i32 a := S.pop.top
  have hv : x_vk h (xI (max a b)) := by show x_i32 _; unfold x_i32 at *; omega
  have e1 : (if Int32.ofInt a < Int32.ofInt b then Int32.ofInt b else Int32.ofInt a) = Int32.ofInt (max a b) := by
    by_cases hab : a < b
    · rw [if_pos ((i32_lt ha hb).mpr hab), show max a b = b by omega]
    · rw [if_neg (fun z => hab ((i32_lt ha hb).mp z)), show max a b = a by omega]
  rw [e1]
  exact kk ρ lsC H locs (S.pop.pop.push hv)
theorem sn_obj (hx : x_Cx X z p l R s m args meth c) {idx r : Nat} (w1 : (Cond.methodLink (zN z).cls idx Lib.objectInit).before args s = true) (w2 : (Cond.instanceMethod Lib.objectInit).before args s = true) (w3 : (Cond.code Lib.objectInit ⟨#[0xb1]⟩ 1 none).before args s = true) (hr : hK h r < 25) (d : decode (zB z) pc = .ok (.invokespecial idx, 3))
    (hf : 1 ≤ zF z % 1000) (ho : 20 ≤ zO z) (hst : (st.map x_cat).sum ≤ 8) (kk : x_Wt X ρ0 n0 (zL z) p l e R s m args below meth c Q (pc + 3) ls st M h cells slots) : x_Wt X ρ0 n0 (zL z) p l e R s m args below meth c Q (pc) ls (xA r :: st) M h cells slots := by
  intro ρ lsC H locs S
  obtain ⟨a1, -⟩ := S.2.2.1.2.2.lt rfl hr
  show W p l e R s m args below meth c H locs cells slots Q (F0 m pc lsC (va_rf (x_rf ρ r) :: st.map (x_c X ρ)))
  rw [x_rf_s (show r ≠ 0 by omega)]
  exact W.objInit hx.1 hx.2.1 hx.own w1 w2 w3 rfl (S.1.1.trans hx.2.2.1.symm) rfl d (by rw [hx.rm]; exact hf) (by rw [hx.rm, x_sumc]; show 2 * 0 + _ + 12 ≤ zO z; omega) (kk ρ lsC H locs S.pop)
theorem x_blind {ρ : Nat → Nat} {as : List xV} : FrameBlind (x_Pc X ρ as M h) := fun a U g mk ⟨q1, q2, q3, q4, q5, q6⟩ => ⟨q1, q2, q3, q4, va_K.moved (u := U) (U := U.calling g mk a) (Vm.Alike.refl U.vm) q5, x_O.warm (u := U) (U := U.calling g mk a) (State.WarmedH.refl U) q6⟩
/-- the world of a point as a callee asks it -/
theorem x_St.pre (hx : x_Cx X z p l R s m args meth c) {ρ : Nat → Nat} {lsC : Array Slot} {H : Heap} {locs : List Loc} {st' as : List xV} (S : x_St X ρ0 n0 (zL z) s ρ lsC H locs ls st' M h) (has : ∀ a ∈ as, x_vk h a) (U : State) (hU : U.heap = H) (hW : s.WarmedH U.vm) : x_Pc X ρ as M h (as.map (x_c X ρ)).toArray U :=
  ⟨rfl, has, by rw [hU]; exact Nat.le_trans hx.B S.2.2.2.1.1, by rw [hU]; exact S.2.2.1, va_K.moved hW.alike hx.K, by rw [hU]; exact (x_O.warm hW (hx.O.kept S.2.2.2.1.2.1))⟩
/-- behind a call: the same locals and stack over what came back -/
theorem x_St.back {ρ ρ' : Nat → Nat} {lsC : Array Slot} {H H1 : Heap} {locs locs1 : List Loc} {M' : xM} {h' : xH} (S : x_St X ρ0 n0 (zL z) s ρ lsC H locs ls st M h) (hext : x_ext ρ ρ' (hn h)) (hle : hn h ≤ hn h') (P : x_P X ρ' M' h' H1) (hS : va_S (x_A X) s.heap H1 locs1) : x_St X ρ0 n0 (zL z) s ρ' lsC H1 locs1 ls st M' h' ∧ st.map (x_c X ρ') = st.map (x_c X ρ) := by
  have key : ∀ v, x_vk h v → x_c X ρ' v = x_c X ρ v := by
    intro v hv
    rcases v with x | x | r | a | i
    · rfl
    · rfl
    · show va_rf (x_rf ρ' r) = va_rf (x_rf ρ r)
      unfold x_rf
      rw [hext r hv]
    · rfl
    · rfl
  refine ⟨⟨⟨S.1.1, S.1.2.1, fun i v hi => ⟨by rw [key v (S.loc hi).2]; exact (S.loc hi).1, (S.loc hi).2.grow hle⟩⟩, fun v hv => (S.2.1 v hv).grow hle, P, hS, fun id hid => ?_, Nat.le_trans S.2.2.2.2.2 hle⟩, List.map_congr_left fun v hv => key v (S.2.1 v hv)⟩
  rw [hext id (Nat.lt_of_lt_of_le hid S.2.2.2.2.2)]
  exact S.2.2.2.2.1 id hid
/-- how a call that returns or throws goes on -/
theorem x_after (hx : x_Cx X z p l R s m args meth c) {ρ : Nat → Nat} {lsC : Array Slot} {H : Heap} {locs : List Loc} {st0 : List Value} {as : Array Value} {mc ms : Nat} {Ψ : xO → xM → xH → Prop} (S : x_St X ρ0 n0 (zL z) s ρ lsC H locs ls st M h)
    (hr : vx_Run p l e R s m args below meth c H locs cells slots mc ms (F0 m pc lsC st0) (st.map (x_c X ρ)) (x_Qc X ρ (hn h) Ψ as) (x_XC X ρ (hn h) Ψ) (x_A X)) (hc : cells + mc ≤ zC z) (hs : slots + ms ≤ zS z)
    (k0 : ∀ M' h', Ψ (.inl none) M' h' → x_Wt X ρ0 n0 (zL z) p l e R s m args below meth c (x_Q X ρ0 n0 Φ below args s z) (pc + 3) ls st M' h' (cells + mc) (slots + ms)) (k1 : ∀ v M' h', Ψ (.inl (some v)) M' h' → x_Wt X ρ0 n0 (zL z) p l e R s m args below meth c (x_Q X ρ0 n0 Φ below args s z) (pc + 3) ls (v :: st) M' h' (cells + mc) (slots + ms)) (k2 : ∀ e M' h', Ψ (.inr e) M' h' → Φ (.inr e) M' h') :
    W p l e R s m args below meth c H locs cells slots (x_Q X ρ0 n0 Φ below args s z) (F0 m pc lsC st0) := by
  intro T hT X9
  rcases hr T hT X9 with ⟨v, st₀, t, T', L, h0, X', hL, e1, e2, ⟨⟨r', ρ', M', h', ho, hΨ, hvk, hext, hle, P'⟩, hF⟩, go⟩ | ⟨q, st₀, t, T', L, E, ce, h0, X', hL, e1, e2, ⟨⟨ee, ρ', M', h', hE, hΨ, hext, hle, P'⟩, hF⟩, hce, hcv, hcl, go⟩
  · obtain ⟨-, -, hS1⟩ := vx_keep h0 e1 S.2.2.2.1 (fun q _ h => h) (fun q h => h) hL hF
    rw [← e1] at P'
    obtain ⟨S1, e3⟩ := S.back hext hle P' hS1
    cases ho
    cases r' with
    | none =>
      obtain ⟨t2, a1, b1⟩ := k0 M' h' hΨ ρ' lsC T'.heap (locs ++ L) S1 T' rfl X'
      rw [e3] at a1
      exact ⟨t2, go t2 a1, b1⟩
    | some v =>
      obtain ⟨t2, a1, b1⟩ := k1 v M' h' hΨ ρ' lsC T'.heap (locs ++ L) (S1.push (hvk v rfl)) T' rfl X'
      rw [List.map_cons, e3] at a1
      exact ⟨t2, go t2 a1, b1⟩
  · obtain ⟨-, -, hS1⟩ := vx_keep h0 e1 S.2.2.2.1 (fun q _ h => h) (fun q h => h) hL hF
    rw [← e1] at P' hce
    obtain ⟨t2, a1, b1⟩ := vx_out (l := l) (p := p) (e := e) (R := R) (m := m) (args := args) (below := below) (meth := meth) (c := c) (Qc := x_Qc X ρ0 n0 Φ) (XC := x_XC X ρ0 n0 Φ) (ls := lsC) (pc := pc) (rest := st.map (x_c X ρ)) (H := T'.heap) (locs := locs ++ L) (free := x_A X) (mc := zC z) (ms := zS z) (cells := cells + mc) (slots := slots + ms)
      (fun x h => absurd h (fun h => hx.exc x h)) hx.lock hce hcv hcl (fun t9 ht9 _ => ⟨⟨ee, ρ', M', h', hE, k2 ee M' h' hΨ, fun id hid => by rw [hext id (Nat.lt_of_lt_of_le hid S.2.2.2.2.2)]; exact S.2.2.2.2.1 id hid, Nat.le_trans S.2.2.2.2.2 hle, by rw [ht9]; exact P'⟩, x_vF hS1 ht9⟩) hS1.2.2 hc hs T' rfl X'
    exact ⟨t2, go.trans a1, b1⟩
/-- what a call asks of the tables and the room -/
def x_zok (z zz : xMD) (n : Nat) : Prop := (x_cw zz ∈ x_tb) ∧ (Cond.initialized (zN zz).cls ∈ x_tb) ∧ ((zN zz).cls ≠ "java/lang/invoke/MethodHandle" ∧ (zN zz).cls ≠ "java/lang/invoke/VarHandle") ∧ (parseMethodDescriptor (zN zz).desc).map (fun d => d.parameters.length) = some n ∧ zF zz % 1000 + 1 ≤ zF z % 1000 ∧ 8 + (zL zz + 11) + zO zz ≤ zO z
theorem x_goodtb : ∀ w ∈ x_tb, (w.onTables && w.keeps) = true ∨ ∃ ty, w = .arrayClass ty := fun w hw => good_of_word (List.mem_filter.mp hw).2
theorem x_callB (hx : x_Cx X z p l R s m args meth c) {zz : xMD} {idx n : Nat} (hz : x_zok z zz n) (hf : zF zz < 1000) (hl : (Cond.methodLink (zN z).cls idx (zN zz)).before args s = true) : CallB R s args (zN z).cls idx (zN zz) (zB zz) (zL zz) (zR zz) (x_w1 zz) (x_rm zz) (zC zz) (zS zz) n := by
  obtain ⟨z1, z2, z3, z4, z5, z6⟩ := hz
  refine ⟨rfl, rfl, by rw [hx.rm]; exact z5, by rw [hx.rm]; exact z6, fun w hw a' U hW => ?_, (by rw [← x_cw_n hf]; exact List.mem_cons_self), (by rw [← x_cw_n hf]; exact hx.hts _ z1), hx.hts _ z2, z3, fun sig hsig => ?_, hl⟩
  · have hm : w ∈ x_tb := by
      rcases List.mem_cons.mp hw with rfl | h
      · exact z1
      · exact h
    exact word_at hW (x_goodtb w hm) (hx.hts w hm)
  · rw [hsig] at z4
    exact (Option.some.inj z4).symm
theorem x_fix (hx : x_Cx X z p l R s m args meth c) : CallFix p m c (zB z) (zL z) s args x_tb (zN z).cls := ⟨hx.1, hx.2.1, hx.2.2.1, hx.own, hx.hts⟩
theorem x_rmap {ρ : Nat → Nat} (as : List xV) : (as.reverse).map (x_c X ρ) = (as.map (x_c X ρ)).reverse := List.map_reverse
theorem sn_callS (hx : x_Cx X z p l R s m args meth c) {zz : xMD} {idx : Nat} {as : List xV} {Ψ : xO → xM → xH → Prop} (w1 : (Cond.methodLink (zN z).cls idx (zN zz)).before args s = true) (w2 : (Cond.static (zN zz)).before args s = true) (d : decode (zB z) pc = .ok (.invokestatic idx, 3)) (hM : x_Cal zz as M h Ψ) (hz : x_zok z zz as.length) (hst : (st.map x_cat).sum ≤ 8) (hc : cells + zC zz ≤ zC z) (hs : slots + zS zz ≤ zS z)
    (k0 : ∀ M' h', Ψ (.inl none) M' h' → x_Wt X ρ0 n0 (zL z) p l e R s m args below meth c (x_Q X ρ0 n0 Φ below args s z) (pc + 3) ls st M' h' (cells + zC zz) (slots + zS zz)) (k1 : ∀ v M' h', Ψ (.inl (some v)) M' h' → x_Wt X ρ0 n0 (zL z) p l e R s m args below meth c (x_Q X ρ0 n0 Φ below args s z) (pc + 3) ls (v :: st) M' h' (cells + zC zz) (slots + zS zz)) (k2 : ∀ e M' h', Ψ (.inr e) M' h' → Φ (.inr e) M' h') : x_Wt X ρ0 n0 (zL z) p l e R s m args below meth c (x_Q X ρ0 n0 Φ below args s z) (pc) ls (as.reverse ++ st) M h cells slots := by
  intro ρ lsC H locs S
  have hS1 : x_St X ρ0 n0 (zL z) s ρ lsC H locs ls st M h := ⟨S.1, fun v hv => S.2.1 v (List.mem_append_right _ hv), S.2.2⟩
  have has : ∀ a ∈ as, x_vk h a := fun a ha => S.2.1 a (List.mem_append_left _ (List.mem_reverse.mpr ha))
  have e0 : (as.reverse ++ st).map (x_c X ρ) = (as.map (x_c X ρ)).reverse ++ st.map (x_c X ρ) := by rw [List.map_append, x_rmap]
  rw [e0]
  by_cases hf : zF zz < 1000
  · exact x_after hx hS1 (vx_runS (g := F0 m pc lsC ((as.map (x_c X ρ)).reverse ++ st.map (x_c X ρ))) (As := as.map (x_c X ρ)) (x_fix hx) (hM l hx.tr X ρ) ⟨x_callB hx hz hf w1, w2⟩ ⟨x_blind, fun U hU hW => hS1.pre hx has U hU hW⟩ rfl (by rw [List.length_map]) S.1.1 rfl (lv_room (by rw [x_sumc]; exact hst)) d ⟨by rw [hx.rm]; exact hc, by rw [hx.rm]; exact hs⟩) hc hs k0 k1 k2
  · exact x_after hx hS1 (vx_runSX (hh := x_hh zz) (bytes := zB zz) (maxL := zL zz) (ret := zR zz) (g := F0 m pc lsC ((as.map (x_c X ρ)).reverse ++ st.map (x_c X ρ))) (As := as.map (x_c X ρ)) (x_fix hx) (hM l hx.tr X ρ) ⟨⟨rfl, rfl, by rw [hx.rm]; exact hz.2.2.2.2.1, by rw [hx.rm]; exact hz.2.2.2.2.2, fun w hw a' U hW => (by have hm : w ∈ x_tb := (List.mem_cons.mp hw).elim (fun e => by rw [e]; exact hz.1) id; exact word_at hW (x_goodtb w hm) (hx.hts w hm)), (by rw [← x_cw_h hf]; exact List.mem_cons_self)⟩, (by rw [← x_cw_h hf]; exact hx.hts _ hz.1), hx.hts _ hz.2.1, hz.2.2.1, fun sig hsig => (by have := hz.2.2.2.1; rw [hsig] at this; exact (Option.some.inj this).symm), w1, w2⟩ ⟨x_blind, fun U hU hW => hS1.pre hx has U hU hW⟩ rfl (by rw [List.length_map]) S.1.1 rfl (lv_room (by rw [x_sumc]; exact hst)) d ⟨by rw [hx.rm]; exact hc, by rw [hx.rm]; exact hs⟩) hc hs k0 k1 k2
theorem x_recv (hx : x_Cx X z p l R s m args meth c) {ρ : Nat → Nat} {lsC : Array Slot} {H : Heap} {locs : List Loc} {st' : List xV} {r q : Nat} (S : x_St X ρ0 n0 (zL z) s ρ lsC H locs ls st' M h) (hq : q < 10) (hr : hK h r = q) : r ≠ 0 ∧ ∃ cellB : Cell, H[ρ r]? = some cellB ∧ cellB.vm.isStatics = false ∧ s.vm.findClass (x_cl q).1 = some cellB.cls := by
  obtain ⟨a1, a2⟩ := S.2.2.1.2.2.lt hr (by omega)
  have he := x_ws_get (X := X) (ρ := ρ) (M := M) a1 a2
  rw [x_cell_obj hr hq] at he
  exact ⟨by omega, va_recv hx.K S.2.2.1.1 (xc_ok q hq).1 he⟩
theorem sn_callV (hx : x_Cx X z p l R s m args meth c) {zz : xMD} {idx q r : Nat} {as : List xV} {Ψ : xO → xM → xH → Prop} (w1 : (Cond.methodLink (zN z).cls idx (zN zz)).before args s = true) (w2 : (Cond.instanceMethod (zN zz)).before args s = true) (w3 : (Cond.selects (x_cl q).1 (zN zz) (zN zz)).before args s = true) (d : decode (zB z) pc = .ok (.invokevirtual idx, 3)) (hq : q < 10) (hr : hK h r = q) (hM : x_Cal zz (xA r :: as) M h Ψ) (hz : x_zok z zz as.length ∧ zF zz < 1000) (hst : (st.map x_cat).sum ≤ 8) (hc : cells + zC zz ≤ zC z) (hs : slots + zS zz ≤ zS z)
    (k0 : ∀ M' h', Ψ (.inl none) M' h' → x_Wt X ρ0 n0 (zL z) p l e R s m args below meth c (x_Q X ρ0 n0 Φ below args s z) (pc + 3) ls st M' h' (cells + zC zz) (slots + zS zz)) (k1 : ∀ v M' h', Ψ (.inl (some v)) M' h' → x_Wt X ρ0 n0 (zL z) p l e R s m args below meth c (x_Q X ρ0 n0 Φ below args s z) (pc + 3) ls (v :: st) M' h' (cells + zC zz) (slots + zS zz)) (k2 : ∀ e M' h', Ψ (.inr e) M' h' → Φ (.inr e) M' h') : x_Wt X ρ0 n0 (zL z) p l e R s m args below meth c (x_Q X ρ0 n0 Φ below args s z) (pc) ls (as.reverse ++ xA r :: st) M h cells slots := by
  intro ρ lsC H locs S
  obtain ⟨hr0, hcell⟩ := x_recv hx S hq hr
  have hS1 : x_St X ρ0 n0 (zL z) s ρ lsC H locs ls st M h := ⟨S.1, fun v hv => S.2.1 v (List.mem_append_right _ (List.mem_cons_of_mem _ hv)), S.2.2⟩
  have has : ∀ a ∈ as, x_vk h a := fun a ha => S.2.1 a (List.mem_append_left _ (List.mem_reverse.mpr ha))
  have hra : ∀ a ∈ xA r :: as, x_vk h a := fun a ha => by
    rcases List.mem_cons.mp ha with rfl | ha
    · exact S.2.1 _ (List.mem_append_right _ List.mem_cons_self)
    · exact has a ha
  have e1 : x_c X ρ (xA r) = .ref (ρ r) := by
    show va_rf (x_rf ρ r) = _
    rw [x_rf_s hr0]
    rfl
  have e0 : (as.reverse ++ xA r :: st).map (x_c X ρ) = (as.map (x_c X ρ)).reverse ++ .ref (ρ r) :: st.map (x_c X ρ) := by rw [List.map_append, x_rmap, List.map_cons, e1]
  have hPc : ∀ U : State, U.heap = H → s.WarmedH U.vm → x_Pc X ρ (xA r :: as) M h (Value.ref (ρ r) :: as.map (x_c X ρ)).toArray U := fun U hU hW => by
    have := hS1.pre hx hra U hU hW
    rw [List.map_cons, e1] at this
    exact this
  rw [e0]
  exact x_after hx hS1 (vx_runV (g := F0 m pc lsC ((as.map (x_c X ρ)).reverse ++ .ref (ρ r) :: st.map (x_c X ρ))) (As := as.map (x_c X ρ)) (x_fix hx) (hM l hx.tr X ρ) ⟨x_callB hx hz.1 hz.2 w1, w2, w3⟩ ⟨x_blind, hcell, hPc⟩ rfl (by rw [List.length_map]) S.1.1 rfl (lv_room (by rw [x_sumc]; exact hst)) d ⟨by rw [hx.rm]; exact hc, by rw [hx.rm]; exact hs⟩) hc hs k0 k1 k2
theorem sn_callVS (hx : x_Cx X z p l R s m args meth c) {zz : xMD} {idx r : Nat} {as : List xV} {Ψ : xO → xM → xH → Prop} (w1 : (Cond.methodLink (zN z).cls idx (zN zz)).before args s = true) (w2 : (Cond.instanceMethod (zN zz)).before args s = true) (w3 : (Cond.selects "java/lang/String" (zN zz) (zN zz)).before args s = true) (d : decode (zB z) pc = .ok (.invokevirtual idx, 3)) (hM : x_Cal zz (xS r :: as) M h Ψ) (hz : x_zok z zz as.length ∧ zF zz < 1000) (hst : (st.map x_cat).sum ≤ 8) (hc : cells + zC zz ≤ zC z) (hs : slots + zS zz ≤ zS z)
    (k0 : ∀ M' h', Ψ (.inl none) M' h' → x_Wt X ρ0 n0 (zL z) p l e R s m args below meth c (x_Q X ρ0 n0 Φ below args s z) (pc + 3) ls st M' h' (cells + zC zz) (slots + zS zz)) (k1 : ∀ v M' h', Ψ (.inl (some v)) M' h' → x_Wt X ρ0 n0 (zL z) p l e R s m args below meth c (x_Q X ρ0 n0 Φ below args s z) (pc + 3) ls (v :: st) M' h' (cells + zC zz) (slots + zS zz)) (k2 : ∀ e M' h', Ψ (.inr e) M' h' → Φ (.inr e) M' h') : x_Wt X ρ0 n0 (zL z) p l e R s m args below meth c (x_Q X ρ0 n0 Φ below args s z) (pc) ls (as.reverse ++ xS r :: st) M h cells slots := by
  intro ρ lsC H locs S
  have hr12 : r < 22 := S.2.1 (xS r) (List.mem_append_right _ List.mem_cons_self)
  have hcell := vk_recv (hx.O.2.2.2.1.1 _ hr12) Nat.zero_lt_one S.2.2.2.1
  have hS1 : x_St X ρ0 n0 (zL z) s ρ lsC H locs ls st M h := ⟨S.1, fun v hv => S.2.1 v (List.mem_append_right _ (List.mem_cons_of_mem _ hv)), S.2.2⟩
  have has : ∀ a ∈ as, x_vk h a := fun a ha => S.2.1 a (List.mem_append_left _ (List.mem_reverse.mpr ha))
  have hra : ∀ a ∈ xS r :: as, x_vk h a := fun a ha => by
    rcases List.mem_cons.mp ha with rfl | ha
    · exact S.2.1 _ (List.mem_append_right _ List.mem_cons_self)
    · exact has a ha
  have e0 : (as.reverse ++ xS r :: st).map (x_c X ρ) = (as.map (x_c X ρ)).reverse ++ .ref (XK X r) :: st.map (x_c X ρ) := by rw [List.map_append, x_rmap, List.map_cons]; rfl
  have hPc : ∀ U : State, U.heap = H → s.WarmedH U.vm → x_Pc X ρ (xS r :: as) M h (Value.ref (XK X r) :: as.map (x_c X ρ)).toArray U := fun U hU hW => hS1.pre hx hra U hU hW
  rw [e0]
  exact x_after hx hS1 (vx_runV (g := F0 m pc lsC ((as.map (x_c X ρ)).reverse ++ .ref (XK X r) :: st.map (x_c X ρ))) (As := as.map (x_c X ρ)) (x_fix hx) (hM l hx.tr X ρ) ⟨x_callB hx hz.1 hz.2 w1, w2, w3⟩ ⟨x_blind, hcell, hPc⟩ rfl (by rw [List.length_map]) S.1.1 rfl (lv_room (by rw [x_sumc]; exact hst)) d ⟨by rw [hx.rm]; exact hc, by rw [hx.rm]; exact hs⟩) hc hs k0 k1 k2
theorem vx_of_va {H : Heap} {locs : List Loc} {mc ms : Nat} {g : JFrame} {rest : List Value} {Qa : State → Outcome → State → Prop} {XC : String → State → State → Prop} {free : Addr → Prop} (h : va_Run p l e R s m args below meth c H locs cells slots mc ms g rest Qa free) : vx_Run p l e R s m args below meth c H locs cells slots mc ms g rest Qa XC free := fun T hT X9 => Or.inl (h T hT X9)
theorem sn_lret (hx : x_Cx X z p l R s m args meth c) {v : Int} (hr : zR z = some .long) (d : decode (zB z) pc = .ok (.lreturn, 1)) (hc : cells ≤ zC z) (hs : slots ≤ zS z) (hΦ : Φ (.inl (some (xJ v))) M h) : x_Wt X ρ0 n0 (zL z) p l e R s m args below meth c (x_Q X ρ0 n0 Φ below args s z) (pc) ls [xJ v] M h cells slots := by
  intro ρ lsC H locs S
  exact W.widen hc hs (vx_ret (W.lret hx.1 hx.2.1 (hx.ret.trans hr) (fun t ht _ => S.post (r := some (xJ v)) hΦ t ht) S.2.2.2.1.2.2 d hx.lock))
theorem sn_callVX (hx : x_Cx X z p l R s m args meth c) {zz zx : xMD} {idx q r : Nat} {as : List xV} {Ψ : xO → xM → xH → Prop} (w1 : (Cond.methodLink (zN z).cls idx (zN zx)).before args s = true) (w2 : (Cond.instanceMethod (zN zz)).before args s = true) (w3 : (Cond.selects (x_cl q).1 (zN zx) (zN zz)).before args s = true) (w4 : (Cond.sameMethod (zN zx).cls (zN zx).cls (zN zx).name (zN zx).desc).before args s = true) (w5 : (Cond.instanceMethod (zN zx)).before args s = true) (w6 : (Cond.code (zN zx) (zB zx) (zL zx) (zR zx)).before args s = true) (w7 : (zN zx).cls ≠ "java/lang/invoke/MethodHandle" ∧ (zN zx).cls ≠ "java/lang/invoke/VarHandle") (w8 : (parseMethodDescriptor (zN zx).desc).map (fun d => d.parameters.length) = some as.length) (d : decode (zB z) pc = .ok (.invokevirtual idx, 3)) (hq : q < 10) (hr : hK h r = q) (hno : ∀ e M' h', ¬ Ψ (.inr e) M' h') (hM : x_Cal zz (xA r :: as) M h Ψ) (hz : x_zok z zz as.length ∧ zF zz < 1000) (hst : (st.map x_cat).sum ≤ 8) (hc : cells + zC zz ≤ zC z) (hs : slots + zS zz ≤ zS z)
    (k0 : ∀ M' h', Ψ (.inl none) M' h' → x_Wt X ρ0 n0 (zL z) p l e R s m args below meth c (x_Q X ρ0 n0 Φ below args s z) (pc + 3) ls st M' h' (cells + zC zz) (slots + zS zz)) (k1 : ∀ v M' h', Ψ (.inl (some v)) M' h' → x_Wt X ρ0 n0 (zL z) p l e R s m args below meth c (x_Q X ρ0 n0 Φ below args s z) (pc + 3) ls (v :: st) M' h' (cells + zC zz) (slots + zS zz)) : x_Wt X ρ0 n0 (zL z) p l e R s m args below meth c (x_Q X ρ0 n0 Φ below args s z) (pc) ls (as.reverse ++ xA r :: st) M h cells slots := by
  intro ρ lsC H locs S
  obtain ⟨hr0, hcell⟩ := x_recv hx S hq hr
  have hS1 : x_St X ρ0 n0 (zL z) s ρ lsC H locs ls st M h := ⟨S.1, fun v hv => S.2.1 v (List.mem_append_right _ (List.mem_cons_of_mem _ hv)), S.2.2⟩
  have has : ∀ a ∈ as, x_vk h a := fun a ha => S.2.1 a (List.mem_append_left _ (List.mem_reverse.mpr ha))
  have hra : ∀ a ∈ xA r :: as, x_vk h a := fun a ha => by
    rcases List.mem_cons.mp ha with rfl | ha
    · exact S.2.1 _ (List.mem_append_right _ List.mem_cons_self)
    · exact has a ha
  have e1 : x_c X ρ (xA r) = .ref (ρ r) := by
    show va_rf (x_rf ρ r) = _
    rw [x_rf_s hr0]
    rfl
  have e0 : (as.reverse ++ xA r :: st).map (x_c X ρ) = (as.map (x_c X ρ)).reverse ++ .ref (ρ r) :: st.map (x_c X ρ) := by rw [List.map_append, x_rmap, List.map_cons, e1]
  have hPc : ∀ U : State, U.heap = H → s.WarmedH U.vm → x_Pc X ρ (xA r :: as) M h (Value.ref (ρ r) :: as.map (x_c X ρ)).toArray U := fun U hU hW => by
    have := hS1.pre hx hra U hU hW
    rw [List.map_cons, e1] at this
    exact this
  have hmet := met_of_vx (hM l hx.tr X ρ) (fun E st t hX => by
    obtain ⟨⟨ee, -, M', h', -, hΨ, -⟩, -⟩ := hX
    exact hno ee M' h' hΨ)
  rw [e0]
  exact x_after hx hS1 (vx_of_va (va_runU (x := zN zx) (bytes := zB zz) (maxL := zL zz) (ret := zR zz) (g := F0 m pc lsC ((as.map (x_c X ρ)).reverse ++ .ref (ρ r) :: st.map (x_c X ρ))) (As := as.map (x_c X ρ)) (x_fix hx) hmet ⟨⟨rfl, rfl, by rw [hx.rm]; exact hz.1.2.2.2.2.1, by rw [hx.rm]; exact hz.1.2.2.2.2.2, fun w hw a' U hW => (by have hm : w ∈ x_tb := (List.mem_cons.mp hw).elim (fun e => by rw [e]; exact hz.1.1) id; exact word_at hW (x_goodtb w hm) (hx.hts w hm)), (by have h9 : x_cw zz ∈ x_w1 zz := List.mem_cons_self; rw [x_cw_n hz.2] at h9; exact h9)⟩, (by have h9 := hx.hts _ hz.1.1; rw [x_cw_n hz.2] at h9; exact h9), hx.hts _ hz.1.2.1, w7, fun sig hsig => (by rw [hsig] at w8; exact (Option.some.inj w8).symm), w1, w4, va_Decl.of w5 w6, w3, w2⟩ ⟨x_blind, hcell, hPc⟩ rfl (by rw [List.length_map]) S.1.1 rfl (lv_room (by rw [x_sumc]; exact hst)) d ⟨by rw [hx.rm]; exact hc, by rw [hx.rm]; exact hs⟩)) hc hs k0 k1 (fun e M' h' hΨ => absurd hΨ (hno e M' h'))
theorem sn_callSU (hx : x_Cx X z p l R s m args meth c) {zz : xMD} {idx q r : Nat} {as : List xV} {Ψ : xO → xM → xH → Prop} (w1 : (Cond.methodLink (zN z).cls idx (zN zz)).before args s = true) (w2 : (Cond.instanceMethod (zN zz)).before args s = true) (w4 : (Cond.sameMethod (zN zz).cls (zN zz).cls (zN zz).name (zN zz).desc).before args s = true) (w5 : (Cond.superclass (zN z).cls (zN zz).cls).before args s = true) (w6 : (zN zz).name ≠ "<init>") (d : decode (zB z) pc = .ok (.invokespecial idx, 3)) (hq : q < 10) (hr : hK h r = q) (hno : ∀ e M' h', ¬ Ψ (.inr e) M' h') (hM : x_Cal zz (xA r :: as) M h Ψ) (hz : x_zok z zz as.length ∧ zF zz < 1000) (hst : (st.map x_cat).sum ≤ 8) (hc : cells + zC zz ≤ zC z) (hs : slots + zS zz ≤ zS z)
    (k0 : ∀ M' h', Ψ (.inl none) M' h' → x_Wt X ρ0 n0 (zL z) p l e R s m args below meth c (x_Q X ρ0 n0 Φ below args s z) (pc + 3) ls st M' h' (cells + zC zz) (slots + zS zz)) (k1 : ∀ v M' h', Ψ (.inl (some v)) M' h' → x_Wt X ρ0 n0 (zL z) p l e R s m args below meth c (x_Q X ρ0 n0 Φ below args s z) (pc + 3) ls (v :: st) M' h' (cells + zC zz) (slots + zS zz)) : x_Wt X ρ0 n0 (zL z) p l e R s m args below meth c (x_Q X ρ0 n0 Φ below args s z) (pc) ls (as.reverse ++ xA r :: st) M h cells slots := by
  intro ρ lsC H locs S
  obtain ⟨hr0, hcell⟩ := x_recv hx S hq hr
  have hS1 : x_St X ρ0 n0 (zL z) s ρ lsC H locs ls st M h := ⟨S.1, fun v hv => S.2.1 v (List.mem_append_right _ (List.mem_cons_of_mem _ hv)), S.2.2⟩
  have has : ∀ a ∈ as, x_vk h a := fun a ha => S.2.1 a (List.mem_append_left _ (List.mem_reverse.mpr ha))
  have hra : ∀ a ∈ xA r :: as, x_vk h a := fun a ha => by
    rcases List.mem_cons.mp ha with rfl | ha
    · exact S.2.1 _ (List.mem_append_right _ List.mem_cons_self)
    · exact has a ha
  have e1 : x_c X ρ (xA r) = .ref (ρ r) := by
    show va_rf (x_rf ρ r) = _
    rw [x_rf_s hr0]
    rfl
  have e0 : (as.reverse ++ xA r :: st).map (x_c X ρ) = (as.map (x_c X ρ)).reverse ++ .ref (ρ r) :: st.map (x_c X ρ) := by rw [List.map_append, x_rmap, List.map_cons, e1]
  have hPc : ∀ U : State, U.heap = H → s.WarmedH U.vm → x_Pc X ρ (xA r :: as) M h (Value.ref (ρ r) :: as.map (x_c X ρ)).toArray U := fun U hU hW => by
    have := hS1.pre hx hra U hU hW
    rw [List.map_cons, e1] at this
    exact this
  have hmet := met_of_vx (hM l hx.tr X ρ) (fun E st t hX => by
    obtain ⟨⟨ee, -, M', h', -, hΨ, -⟩, -⟩ := hX
    exact hno ee M' h' hΨ)
  rw [e0]
  exact x_after hx hS1 (vx_of_va (va_runSU (bytes := zB zz) (maxL := zL zz) (ret := zR zz) (g := F0 m pc lsC ((as.map (x_c X ρ)).reverse ++ .ref (ρ r) :: st.map (x_c X ρ))) (As := as.map (x_c X ρ)) (hx.K.1 q _ (xc_ok q hq).1).2 (x_fix hx) hmet ⟨⟨rfl, rfl, by rw [hx.rm]; exact hz.1.2.2.2.2.1, by rw [hx.rm]; exact hz.1.2.2.2.2.2, fun w hw a' U hW => (by have hm : w ∈ x_tb := (List.mem_cons.mp hw).elim (fun e => by rw [e]; exact hz.1.1) id; exact word_at hW (x_goodtb w hm) (hx.hts w hm)), (by have h9 : x_cw zz ∈ x_w1 zz := List.mem_cons_self; rw [x_cw_n hz.2] at h9; exact h9)⟩, w1, w4, w5, w2, hx.hts _ hz.1.2.1, (by have h9 := hx.hts _ hz.1.1; rw [x_cw_n hz.2] at h9; exact h9), w6, fun sig hsig => (by have := hz.1.2.2.2.1; rw [hsig] at this; exact (Option.some.inj this).symm)⟩ ⟨x_blind, hcell, hPc⟩ rfl (by rw [List.length_map]) S.1.1 rfl (lv_room (by rw [x_sumc]; exact hst)) d ⟨by rw [hx.rm]; exact hc, by rw [hx.rm]; exact hs⟩)) hc hs k0 k1 (fun e M' h' hΨ => absurd hΨ (hno e M' h'))
theorem sn_callI (hx : x_Cx X z p l R s m args meth c) {zz : xMD} {idx q r : Nat} {as : List xV} {Ψ : xO → xM → xH → Prop} (w1 : (Cond.methodLink (zN z).cls idx (zN zz)).before args s = true) (w2 : (Cond.instanceMethod (zN zz)).before args s = true) (hy : (zN zz).name = "<init>") (hr2 : zR zz = none) (d : decode (zB z) pc = .ok (.invokespecial idx, 3)) (hq : q < 10) (hr : hK h r = q) (hno : ∀ e M' h', ¬ Ψ (.inr e) M' h') (hM : x_Cal zz (xA r :: as) M h Ψ) (hz : x_zok z zz as.length ∧ zF zz < 1000) (hst : (st.map x_cat).sum ≤ 8) (hc : cells + zC zz ≤ zC z) (hs : slots + zS zz ≤ zS z)
    (k0 : ∀ M' h', Ψ (.inl none) M' h' → x_Wt X ρ0 n0 (zL z) p l e R s m args below meth c (x_Q X ρ0 n0 Φ below args s z) (pc + 3) ls st M' h' (cells + zC zz) (slots + zS zz)) (k1 : ∀ v M' h', Ψ (.inl (some v)) M' h' → x_Wt X ρ0 n0 (zL z) p l e R s m args below meth c (x_Q X ρ0 n0 Φ below args s z) (pc + 3) ls (v :: st) M' h' (cells + zC zz) (slots + zS zz)) : x_Wt X ρ0 n0 (zL z) p l e R s m args below meth c (x_Q X ρ0 n0 Φ below args s z) (pc) ls (as.reverse ++ xA r :: st) M h cells slots := by
  intro ρ lsC H locs S
  obtain ⟨hr0, hcell⟩ := x_recv hx S hq hr
  have hS1 : x_St X ρ0 n0 (zL z) s ρ lsC H locs ls st M h := ⟨S.1, fun v hv => S.2.1 v (List.mem_append_right _ (List.mem_cons_of_mem _ hv)), S.2.2⟩
  have has : ∀ a ∈ as, x_vk h a := fun a ha => S.2.1 a (List.mem_append_left _ (List.mem_reverse.mpr ha))
  have hra : ∀ a ∈ xA r :: as, x_vk h a := fun a ha => by
    rcases List.mem_cons.mp ha with rfl | ha
    · exact S.2.1 _ (List.mem_append_right _ List.mem_cons_self)
    · exact has a ha
  have e1 : x_c X ρ (xA r) = .ref (ρ r) := by
    show va_rf (x_rf ρ r) = _
    rw [x_rf_s hr0]
    rfl
  have e0 : (as.reverse ++ xA r :: st).map (x_c X ρ) = (as.map (x_c X ρ)).reverse ++ .ref (ρ r) :: st.map (x_c X ρ) := by rw [List.map_append, x_rmap, List.map_cons, e1]
  have hPc : ∀ U : State, U.heap = H → s.WarmedH U.vm → x_Pc X ρ (xA r :: as) M h (Value.ref (ρ r) :: as.map (x_c X ρ)).toArray U := fun U hU hW => by
    have := hS1.pre hx hra U hU hW
    rw [List.map_cons, e1] at this
    exact this
  have hmet := met_of_vx (hM l hx.tr X ρ) (fun E st t hX => by
    obtain ⟨⟨ee, -, M', h', -, hΨ, -⟩, -⟩ := hX
    exact hno ee M' h' hΨ)
  rw [e0]
  exact x_after hx hS1 (vx_of_va (va_runI (bytes := zB zz) (maxL := zL zz) (g := F0 m pc lsC ((as.map (x_c X ρ)).reverse ++ .ref (ρ r) :: st.map (x_c X ρ))) (As := as.map (x_c X ρ)) (x_fix hx) hmet ⟨(by have := x_callB hx hz.1 hz.2 w1; rw [hr2] at this; exact this), hy, w2⟩ ⟨x_blind, hPc⟩ rfl (by rw [List.length_map]) S.1.1 rfl (lv_room (by rw [x_sumc]; exact hst)) d ⟨by rw [hx.rm]; exact hc, by rw [hx.rm]; exact hs⟩)) hc hs k0 k1 (fun e M' h' hΨ => absurd hΨ (hno e M' h'))
theorem sn_callIN (hx : x_Cx X z p l R s m args meth c) {zz : xMD} {idx q r : Nat} {as : List xV} {Ψ : xO → xM → xH → Prop} (host : String) (w1 : (Cond.methodLinkNest (zN z).cls idx (zN zz) host).before args s = true) (w2 : (Cond.instanceMethod (zN zz)).before args s = true) (hy : (zN zz).name = "<init>") (hr2 : zR zz = none) (d : decode (zB z) pc = .ok (.invokespecial idx, 3)) (hq : q < 10) (hr : hK h r = q) (hno : ∀ e M' h', ¬ Ψ (.inr e) M' h') (hM : x_Cal zz (xA r :: as) M h Ψ) (hz : x_zok z zz as.length ∧ zF zz < 1000) (hst : (st.map x_cat).sum ≤ 8) (hc : cells + zC zz ≤ zC z) (hs : slots + zS zz ≤ zS z)
    (k0 : ∀ M' h', Ψ (.inl none) M' h' → x_Wt X ρ0 n0 (zL z) p l e R s m args below meth c (x_Q X ρ0 n0 Φ below args s z) (pc + 3) ls st M' h' (cells + zC zz) (slots + zS zz)) (k1 : ∀ v M' h', Ψ (.inl (some v)) M' h' → x_Wt X ρ0 n0 (zL z) p l e R s m args below meth c (x_Q X ρ0 n0 Φ below args s z) (pc + 3) ls (v :: st) M' h' (cells + zC zz) (slots + zS zz)) : x_Wt X ρ0 n0 (zL z) p l e R s m args below meth c (x_Q X ρ0 n0 Φ below args s z) (pc) ls (as.reverse ++ xA r :: st) M h cells slots := by
  intro ρ lsC H locs S
  obtain ⟨hr0, hcell⟩ := x_recv hx S hq hr
  have hS1 : x_St X ρ0 n0 (zL z) s ρ lsC H locs ls st M h := ⟨S.1, fun v hv => S.2.1 v (List.mem_append_right _ (List.mem_cons_of_mem _ hv)), S.2.2⟩
  have has : ∀ a ∈ as, x_vk h a := fun a ha => S.2.1 a (List.mem_append_left _ (List.mem_reverse.mpr ha))
  have hra : ∀ a ∈ xA r :: as, x_vk h a := fun a ha => by
    rcases List.mem_cons.mp ha with rfl | ha
    · exact S.2.1 _ (List.mem_append_right _ List.mem_cons_self)
    · exact has a ha
  have e1 : x_c X ρ (xA r) = .ref (ρ r) := by
    show va_rf (x_rf ρ r) = _
    rw [x_rf_s hr0]
    rfl
  have e0 : (as.reverse ++ xA r :: st).map (x_c X ρ) = (as.map (x_c X ρ)).reverse ++ .ref (ρ r) :: st.map (x_c X ρ) := by rw [List.map_append, x_rmap, List.map_cons, e1]
  have hPc : ∀ U : State, U.heap = H → s.WarmedH U.vm → x_Pc X ρ (xA r :: as) M h (Value.ref (ρ r) :: as.map (x_c X ρ)).toArray U := fun U hU hW => by
    have := hS1.pre hx hra U hU hW
    rw [List.map_cons, e1] at this
    exact this
  have hmet := met_of_vx (hM l hx.tr X ρ) (fun E st t hX => by
    obtain ⟨⟨ee, -, M', h', -, hΨ, -⟩, -⟩ := hX
    exact hno ee M' h' hΨ)
  rw [e0]
  exact x_after hx hS1 (vx_of_va (va_runIN (bytes := zB zz) (maxL := zL zz) (g := F0 m pc lsC ((as.map (x_c X ρ)).reverse ++ .ref (ρ r) :: st.map (x_c X ρ))) (As := as.map (x_c X ρ)) (x_fix hx) hmet ⟨⟨⟨rfl, rfl, by rw [hx.rm]; exact hz.1.2.2.2.2.1, by rw [hx.rm]; exact hz.1.2.2.2.2.2, fun w hw a' U hW => (by have hm : w ∈ x_tb := (List.mem_cons.mp hw).elim (fun e => by rw [e]; exact hz.1.1) id; exact word_at hW (x_goodtb w hm) (hx.hts w hm)), (by have h9 : x_cw zz ∈ x_w1 zz := List.mem_cons_self; rw [x_cw_n hz.2, hr2] at h9; exact h9)⟩, (by have h9 := hx.hts _ hz.1.1; rw [x_cw_n hz.2, hr2] at h9; exact h9), hx.hts _ hz.1.2.1, hz.1.2.2.1, fun sig hsig => (by have := hz.1.2.2.2.1; rw [hsig] at this; exact (Option.some.inj this).symm), w1⟩, hy, w2⟩ ⟨x_blind, hPc⟩ rfl (by rw [List.length_map]) S.1.1 rfl (lv_room (by rw [x_sumc]; exact hst)) d ⟨by rw [hx.rm]; exact hc, by rw [hx.rm]; exact hs⟩)) hc hs k0 k1 (fun e M' h' hΨ => absurd hΨ (hno e M' h'))
end SC
