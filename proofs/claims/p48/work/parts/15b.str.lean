/-! the String constants: length and charAt, walked at the machine -/
/-- a method, from the walk of its body -/
theorem x_metW {z : xMD} (hzf : zF z < 1000) (hpn : plainName (zN z).cls = true) {as : List xV} {M : xM} {h : xH} {Φ : xO → xM → xH → Prop} (hl : (as.map x_cat).sum ≤ zL z)
    (hW : ∀ {X : xX} {ρ0 : Nat → Nat} {p : Program} {l : Launch} {e : Env} {s : State} {m : MethodId} {args : Array Value} {below : List Frame} {meth : Method} {c : Code}, x_Cx X z p l (x_rm z) s m args meth c → x_Wt X ρ0 (hn h) (zL z) p l e (x_rm z) s m args below meth c (x_Q X ρ0 (hn h) Φ below args s z) 0 (x_ent as 0) [] M h 0 0) : x_Cal z as M h Φ := by
  intro l hl0 X ρ
  refine vx_ofW (cc := zB z) (maxL := zL z) (ret := zR z) hpn (by unfold x_w1; rw [x_cw_n hzf]) ?_
  intro p e s m args below meth c s₁ B1 hml hex hv
  obtain ⟨rfl, has, hsz, hP, hK1, hO⟩ := hv
  have hts := atoms_spec (ws := x_w1 z) B1.pre
  have hx : x_Cx X z p l (x_rm z) s m (as.map (x_c X ρ)).toArray meth c :=
    ⟨B1.exec, B1.bytes, hml, findClass_of_methodNamed B1.named, fun w hw => hts w (List.mem_cons_of_mem _ hw), B1.returns, B1.notSynchronized, hl0, hex, rfl, (name_of_methodNamed B1.named B1.method).1, hK1, hO, hsz⟩
  have hen := lv_entry (as.map (x_c X ρ)) (n := zL z) (by rw [x_lgsl]; exact hl)
  rw [lg_entry_eq]
  generalize (lg_sl (as.map (x_c X ρ)) ++ List.replicate (zL z - (lg_sl (as.map (x_c X ρ))).length) Slot.unset).toArray = lsC at hen ⊢
  exact hW (ρ0 := ρ) hx ρ lsC s.heap [] ⟨⟨hen.1, hen.2.1, fun i v hi => ⟨hen.2.2 _ (x_entl as 0 i v hi).1, has v (x_entl (X := X) (ρ := ρ) as 0 i v hi).2⟩⟩, fun v hv => absurd hv List.not_mem_nil, hP, va_S.rf, fun id _ => rfl, Nat.le_refl _⟩
/-- a call, for one world X -/
def x_CalX (X : xX) : xCal := fun z args M h Φ => ∀ l : Launch, l.stackTraces = false → ∀ (ρ : Nat → Nat), vx_Met l (zN z) (x_w1 z) (x_rm z) (x_Pc X ρ args M h) (x_Qc X ρ (hn h) Φ) (x_XC X ρ (hn h) Φ) (zC z) (zS z) (x_A X)
theorem x_metWX {X : xX} {z : xMD} (hzf : zF z < 1000) (hpn : plainName (zN z).cls = true) {as : List xV} {M : xM} {h : xH} {Φ : xO → xM → xH → Prop} (hl : (as.map x_cat).sum ≤ zL z)
    (hW : ∀ {ρ0 : Nat → Nat} {p : Program} {l : Launch} {e : Env} {s : State} {m : MethodId} {args : Array Value} {below : List Frame} {meth : Method} {c : Code}, x_Cx X z p l (x_rm z) s m args meth c → x_Wt X ρ0 (hn h) (zL z) p l e (x_rm z) s m args below meth c (x_Q X ρ0 (hn h) Φ below args s z) 0 (x_ent as 0) [] M h 0 0) : x_CalX X z as M h Φ := by
  intro l hl0 ρ
  refine vx_ofW (cc := zB z) (maxL := zL z) (ret := zR z) hpn (by unfold x_w1; rw [x_cw_n hzf]) ?_
  intro p e s m args below meth c s₁ B1 hml hex hv
  obtain ⟨rfl, has, hsz, hP, hK1, hO⟩ := hv
  have hts := atoms_spec (ws := x_w1 z) B1.pre
  have hx : x_Cx X z p l (x_rm z) s m (as.map (x_c X ρ)).toArray meth c :=
    ⟨B1.exec, B1.bytes, hml, findClass_of_methodNamed B1.named, fun w hw => hts w (List.mem_cons_of_mem _ hw), B1.returns, B1.notSynchronized, hl0, hex, rfl, (name_of_methodNamed B1.named B1.method).1, hK1, hO, hsz⟩
  have hen := lv_entry (as.map (x_c X ρ)) (n := zL z) (by rw [x_lgsl]; exact hl)
  rw [lg_entry_eq]
  generalize (lg_sl (as.map (x_c X ρ)) ++ List.replicate (zL z - (lg_sl (as.map (x_c X ρ))).length) Slot.unset).toArray = lsC at hen ⊢
  exact hW (ρ0 := ρ) hx ρ lsC s.heap [] ⟨⟨hen.1, hen.2.1, fun i v hi => ⟨hen.2.2 _ (x_entl as 0 i v hi).1, has v (x_entl (X := X) (ρ := ρ) as 0 i v hi).2⟩⟩, fun v hv => absurd hv List.not_mem_nil, hP, va_S.rf, fun id _ => rfl, Nat.le_refl _⟩
section STR
variable {X : xX} {ρ0 : Nat → Nat} {n0 : Nat} {z : xMD} {p : Program} {l : Launch} {e : Env} {R : Room} {s : State} {m : MethodId} {args : Array Value} {below : List Frame} {meth : Method} {c : Code} {Q : State → Prop} {Φ : xO → xM → xH → Prop}
variable {pc cells slots : Nat} {ls : xL} {st : List xV} {M : xM} {h : xH}
theorem st_pick (hx : x_Cx X z p l R s m args meth c) {w : Jvm.Cond} (q : Nat) (h : x_has q w = true) : w.before args s = true := hx.hts _ (x_has_in h)
theorem st_compact (hx : x_Cx X z p l R s m args meth c) {idx : Nat} (w : (Cond.fieldLink (zN z).cls idx "java/lang/String" "COMPACT_STRINGS" "Z").before args s = true) (d : decode (zB z) pc = .ok (.getstatic idx, 3)) (kk : x_Wt X ρ0 n0 (zL z) p l e R s m args below meth c Q (pc + 3) ls (xI 1 :: st) M h cells slots) : x_Wt X ρ0 n0 (zL z) p l e R s m args below meth c Q pc ls st M h cells slots := by
  intro ρ lsC H locs S
  exact va_gets hx.1 hx.2.1 hx.O.2.2.2.2.2.1 S.2.2.2.1 hx.own w (fun _ h => h) d (kk ρ lsC H locs (S.push (v := xI 1) (by show x_i32 1; unfold x_i32; omega)))
theorem st_value (hx : x_Cx X z p l R s m args meth c) {idx i : Nat} (w : (Cond.fieldLink (zN z).cls idx "java/lang/String" "value" "[B").before args s = true) (d : decode (zB z) pc = .ok (.getfield idx, 3)) (kk : x_Wt X ρ0 n0 (zL z) p l e R s m args below meth c Q (pc + 3) ls (xE (XV X i) :: st) M h cells slots) : x_Wt X ρ0 n0 (zL z) p l e R s m args below meth c Q pc ls (xS i :: st) M h cells slots := by
  intro ρ lsC H locs S
  have hi : i < 22 := S.top
  exact vk_getf hx.1 hx.2.1 (x_O.str hx.O hi).2.2.1 S.2.2.2.1 hx.own w (fun _ h => h) d (kk ρ lsC H locs (S.pop.push (v := xE (XV X i)) trivial))
theorem st_coder (hx : x_Cx X z p l R s m args meth c) {idx i : Nat} (w : (Cond.fieldLink (zN z).cls idx "java/lang/String" "coder" "B").before args s = true) (d : decode (zB z) pc = .ok (.getfield idx, 3)) (kk : x_Wt X ρ0 n0 (zL z) p l e R s m args below meth c Q (pc + 3) ls (xI 0 :: st) M h cells slots) : x_Wt X ρ0 n0 (zL z) p l e R s m args below meth c Q pc ls (xS i :: st) M h cells slots := by
  intro ρ lsC H locs S
  have hi : i < 22 := S.top
  exact vk_getf hx.1 hx.2.1 (x_O.str hx.O hi).2.1 S.2.2.2.1 hx.own w (fun _ h => h) d (kk ρ lsC H locs (S.pop.push (v := xI 0) (by show x_i32 0; unfold x_i32; omega)))
def x_sl (i : Nat) : Int := (x_len.getD i 0 : Nat)
def x_ch (i : Nat) (k : Int) : Int := ((x_byt.getD i []).getD k.toNat 0).toInt
theorem x_sl_r : ∀ i, i < 22 → 0 ≤ x_sl i ∧ x_sl i < 1000 := by decide +kernel
theorem x_ch_r : ∀ i, i < 22 → ∀ b ∈ x_byt.getD i [], 0 ≤ b.toInt ∧ b.toInt < 128 := by decide +kernel
theorem x_ch_0 {i : Nat} {k : Int} (hi : i < 22) : 0 ≤ x_ch i k ∧ x_ch i k < 128 := by
  unfold x_ch
  by_cases hk : k.toNat < (x_byt.getD i []).length
  · rw [List.getD_eq_getElem?_getD, List.getElem?_eq_getElem hk]
    exact x_ch_r i hi _ (List.getElem_mem hk)
  · rw [List.getD_eq_getElem?_getD, List.getElem?_eq_none (by omega)]
    decide
theorem st_vlen (hx : x_Cx X z p l R s m args meth c) {i : Nat} (hi : i < 22) (d : decode (zB z) pc = .ok (.arraylength, 1)) (kk : x_Wt X ρ0 n0 (zL z) p l e R s m args below meth c Q (pc + 1) ls (xI (x_sl i) :: st) M h cells slots) : x_Wt X ρ0 n0 (zL z) p l e R s m args below meth c Q pc ls (xE (XV X i) :: st) M h cells slots := by
  intro ρ lsC H locs S
  have hr := x_sl_r i hi
  refine va_tlen hx.1 hx.2.1 (x_O.str hx.O hi).2.2.2 S.2.2.2.1 (v := Int32.ofInt (x_sl i)) ?_ d (kk ρ lsC H locs (S.pop.push (v := xI (x_sl i)) (by show x_i32 _; unfold x_i32; omega)))
  unfold x_sl
  rw [Int32.ofInt_eq_ofNat]
theorem st_vld (hx : x_Cx X z p l R s m args meth c) {i : Nat} {k : Int} (hi : i < 22) (hk : 0 ≤ k ∧ k < x_sl i) (d : decode (zB z) pc = .ok (.baload, 1)) (kk : x_Wt X ρ0 n0 (zL z) p l e R s m args below meth c Q (pc + 1) ls (xI (x_ch i k) :: st) M h cells slots) : x_Wt X ρ0 n0 (zL z) p l e R s m args below meth c Q pc ls (xI k :: xE (XV X i) :: st) M h cells slots := by
  intro ρ lsC H locs S
  have hr := x_ch_0 (k := k) hi
  have hk32 : x_i32 k := S.top
  refine va_tb hx.1 hx.2.1 (x_O.str hx.O hi).2.2.2 S.2.2.2.1 (i := Int32.ofInt k) (v := .int (Int32.ofInt (x_ch i k))) ?_ ?_ d (kk ρ lsC H locs (S.pop.pop.push (v := xI (x_ch i k)) (by show x_i32 _; unfold x_i32; omega)))
  · have := i32_vin (L := x_sl i) hk32 hk.1 hk.2
    unfold x_sl at this
    simpa using this
  · rw [i32_cl hk32]
    unfold x_ch
    rw [Int32.ofInt_toInt]
theorem sn_callSX (hx : x_Cx X z p l R s m args meth c) {zz : xMD} {idx : Nat} {as : List xV} {Ψ : xO → xM → xH → Prop} (w1 : (Cond.methodLink (zN z).cls idx (zN zz)).before args s = true) (w2 : (Cond.static (zN zz)).before args s = true) (d : decode (zB z) pc = .ok (.invokestatic idx, 3)) (hM : x_CalX X zz as M h Ψ) (hz : x_zok z zz as.length) (hst : (st.map x_cat).sum ≤ 8) (hc : cells + zC zz ≤ zC z) (hs : slots + zS zz ≤ zS z)
    (k0 : ∀ M' h', Ψ (.inl none) M' h' → x_Wt X ρ0 n0 (zL z) p l e R s m args below meth c (x_Q X ρ0 n0 Φ below args s z) (pc + 3) ls st M' h' (cells + zC zz) (slots + zS zz)) (k1 : ∀ v M' h', Ψ (.inl (some v)) M' h' → x_Wt X ρ0 n0 (zL z) p l e R s m args below meth c (x_Q X ρ0 n0 Φ below args s z) (pc + 3) ls (v :: st) M' h' (cells + zC zz) (slots + zS zz)) (k2 : ∀ e M' h', Ψ (.inr e) M' h' → Φ (.inr e) M' h') : x_Wt X ρ0 n0 (zL z) p l e R s m args below meth c (x_Q X ρ0 n0 Φ below args s z) (pc) ls (as.reverse ++ st) M h cells slots := by
  intro ρ lsC H locs S
  have hS1 : x_St X ρ0 n0 (zL z) s ρ lsC H locs ls st M h := ⟨S.1, fun v hv => S.2.1 v (List.mem_append_right _ hv), S.2.2⟩
  have has : ∀ a ∈ as, x_vk h a := fun a ha => S.2.1 a (List.mem_append_left _ (List.mem_reverse.mpr ha))
  have e0 : (as.reverse ++ st).map (x_c X ρ) = (as.map (x_c X ρ)).reverse ++ st.map (x_c X ρ) := by rw [List.map_append, x_rmap]
  rw [e0]
  by_cases hf : zF zz < 1000
  · exact x_after hx hS1 (vx_runS (g := F0 m pc lsC ((as.map (x_c X ρ)).reverse ++ st.map (x_c X ρ))) (As := as.map (x_c X ρ)) (x_fix hx) (hM l hx.tr ρ) ⟨x_callB hx hz hf w1, w2⟩ ⟨x_blind, fun U hU hW => hS1.pre hx has U hU hW⟩ rfl (by rw [List.length_map]) S.1.1 rfl (lv_room (by rw [x_sumc]; exact hst)) d ⟨by rw [hx.rm]; exact hc, by rw [hx.rm]; exact hs⟩) hc hs k0 k1 k2
  · exact x_after hx hS1 (vx_runSX (hh := x_hh zz) (bytes := zB zz) (maxL := zL zz) (ret := zR zz) (g := F0 m pc lsC ((as.map (x_c X ρ)).reverse ++ st.map (x_c X ρ))) (As := as.map (x_c X ρ)) (x_fix hx) (hM l hx.tr ρ) ⟨⟨rfl, rfl, by rw [hx.rm]; exact hz.2.2.2.2.1, by rw [hx.rm]; exact hz.2.2.2.2.2, fun w hw a' U hW => (by have hm : w ∈ x_tb := (List.mem_cons.mp hw).elim (fun e => by rw [e]; exact hz.1) id; exact word_at hW (x_goodtb w hm) (hx.hts w hm)), (by rw [← x_cw_h hf]; exact List.mem_cons_self)⟩, (by rw [← x_cw_h hf]; exact hx.hts _ hz.1), hx.hts _ hz.2.1, hz.2.2.1, fun sig hsig => (by have := hz.2.2.2.1; rw [hsig] at this; exact (Option.some.inj this).symm), w1, w2⟩ ⟨x_blind, fun U hU hW => hS1.pre hx has U hU hW⟩ rfl (by rw [List.length_map]) S.1.1 rfl (lv_room (by rw [x_sumc]; exact hst)) d ⟨by rw [hx.rm]; exact hc, by rw [hx.rm]; exact hs⟩) hc hs k0 k1 k2
end STR
section STC
variable {M : xM} {h : xH} {Φ : xO → xM → xH → Prop}
theorem c128 : ∀ n : Nat, n < 128 → ((Int32.ofInt (n : Int)).toUInt32 % 65536).toInt32 = Int32.ofInt (n : Int) ∧ x_and (n : Int) 255 = n ∧ narrow .char (.int (Int32.ofInt (n : Int))) = .int (Int32.ofInt (n : Int)) := by decide +kernel
theorem cK_checkIndex {k n : Int} {v : xV} (hk : 0 ≤ k ∧ k < n) (hv : x_cat v = 1) (kk : Φ (.inl (some (xI k))) M h) : x_Cal zK_checkIndex [xI k, xI n, v] M h Φ := by
  refine x_metW (by decide) (by decide) (by simp only [List.map_cons, List.map_nil, List.sum_cons, List.sum_nil, hv]; exact Nat.le_of_ble_eq_true rfl) ?_
  intro X ρ0 p l e s m args below meth c hx
  refine sn_iload_n (i := 0) (x := k) hx rfl (by decide +kernel) ?_
  refine sn_if_lt hx (o := 8) (t := 9) (by decide) (by decide +kernel) (fun q => absurd q (by omega)) (fun _ => ?_)
  refine sn_iload_n (i := 0) (x := k) hx rfl (by decide +kernel) ?_
  refine sn_iload_n (i := 1) (x := n) hx rfl (by decide +kernel) ?_
  refine sn_icmp_lt hx (o := 10) (t := 16) (by decide) (by decide +kernel) (fun _ => ?_) (fun q => absurd hk.2 q)
  refine sn_iload_n (i := 0) (x := k) hx rfl (by decide +kernel) ?_
  exact sn_iret hx (ty := .int) rfl rfl (by decide +kernel) (by decide) (by decide) kk
theorem cT_coder {i : Nat} (kk : Φ (.inl (some (xI 0))) M h) : x_Cal zT_coder [xS i] M h Φ := by
  refine x_metW (by decide) (by decide) (Nat.le_of_ble_eq_true rfl) ?_
  intro X ρ0 p l e s m args below meth c hx
  refine st_compact hx (idx := 38) (st_pick hx 639 (by decide +kernel)) (by decide +kernel) ?_
  refine sn_if_eq hx (o := 10) (t := 13) (by decide) (by decide +kernel) (fun q => absurd q (by decide)) (fun _ => ?_)
  refine sn_aload_n (i := 0) (x := .inr (.inr i)) hx rfl (by decide +kernel) ?_
  refine st_coder hx (idx := 15) (st_pick hx 1029 (by decide +kernel)) (by decide +kernel) ?_
  refine sn_goto hx (o := 4) (t := 14) (by decide) (by decide +kernel) ?_
  exact sn_iret hx (ty := .byte) rfl (by decide +kernel) (by decide +kernel) (by decide) (by decide) kk
theorem cT_isLatin1 {i : Nat} (kk : Φ (.inl (some (xI 1))) M h) : x_Cal zT_isLatin1 [xS i] M h Φ := by
  refine x_metW (by decide) (by decide) (Nat.le_of_ble_eq_true rfl) ?_
  intro X ρ0 p l e s m args below meth c hx
  refine st_compact hx (idx := 38) (st_pick hx 639 (by decide +kernel)) (by decide +kernel) ?_
  refine sn_if_eq hx (o := 14) (t := 17) (by decide) (by decide +kernel) (fun q => absurd q (by decide)) (fun _ => ?_)
  refine sn_aload_n (i := 0) (x := .inr (.inr i)) hx rfl (by decide +kernel) ?_
  refine st_coder hx (idx := 15) (st_pick hx 1029 (by decide +kernel)) (by decide +kernel) ?_
  refine sn_if_ne hx (o := 7) (t := 17) (by decide) (by decide +kernel) (fun q => absurd rfl q) (fun _ => ?_)
  refine sn_iconst hx (k := 1) ⟨by decide, by decide⟩ (by decide +kernel) ?_
  refine sn_goto hx (o := 4) (t := 18) (by decide) (by decide +kernel) ?_
  exact sn_iret hx (ty := .boolean) rfl (by decide +kernel) (by decide +kernel) (by decide) (by decide) kk
theorem cT_length {i : Nat} (hi : i < 22) (kk : Φ (.inl (some (xI (x_sl i)))) M h) : x_Cal zT_length [xS i] M h Φ := by
  refine x_metW (by decide) (by decide) (Nat.le_of_ble_eq_true rfl) ?_
  intro X ρ0 p l e s m args below meth c hx
  refine sn_aload_n (i := 0) (x := .inr (.inr i)) hx rfl (by decide +kernel) ?_
  refine st_value hx (idx := 9) (st_pick hx 1028 (by decide +kernel)) (by decide +kernel) ?_
  refine st_vlen hx hi (by decide +kernel) ?_
  refine sn_aload_n (i := 0) (x := .inr (.inr i)) hx rfl (by decide +kernel) ?_
  refine sn_callVS hx (zz := zT_coder) (idx := 335) (as := []) (Ψ := fun o M' h' => o = .inl (some (xI 0)) ∧ M' = M ∧ h' = h) (st_pick hx 635 (by decide +kernel)) (st_pick hx 636 (by decide +kernel)) (st_pick hx 637 (by decide +kernel)) (by decide +kernel) (cT_coder ⟨rfl, rfl, rfl⟩) (x_okv_in (pc := 638) (pi := 48) (by decide +kernel)) (Nat.le_of_ble_eq_true rfl) (by decide) (by decide) (fun M' h' q => by cases q.1) (fun v M' h' q => ?_) (fun e M' h' q => by cases q.1)
  obtain ⟨q1, rfl, rfl⟩ := q
  cases q1
  refine sn_ishr hx (by decide +kernel) ?_
  refine sn_iret hx (ty := .int) rfl rfl (by decide +kernel) (by decide) (by decide) ?_
  have hr : ∀ i, i < 22 → x_shr (x_sl i) 0 = x_sl i := by decide +kernel
  rw [hr i hi]
  exact kk
theorem cT_checkIndex {k n : Int} (hk : 0 ≤ k ∧ k < n) (kk : Φ (.inl none) M h) : x_Cal zT_checkIndex [xI k, xI n] M h Φ := by
  refine x_metW (by decide) (by decide) (Nat.le_of_ble_eq_true rfl) ?_
  intro X ρ0 p l e s m args below meth c hx
  refine sn_iload_n (i := 0) (x := k) hx rfl (by decide +kernel) ?_
  refine sn_iload_n (i := 1) (x := n) hx rfl (by decide +kernel) ?_
  have key : ∀ v : xV, x_cat v = 1 → x_Wt X ρ0 (hn h) (zL zT_checkIndex) p l e (x_rm zT_checkIndex) s m args below meth c (x_Q X ρ0 (hn h) Φ below args s zT_checkIndex) 5 (x_ent [xI k, xI n] 0) [v, xI n, xI k] M h 0 0 := fun v hv => by
    refine sn_callS hx (zz := zK_checkIndex) (idx := 1059) (as := [xI k, xI n, v]) (st := []) (Ψ := fun o M' h' => o = .inl (some (xI k)) ∧ M' = M ∧ h' = h) (st_pick hx 657 (by decide +kernel)) (st_pick hx 658 (by decide +kernel)) (by decide +kernel) (cK_checkIndex hk hv ⟨rfl, rfl, rfl⟩) (x_okz_in (n := 3) (pc := 659) (pi := 53) (by decide +kernel)) (Nat.le_of_ble_eq_true rfl) (by decide) (by decide) (fun M' h' q => by cases q.1) (fun v M' h' q => ?_) (fun e M' h' q => by cases q.1)
    obtain ⟨q1, rfl, rfl⟩ := q
    cases q1
    refine sn_pop hx rfl (by decide +kernel) ?_
    exact sn_vret hx rfl (by decide +kernel) (by decide) (by decide) kk
  intro ρ lsC H locs S
  have w := st_pick hx (w := Cond.fieldLink "java/lang/String" 1053 "jdk/internal/util/Preconditions" "SIOOBE_FORMATTER" "Ljava/util/function/BiFunction;") 655 (by decide +kernel)
  rcases hx.O.2.2.2.2.2.2.1 with hZ | ⟨t, hZ⟩
  · exact va_gets hx.1 hx.2.1 hZ S.2.2.2.1 hx.own w (fun _ h => h) (by decide +kernel) (key (xA 0) rfl ρ lsC H locs (S.push (v := xA 0) (by show 0 < hn h; have := S.2.2.1.2.2.1; omega)))
  · exact va_gets hx.1 hx.2.1 hZ S.2.2.2.1 hx.own w (fun _ h => h) (by decide +kernel) (key (xE t) rfl ρ lsC H locs (S.push (v := xE t) trivial))
theorem cU_charAt {X : xX} {i : Nat} {k : Int} (hi : i < 22) (hk : 0 ≤ k ∧ k < x_sl i) (kk : Φ (.inl (some (xI (x_ch i k)))) M h) : x_CalX X zU_charAt [xE (XV X i), xI k] M h Φ := by
  refine x_metWX (by decide) (by decide) (Nat.le_of_ble_eq_true rfl) ?_
  intro ρ0 p l e s m args below meth c hx
  refine sn_iload_n (i := 1) (x := k) hx rfl (by decide +kernel) ?_
  refine sn_aload_n (i := 0) (x := .inr (.inl (XV X i))) hx rfl (by decide +kernel) ?_
  refine st_vlen hx hi (by decide +kernel) ?_
  refine sn_callS hx (zz := zT_checkIndex) (idx := 9) (as := [xI k, xI (x_sl i)]) (st := []) (Ψ := fun o M' h' => o = .inl none ∧ M' = M ∧ h' = h) (st_pick hx 652 (by decide +kernel)) (st_pick hx 653 (by decide +kernel)) (by decide +kernel) (cT_checkIndex hk ⟨rfl, rfl, rfl⟩) (x_okz_in (n := 2) (pc := 654) (pi := 48) (by decide +kernel)) (Nat.le_of_ble_eq_true rfl) (by decide) (by decide) (fun M' h' q => ?_) (fun v M' h' q => by cases q.1) (fun e M' h' q => by cases q.1)
  obtain ⟨-, rfl, rfl⟩ := q
  refine sn_aload_n (i := 0) (x := .inr (.inl (XV X i))) hx rfl (by decide +kernel) ?_
  refine sn_iload_n (i := 1) (x := k) hx rfl (by decide +kernel) ?_
  refine st_vld hx hi hk (by decide +kernel) ?_
  refine sn_sipush hx (k := 255) ⟨by decide, by decide⟩ (by decide) (by decide +kernel) ?_
  refine sn_iand hx (by decide +kernel) ?_
  obtain ⟨n, hn'⟩ : ∃ n : Nat, x_ch i k = n := ⟨(x_ch i k).toNat, by have := x_ch_0 (k := k) hi; omega⟩
  have hr := x_ch_0 (k := k) hi
  obtain ⟨c1, c2, c3⟩ := c128 n (by omega)
  rw [hn'] at kk ⊢
  rw [c2]
  have k2 := sn_iret hx (ρ0 := ρ0) (n0 := hn h') (pc := 14) (ls := x_ent [xE (XV X i), xI k] 0) (cells := 0) (slots := 0) (e := e) (below := below) (ty := .char) (v := n) rfl c3 (by decide +kernel) (by decide) (by decide) kk
  intro ρ lsC H locs S
  exact lv_i2c hx.1 hx.2.1 (by decide +kernel) c1 (k2 ρ lsC H locs (S.pop.push (v := xI n) S.top))
theorem cT_charAt {i : Nat} {k : Int} (hi : i < 22) (hk : 0 ≤ k ∧ k < x_sl i) (kk : Φ (.inl (some (xI (x_ch i k)))) M h) : x_Cal zT_charAt [xS i, xI k] M h Φ := by
  refine x_metW (by decide) (by decide) (Nat.le_of_ble_eq_true rfl) ?_
  intro X ρ0 p l e s m args below meth c hx
  refine sn_aload_n (i := 0) (x := .inr (.inr i)) hx rfl (by decide +kernel) ?_
  refine sn_callVS hx (zz := zT_isLatin1) (idx := 492) (as := []) (st := []) (Ψ := fun o M' h' => o = .inl (some (xI 1)) ∧ M' = M ∧ h' = h) (st_pick hx 645 (by decide +kernel)) (st_pick hx 646 (by decide +kernel)) (st_pick hx 647 (by decide +kernel)) (by decide +kernel) (cT_isLatin1 ⟨rfl, rfl, rfl⟩) (x_okv_in (pc := 648) (pi := 48) (by decide +kernel)) (Nat.le_of_ble_eq_true rfl) (by decide) (by decide) (fun M' h' q => by cases q.1) (fun v M' h' q => ?_) (fun e M' h' q => by cases q.1)
  obtain ⟨q1, rfl, rfl⟩ := q
  cases q1
  refine sn_if_eq hx (o := 12) (t := 16) (by decide) (by decide +kernel) (fun q => absurd q (by decide)) (fun _ => ?_)
  refine sn_aload_n (i := 0) (x := .inr (.inr i)) hx rfl (by decide +kernel) ?_
  refine st_value hx (idx := 9) (st_pick hx 1028 (by decide +kernel)) (by decide +kernel) ?_
  refine sn_iload_n (i := 1) (x := k) hx rfl (by decide +kernel) ?_
  refine sn_callSX hx (zz := zU_charAt) (idx := 495) (as := [xE (XV X i), xI k]) (st := []) (Ψ := fun o M'' h'' => o = .inl (some (xI (x_ch i k))) ∧ M'' = M' ∧ h'' = h') (st_pick hx 649 (by decide +kernel)) (st_pick hx 650 (by decide +kernel)) (by decide +kernel) (cU_charAt hi hk ⟨rfl, rfl, rfl⟩) (x_okz_in (n := 2) (pc := 651) (pi := 54) (by decide +kernel)) (Nat.le_of_ble_eq_true rfl) (by decide) (by decide) (fun M' h' q => by cases q.1) (fun v M' h' q => ?_) (fun e M' h' q => by cases q.1)
  obtain ⟨q1, rfl, rfl⟩ := q
  cases q1
  obtain ⟨n, hn'⟩ : ∃ n : Nat, x_ch i k = n := ⟨(x_ch i k).toNat, by have := x_ch_0 (k := k) hi; omega⟩
  have hr := x_ch_0 (k := k) hi
  obtain ⟨c1, c2, c3⟩ := c128 n (by omega)
  rw [hn'] at kk ⊢
  exact sn_iret hx (ty := .char) rfl c3 (by decide +kernel) (by decide) (by decide) kk
end STC
