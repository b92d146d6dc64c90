/-! the JDK's strings, walked at the machine: bytes of a constant into a row, a row's copy, the digits of a number -/
section JST
variable {X : xX} {ρ0 : Nat → Nat} {n0 : Nat} {z : xMD} {p : Program} {l : Launch} {e : Env} {R : Room} {s : State} {m : MethodId} {args : Array Value} {below : List Frame} {meth : Method} {c : Code} {Q : State → Prop} {Φ : xO → xM → xH → Prop}
variable {pc cells slots : Nat} {ls : xL} {st : List xV} {M : xM} {h : xH}
theorem st_dg1 (hx : x_Cx X z p l R s m args meth c) {idx : Nat} (w : (Cond.fieldLink (zN z).cls idx "java/lang/Integer" "DigitOnes" "[B").before args s = true) (d : decode (zB z) pc = .ok (.getstatic idx, 3)) (kk : x_Wt X ρ0 n0 (zL z) p l e R s m args below meth c Q (pc + 3) ls (xE (XK X 90) :: st) M h cells slots) : x_Wt X ρ0 n0 (zL z) p l e R s m args below meth c Q pc ls st M h cells slots := by
  intro ρ lsC H locs S
  exact va_gets hx.1 hx.2.1 hx.O.2.2.2.2.2.2.2.1.1 S.2.2.2.1 hx.own w (fun _ h => h) d (kk ρ lsC H locs (S.push (v := xE (XK X 90)) trivial))
theorem st_dg2 (hx : x_Cx X z p l R s m args meth c) {idx : Nat} (w : (Cond.fieldLink (zN z).cls idx "java/lang/Integer" "DigitTens" "[B").before args s = true) (d : decode (zB z) pc = .ok (.getstatic idx, 3)) (kk : x_Wt X ρ0 n0 (zL z) p l e R s m args below meth c Q (pc + 3) ls (xE (XK X 91) :: st) M h cells slots) : x_Wt X ρ0 n0 (zL z) p l e R s m args below meth c Q pc ls st M h cells slots := by
  intro ρ lsC H locs S
  exact va_gets hx.1 hx.2.1 hx.O.2.2.2.2.2.2.2.2.1 S.2.2.2.1 hx.own w (fun _ h => h) d (kk ρ lsC H locs (S.push (v := xE (XK X 91)) trivial))
theorem st_dl1 (hx : x_Cx X z p l R s m args meth c) {k : Int} (hk : 0 ≤ k ∧ k < 100) (d : decode (zB z) pc = .ok (.baload, 1)) (kk : x_Wt X ρ0 n0 (zL z) p l e R s m args below meth c Q (pc + 1) ls (xI (48 + k % 10) :: st) M h cells slots) : x_Wt X ρ0 n0 (zL z) p l e R s m args below meth c Q pc ls (xI k :: xE (XK X 90) :: st) M h cells slots := by
  intro ρ lsC H locs S
  have hk32 : x_i32 k := S.top
  refine va_tb hx.1 hx.2.1 hx.O.2.2.2.2.2.2.2.1.2 S.2.2.2.1 (i := Int32.ofInt k) (v := .int (Int32.ofInt (48 + k % 10))) (by simpa using i32_vin (L := 100) hk32 hk.1 hk.2) ?_ d (kk ρ lsC H locs (S.pop.pop.push (v := xI (48 + k % 10)) (by show x_i32 _; unfold x_i32; omega)))
  rw [i32_cl hk32]
  show Value.int (Int32.ofInt (48 + ((k.toNat : Nat) : Int) % 10)) = _
  rw [Int.toNat_of_nonneg hk.1]
theorem st_dl2 (hx : x_Cx X z p l R s m args meth c) {k : Int} (hk : 0 ≤ k ∧ k < 100) (d : decode (zB z) pc = .ok (.baload, 1)) (kk : x_Wt X ρ0 n0 (zL z) p l e R s m args below meth c Q (pc + 1) ls (xI (48 + k / 10) :: st) M h cells slots) : x_Wt X ρ0 n0 (zL z) p l e R s m args below meth c Q pc ls (xI k :: xE (XK X 91) :: st) M h cells slots := by
  intro ρ lsC H locs S
  have hk32 : x_i32 k := S.top
  refine va_tb hx.1 hx.2.1 hx.O.2.2.2.2.2.2.2.2.2 S.2.2.2.1 (i := Int32.ofInt k) (v := .int (Int32.ofInt (48 + k / 10))) (by simpa using i32_vin (L := 100) hk32 hk.1 hk.2) ?_ d (kk ρ lsC H locs (S.pop.pop.push (v := xI (48 + k / 10)) (by show x_i32 _; unfold x_i32; omega)))
  rw [i32_cl hk32]
  show Value.int (Int32.ofInt (48 + ((k.toNat : Nat) : Int) / 10)) = _
  rw [Int.toNat_of_nonneg hk.1]
/-- a constant's bytes into a row -/
def x_cpS (M : xM) (i d : Nat) (p : Int) : xM := fun b j => if b = d ∧ p ≤ j ∧ j < p + x_sl i then x_ch i (j - p) else M b j
theorem st_cps (hx : x_Cx X z p l R s m args meth c) {idx i b : Nat} {dp : Int} (hi : i < 22) (w1 : (Cond.methodLink (zN z).cls idx arraycopyName).before args s = true) (w2 : (Cond.native arraycopyName).before args s = true) (w3 : (Cond.static arraycopyName).before args s = true) (w4 : (Cond.initialized "java/lang/System").before args s = true) (d : decode (zB z) pc = .ok (.invokestatic idx, 3))
    (hf : 1 ≤ zF z % 1000) (ho : 8 + (nativeFrameWords "java/lang/System" "arraycopy" 5 + 11) ≤ zO z) (hst : (st.map x_cat).sum ≤ 8) (hb : hK h b = 21) (hk : 0 ≤ dp ∧ dp + x_sl i ≤ hL h b)
    (kk : x_Wt X ρ0 n0 (zL z) p l e R s m args below meth c Q (pc + 3) ls st (x_cpS M i b dp) h cells slots) : x_Wt X ρ0 n0 (zL z) p l e R s m args below meth c Q (pc) ls (xI (x_sl i) :: xI dp :: xA b :: xI 0 :: xE (XV X i) :: st) M h cells slots := by
  intro ρ lsC H locs S
  have ok := S.2.2.1.2.2
  have hr := x_sl_r i hi
  obtain ⟨b1, b2⟩ := ok.lt hb (by omega)
  have heb := x_ws_get (X := X) (ρ := ρ) (M := M) b1 b2
  rw [x_cell_i hb (Or.inr rfl)] at heb
  have hdp : x_i32 dp := S.pop.top
  have hsl : x_i32 (x_sl i) := S.top
  obtain ⟨k1, k2⟩ := hk
  show W p l e R s m args below meth c H locs cells slots Q (F0 m pc lsC (.int (Int32.ofInt (x_sl i)) :: .int (Int32.ofInt dp) :: va_rf (x_rf ρ b) :: .int (Int32.ofInt 0) :: .ref (XV X i) :: st.map (x_c X ρ)))
  rw [x_rf_s (show b ≠ 0 by omega)]
  have nz : ∀ {x : Int}, x_i32 x → 0 ≤ x → ¬ Int32.ofInt x < 0 := fun {x} hx hx0 => by rw [show (0 : Int32) = Int32.ofInt 0 from rfl, i32_lt hx i32_0]; omega
  have et : (x_sl i).toNat = x_len.getD i 0 := by unfold x_sl; rfl
  refine vk_copyt hx.1 hx.2.1 (hx.2.2.1.trans S.1.1.symm) hx.own w1 w2 w3 w4 hx.K S.2.2.1.1 S.2.2.1.2.1 S.2.2.2.1 (f := fun j => (x_byt.getD i []).getD j 0) (x_O.str hx.O hi).2.2.2 (b - 1) 1 heb rfl (nz i32_0 (Int.le_refl _)) (nz hdp k1) (nz hsl hr.1) (by rw [i32_cl i32_0, i32_cl hsl, et]; show 0 + _ ≤ _; omega) (by rw [i32_cl hdp, i32_cl hsl]; omega) (fun j hj => ?_) (by rw [hx.rm]; exact hf) (by rw [hx.rm, x_sumc]; show _ + _ ≤ zO z; omega) d (fun H1 locs1 P1 D1 S1 => ?_)
  · have h9 := x_ch_1 (k := ((0 + j : Nat) : Int)) hi
    unfold x_ch at h9
    have e9 : Int32.toNatClampNeg (Int32.ofInt 0) + j = (((0 + j : Nat) : Int)).toNat := by rw [i32_cl i32_0]; simp
    show fits .byte (.int ((x_byt.getD i []).getD (Int32.toNatClampNeg (Int32.ofInt 0) + j) 0)) = true
    rw [e9, ← Int32.ofInt_toInt ((x_byt.getD i []).getD _ 0)]
    exact x_fb (by omega) (by omega)
  rw [i32_cl i32_0, i32_cl hdp, i32_cl hsl] at P1 D1
  have e1 : (x_ws X ρ M h).set (b - 1) (ρ b, .inl (XA X (21 - 20), (hL h b).toNat, .inl (va_cpy (fun j => (x_byt.getD i []).getD j 0) (fun j : Nat => Int32.ofInt (M b j)) (0 : Int).toNat dp.toNat (x_sl i).toNat))) = x_ws X ρ (x_cpS M i b dp) h :=
    x_ws_set b1 b2 rfl (fun q hq => by
      have : ∀ j, x_cpS M i b dp q j = M q j := fun j => if_neg (fun z => hq z.1)
      unfold x_cell
      simp only [this]) (by
      rw [x_cell_i hb (Or.inr rfl)]
      congr 4
      funext j
      unfold x_cpS va_cpy
      by_cases hj : dp ≤ j ∧ (j : Int) < dp + x_sl i
      · rw [if_pos ⟨rfl, hj⟩, if_pos (by omega)]
        unfold x_ch
        rw [Int32.ofInt_toInt]
        congr 1
        simp
        omega
      · rw [if_neg (fun z => hj z.2), if_neg (by omega)])
  rw [e1] at P1 D1
  refine kk ρ lsC H1 locs1 (S.pop.pop.pop.pop.pop.mem rfl P1 D1 ?_ S1)
  obtain ⟨q1, q2, q3, q4, q5, q6⟩ := ok
  refine ⟨q1, q2, q3, q4, fun id j hid => ?_, q6⟩
  unfold x_cpS
  by_cases hj : id = b ∧ dp ≤ j ∧ j < dp + x_sl i
  · rw [if_pos hj, hj.1, hb]
    have h9 := x_ch_1 (k := j - dp) hi
    exact rng_i rfl (by unfold x_i32; omega)
  · rw [if_neg hj]
    exact q5 id j hid
/-- a row's clone -/
def x_clo (M : xM) (h : xH) (a : Nat) : xM := fun b j => if b = hn h then M a j else M b j
theorem st_clone (hx : x_Cx X z p l R s m args meth c) {idx i2 a : Nat} (w1 : (Cond.methodLink (zN z).cls idx ⟨"[B", "clone", "()Ljava/lang/Object;"⟩).before args s = true) (w2 : (Cond.sameMethod "[B" "java/lang/Object" "clone" "()Ljava/lang/Object;").before args s = true)
    (w3 : (Cond.native ⟨"java/lang/Object", "clone", "()Ljava/lang/Object;"⟩).before args s = true) (w4 : (Cond.instanceMethod ⟨"java/lang/Object", "clone", "()Ljava/lang/Object;"⟩).before args s = true) (w5 : (Cond.selects "[B" ⟨"[B", "clone", "()Ljava/lang/Object;"⟩ ⟨"java/lang/Object", "clone", "()Ljava/lang/Object;"⟩).before args s = true)
    (w6 : va_Nw (.castable "[B" "java/lang/Cloneable") s) (w7 : (Cond.classLink (zN z).cls i2 "[B").before args s = true) (d : decode (zB z) pc = .ok (.invokevirtual idx, 3)) (d2 : decode (zB z) (pc + 3) = .ok (.checkcast i2, 3))
    (hf : 1 ≤ zF z % 1000) (ho : 22 ≤ zO z) (hst : (st.map x_cat).sum ≤ 8) (ha : hK h a = 21) (hb : ∀ j : Int, 0 ≤ j → j < hL h a → -128 ≤ M a j ∧ M a j < 128) (hc : cells + 1 ≤ zC z) (hs : slots + (hL h a).toNat ≤ zS z)
    (kk : x_Wt X ρ0 n0 (zL z) p l e R s m args below meth c Q (pc + 6) ls (xA (hn h) :: st) (x_clo M h a) (x_new h 21 (hL h a)) (cells + 1) (slots + (hL h a).toNat)) : x_Wt X ρ0 n0 (zL z) p l e R s m args below meth c Q (pc) ls (xA a :: st) M h cells slots := by
  intro ρ lsC H locs S
  have ok := S.2.2.1.2.2
  obtain ⟨a1, a2⟩ := ok.lt ha (by omega)
  have hea := x_ws_get (X := X) (ρ := ρ) (M := M) a1 a2
  rw [x_cell_i ha (Or.inr rfl)] at hea
  have hlen := ok.2.2.2.1 a
  have hnm : s.vm.findClass "[B" = some (XA X 1) := (hx.K.2 1 (XA X 1, .byte) rfl).2
  show W p l e R s m args below meth c H locs cells slots Q (F0 m pc lsC (va_rf (x_rf ρ a) :: st.map (x_c X ρ)))
  rw [x_rf_s (show a ≠ 0 by omega)]
  refine va_clone hx.1 hx.2.1 (hx.2.2.1.trans S.1.1.symm) hx.own w1 w2 w3 w4 w5 w6 hx.K S.2.2.1.1 S.2.2.1.2.1 S.2.2.2.1 (x_Ag hx) (a - 1) 1 hea rfl hnm (fun i v hi => ?_) (by rw [hx.rm]; exact hf) (by rw [hx.rm, x_sumc]; show _ + 14 ≤ zO z; omega) (by rw [hx.rm]; exact hc) (by rw [hx.rm]; exact hs) d (fun q H1 K1 P1 D1 S1 => ?_)
  · have hi2 : i < (hL h a).toNat := by
      have := (Array.getElem?_eq_some_iff.mp hi).1
      simpa [vp_cell, arrV_size] using this
    have hv : v = .int (Int32.ofInt (M a i)) := by
      have h8 := arrV_read (XA X (21 - 20)) (fun j : Nat => Value.int (Int32.ofInt (M a j))) hi2
      exact Option.some.inj (hi.symm.trans h8)
    have h9 := hb i (by omega) (by omega)
    rw [hv]
    exact x_fb h9.1 h9.2
  have S9 : x_St X ρ0 n0 (zL z) s (x_ru ρ (hn h) q) lsC H1 locs ls (xA (hn h) :: st) (x_clo M h a) (x_new h 21 (hL h a)) := by
    have ok2 := ok.new (k := 21) (len := hL h a) (Or.inr ⟨by decide, by decide⟩) hlen
    have e1 : x_ws X ρ M h ++ [(q, .inl (XA X (21 - 20), (hL h a).toNat, .inl fun j => Int32.ofInt (M a j)))] = x_ws X (x_ru ρ (hn h) q) (x_clo M h a) (x_new h 21 (hL h a)) := x_ws_new ok.1 rfl (fun id hid => ⟨x_ru_o hid, by
      have h1 := x_cell_u (X := X) (ρ := ρ) (k := 21) (q := q) (len := hL h a) ok hid
      rw [← h1]
      have h2 : ∀ j, x_clo M h a id j = x_z M h id j := fun j => by
        unfold x_clo x_z
        rw [if_neg (by omega), if_neg (by omega)]
      unfold x_cell
      simp only [h2]⟩) (if_pos rfl) (by
      rw [x_cell_i (show hK (x_new h 21 (hL h a)) (hn h) = 21 from if_pos rfl) (Or.inr rfl), show hL (x_new h 21 (hL h a)) (hn h) = hL h a from if_pos rfl]
      congr 4
      funext j
      show Int32.ofInt (if hn h = hn h then M a j else M (hn h) j) = _
      rw [if_pos rfl])
    have S0 := S.pop
    rw [e1] at P1 D1
    refine ⟨⟨S0.1.1, S0.1.2.1, fun i v hi => ⟨by rw [x_c_u (S0.loc hi).2]; exact (S0.loc hi).1, (S0.loc hi).2.grow (Nat.le_succ _)⟩⟩, fun v hv => ?_, ⟨P1, D1, ?_⟩, S1, fun id hid => ?_, Nat.le_trans S0.2.2.2.2.2 (Nat.le_succ _)⟩
    · rcases List.mem_cons.mp hv with rfl | hv
      · exact Nat.lt_succ_self _
      · exact (S0.2.1 v hv).grow (Nat.le_succ _)
    · obtain ⟨q1, q2, q3, q4, q5, q6⟩ := ok2
      refine ⟨q1, q2, q3, q4, fun id j hid => ?_, q6⟩
      by_cases hj : id = hn h
      · subst hj
        rw [show hK (x_new h 21 (hL h a)) (hn h) = 21 from if_pos rfl]
        have h9 := ok.2.2.2.2.1 a j (by omega)
        rw [ha] at h9
        show x_rng 21 j (if hn h = hn h then M a j else M (hn h) j)
        rw [if_pos rfl]
        exact h9
      · have h9 := q5 id j hid
        have h2 : x_clo M h a id j = x_z M h id j := by
          unfold x_clo x_z
          rw [if_neg hj, if_neg hj]
        rw [h2]
        exact h9
    · rw [x_ru_o (Nat.lt_of_lt_of_le hid S0.2.2.2.2.2)]
      exact S0.2.2.2.2.1 id hid
  have k1 := kk _ lsC H1 locs S9
  have e2 : (xA (hn h) :: st).map (x_c X (x_ru ρ (hn h) q)) = .ref q :: st.map (x_c X ρ) := by
    rw [List.map_cons, x_map_u (fun v hv => S.2.1 v (List.mem_cons_of_mem _ hv))]
    congr 1
    show va_rf (x_rf (x_ru ρ (hn h) q) (hn h)) = _
    rw [x_rf_s (show hn h ≠ 0 by omega)]
    show va_rf (some (if hn h = hn h then q else ρ (hn h))) = _
    rw [if_pos rfl]
    rfl
  rw [e2] at k1
  have hlen2 : (x_ws X ρ M h).length = hn h - 1 := by unfold x_ws; simp
  exact va_castA hx.1 hx.2.1 hx.own w7 P1 (hn h - 1) (by rw [List.getElem?_append_right (by omega), hlen2, Nat.sub_self]; rfl) hnm d2 k1
end JST
section JSTC
variable {M : xM} {h : xH} {Φ : xO → xM → xH → Prop}
set_option maxHeartbeats 1000000
theorem x_cat_w {z : xMD} {q : Nat} (w : Jvm.Cond) (h : x_hasO q w = true) {X : xX} {p : Program} {l : Launch} {R : Room} {s : State} {m : MethodId} {args : Array Value} {meth : Method} {c : Code} (hx : x_Cx X z p l R s m args meth c) : va_Nw w s := hx.O.2.2.1.1 w (x_hasO_in h).1 (x_hasO_in h).2
theorem cT_getBytesS {i d : Nat} {pp : Int} (hi : i < 22) (hd : hK h d = 21) (hp : 0 ≤ pp ∧ pp + x_sl i ≤ hL h d) (h32 : x_i32 pp) (kk : Φ (.inl none) (x_cpS M i d pp) h) : x_Cal zT_getBytes [xS i, xA d, xI pp, xI 0] M h Φ := by
  refine x_metW (by decide) (by decide) (Nat.le_of_ble_eq_true rfl) ?_
  intro X ρ0 p l e s m args below meth c hx
  have hr := x_sl_r i hi
  refine sn_aload_n (i := 0) (x := .inr (.inr i)) hx rfl (by decide +kernel) ?_
  refine sn_callVS hx (zz := zT_coder) (idx := 335) (as := []) (st := []) (Ψ := fun o M' h' => o = .inl (some (xI 0)) ∧ M' = M ∧ h' = h) (st_pick hx 635 (by decide +kernel)) (st_pick hx 636 (by decide +kernel)) (st_pick hx 637 (by decide +kernel)) (by decide +kernel) (cT_coder ⟨rfl, rfl, rfl⟩) (x_okv_in (pc := 638) (pi := 48) (by decide +kernel)) (Nat.le_of_ble_eq_true rfl) (by decide) (by decide) (fun M' h' q => by cases q.1) (fun v M' h' q => ?_) (fun e M' h' q => by cases q.1)
  obtain ⟨q1, rfl, rfl⟩ := q
  cases q1
  refine sn_iload_n (i := 3) (x := 0) hx rfl (by decide +kernel) ?_
  refine sn_icmp_ne hx (o := 23) (t := 28) (by decide) (by decide +kernel) (fun q => absurd rfl q) (fun _ => ?_)
  refine sn_aload_n (i := 0) (x := .inr (.inr i)) hx rfl (by decide +kernel) ?_
  refine st_value hx (idx := 9) (st_pick hx 1028 (by decide +kernel)) (by decide +kernel) ?_
  refine sn_iconst hx (k := 0) ⟨by decide, by decide⟩ (by decide +kernel) ?_
  refine sn_aload_n (i := 1) (x := .inl d) hx rfl (by decide +kernel) ?_
  refine sn_iload_n (i := 2) (x := pp) hx rfl (by decide +kernel) ?_
  refine sn_iload_n (i := 3) (x := 0) hx rfl (by decide +kernel) ?_
  refine sn_ishl hx (by decide +kernel) ?_
  have e1 : x_shl pp 0 = pp := by
    unfold x_shl
    rw [show (Int32.ofInt 0 &&& 31 : Int32) = 0 from by decide, Int32.shiftLeft_zero, i32_to h32]
  rw [e1]
  refine sn_aload_n (i := 0) (x := .inr (.inr i)) hx rfl (by decide +kernel) ?_
  refine st_value hx (idx := 9) (st_pick hx 1028 (by decide +kernel)) (by decide +kernel) ?_
  refine st_vlen hx hi (by decide +kernel) ?_
  refine st_cps hx (idx := 212) hi (st_pick hx 933 (by decide +kernel)) (st_pick hx 520 (by decide +kernel)) (st_pick hx 519 (by decide +kernel)) (st_pick hx 52 (by decide +kernel)) (by decide +kernel) (by decide) (by decide) (Nat.le_of_ble_eq_true rfl) hd hp ?_
  refine sn_goto hx (o := 18) (t := 43) (by decide) (by decide +kernel) ?_
  exact sn_vret hx rfl (by decide +kernel) (by decide) (by decide) kk
end JSTC
