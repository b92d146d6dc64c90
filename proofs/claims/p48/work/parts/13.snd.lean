theorem x_tag0 {t : FieldType} (h : x_tag t = 0) : t = .int := by cases t <;> simp [x_tag] at h <;> rfl
theorem x_tag1 {t : FieldType} (h : x_tag t = 1) : t = .long := by cases t <;> simp [x_tag] at h <;> rfl
theorem x_fv2 {t : FieldType} (h : x_tag t = 2) {ρ : Nat → Nat} {m : Int} {r : Nat} {X : xX} : x_fv ρ t m r = x_c X ρ (xA r) := by cases t <;> simp [x_tag] at h <;> rfl
theorem x_nar2 {t : FieldType} (h : x_tag t = 2) {ρ : Nat → Nat} {r : Nat} (X : xX) : narrow t (x_c X ρ (xA r)) = x_c X ρ (xA r) := by
  show narrow t (va_rf (x_rf ρ r)) = va_rf (x_rf ρ r)
  generalize x_rf ρ r = y
  cases t <;> simp [x_tag] at h <;> cases y <;> rfl
theorem x_fit2 {t : FieldType} (h : x_tag t = 2) {ρ : Nat → Nat} {r : Nat} (X : xX) : fits t (x_c X ρ (xA r)) = true := by
  show fits t (va_rf (x_rf ρ r)) = true
  generalize x_rf ρ r = y
  cases t <;> simp [x_tag] at h <;> cases y <;> rfl
theorem x_isl_i {q i : Nat} (hq : q < 10) (h : x_ty q i = .int) : x_isl q i = false := by
  unfold x_isl
  by_cases h8 : q = 8
  · subst h8
    rw [Int.toNat_natCast, h]
    rfl
  · (simp [h8]) <;> omega
theorem x_isl_tab : ∀ q, q < 10 → ∀ i, i < x_N q → (x_ty q i == .long) = true → q = 8 := by decide +kernel
theorem x_isl_l {q i : Nat} (hq : q < 10) (hi : i < x_N q) (h : x_ty q i = .long) : x_isl q i = true := by
  have h8 := x_isl_tab q hq i hi (by rw [h]; rfl)
  subst h8
  unfold x_isl
  rw [Int.toNat_natCast, h]
  rfl
theorem x_tag3 {t : FieldType} (h : x_tag t = 3) : t = .byte := by cases t <;> simp [x_tag] at h <;> rfl
theorem x_isl_b {q i : Nat} (hq : q < 10) (h : x_ty q i = .byte) : x_isl q i = false := by
  unfold x_isl
  by_cases h8 : q = 8
  · subst h8
    rw [Int.toNat_natCast, h]
    rfl
  · (simp [h8]) <;> omega
theorem x_w8f {v : Int} (h : w8 v = v) : -128 ≤ v ∧ v < 128 := by
  have h1 := Int.le_bmod (x := v) (m := 256) (by decide)
  have h2 := Int.bmod_lt (x := v) (m := 256) (by decide)
  unfold w8 at h
  rw [h] at h1 h2
  omega
theorem x_nb {v : Int} (h : w8 v = v) : narrow .byte (.int (Int32.ofInt v)) = .int (Int32.ofInt v) := by
  obtain ⟨h1, h2⟩ := x_w8f h
  have key : ∀ y : Nat, y < 256 → narrow .byte (.int (Int32.ofInt ((y : Int) - 128))) = .int (Int32.ofInt ((y : Int) - 128)) := by decide +kernel
  have := key (v + 128).toNat (by omega)
  rw [show (((v + 128).toNat : Nat) : Int) - 128 = v by omega] at this
  exact this
section SS
variable {X : xX} {ρ0 : Nat → Nat} {n0 : Nat} {z : xMD} {p : Program} {l : Launch} {e : Env} {R : Room} {s : State} {m : MethodId} {args : Array Value} {below : List Frame} {meth : Method} {c : Code} {Φ : xO → xM → xH → Prop}
variable {pc cells slots len : Nat} {ls : xL} {st : List xV} {M : xM} {h : xH} {J : xJT} {is : List xPI} {k : List Nat} {zs : List xMD} {sc : xSc}
theorem ss_iconst (hx : x_Cx X z p l R s m args meth c) {x : Int} (hk : x_ok1 z pc len (.iconst x) k zs = true) (d : decode (zB z) pc = .ok ((.iconst x), len)) (hc : cells ≤ zC z) (hs : slots ≤ zS z) (hw : wpL x_Cal (zC z, zS z, x_rtc (zR z), sc) J Φ (((.iconst x), k, zs) :: is) ls st M h cells slots)
    (hN : ∀ ls st M h c' n', c' ≤ zC z → n' ≤ zS z → wpL x_Cal (zC z, zS z, x_rtc (zR z), sc) J Φ is ls st M h c' n' → x_Wt X ρ0 n0 (zL z) p l e R s m args below meth c (x_Q X ρ0 n0 Φ below args s z) (pc + len) ls st M h c' n')
    (hJ : ∀ t ls st M h c' n', c' ≤ zC z → n' ≤ zS z → J t ls st M h c' n' → x_Wt X ρ0 n0 (zL z) p l e R s m args below meth c (x_Q X ρ0 n0 Φ below args s z) (t) ls st M h c' n') : x_Wt X ρ0 n0 (zL z) p l e R s m args below meth c (x_Q X ρ0 n0 Φ below args s z) (pc) ls st M h cells slots := by
  simp only [x_ok1, Bool.and_eq_true, decide_eq_true_eq, beq_iff_eq] at hk
  obtain ⟨h1, rfl⟩ := hk
  simp only [wpL] at hw
  exact sn_iconst hx (x_in32_in h1) d (hN _ _ _ _ _ _ hc hs hw)
theorem ss_bipush (hx : x_Cx X z p l R s m args meth c) {x : Int} (hk : x_ok1 z pc len (.bipush x) k zs = true) (d : decode (zB z) pc = .ok ((.bipush x), len)) (hc : cells ≤ zC z) (hs : slots ≤ zS z) (hw : wpL x_Cal (zC z, zS z, x_rtc (zR z), sc) J Φ (((.bipush x), k, zs) :: is) ls st M h cells slots)
    (hN : ∀ ls st M h c' n', c' ≤ zC z → n' ≤ zS z → wpL x_Cal (zC z, zS z, x_rtc (zR z), sc) J Φ is ls st M h c' n' → x_Wt X ρ0 n0 (zL z) p l e R s m args below meth c (x_Q X ρ0 n0 Φ below args s z) (pc + len) ls st M h c' n')
    (hJ : ∀ t ls st M h c' n', c' ≤ zC z → n' ≤ zS z → J t ls st M h c' n' → x_Wt X ρ0 n0 (zL z) p l e R s m args below meth c (x_Q X ρ0 n0 Φ below args s z) (t) ls st M h c' n') : x_Wt X ρ0 n0 (zL z) p l e R s m args below meth c (x_Q X ρ0 n0 Φ below args s z) (pc) ls st M h cells slots := by
  simp only [x_ok1, Bool.and_eq_true, decide_eq_true_eq, beq_iff_eq] at hk
  obtain ⟨h1, h2, rfl⟩ := hk
  simp only [wpL] at hw
  exact sn_bipush hx (x_in32_in h1) h2 d (hN _ _ _ _ _ _ hc hs hw)
theorem ss_sipush (hx : x_Cx X z p l R s m args meth c) {x : Int} (hk : x_ok1 z pc len (.sipush x) k zs = true) (d : decode (zB z) pc = .ok ((.sipush x), len)) (hc : cells ≤ zC z) (hs : slots ≤ zS z) (hw : wpL x_Cal (zC z, zS z, x_rtc (zR z), sc) J Φ (((.sipush x), k, zs) :: is) ls st M h cells slots)
    (hN : ∀ ls st M h c' n', c' ≤ zC z → n' ≤ zS z → wpL x_Cal (zC z, zS z, x_rtc (zR z), sc) J Φ is ls st M h c' n' → x_Wt X ρ0 n0 (zL z) p l e R s m args below meth c (x_Q X ρ0 n0 Φ below args s z) (pc + len) ls st M h c' n')
    (hJ : ∀ t ls st M h c' n', c' ≤ zC z → n' ≤ zS z → J t ls st M h c' n' → x_Wt X ρ0 n0 (zL z) p l e R s m args below meth c (x_Q X ρ0 n0 Φ below args s z) (t) ls st M h c' n') : x_Wt X ρ0 n0 (zL z) p l e R s m args below meth c (x_Q X ρ0 n0 Φ below args s z) (pc) ls st M h cells slots := by
  simp only [x_ok1, Bool.and_eq_true, decide_eq_true_eq, beq_iff_eq] at hk
  obtain ⟨h1, h2, rfl⟩ := hk
  simp only [wpL] at hw
  exact sn_sipush hx (x_in32_in h1) h2 d (hN _ _ _ _ _ _ hc hs hw)
theorem ss_lconst (hx : x_Cx X z p l R s m args meth c) {x : Fin 2} (hk : x_ok1 z pc len (.lconst x) k zs = true) (d : decode (zB z) pc = .ok ((.lconst x), len)) (hc : cells ≤ zC z) (hs : slots ≤ zS z) (hw : wpL x_Cal (zC z, zS z, x_rtc (zR z), sc) J Φ (((.lconst x), k, zs) :: is) ls st M h cells slots)
    (hN : ∀ ls st M h c' n', c' ≤ zC z → n' ≤ zS z → wpL x_Cal (zC z, zS z, x_rtc (zR z), sc) J Φ is ls st M h c' n' → x_Wt X ρ0 n0 (zL z) p l e R s m args below meth c (x_Q X ρ0 n0 Φ below args s z) (pc + len) ls st M h c' n')
    (hJ : ∀ t ls st M h c' n', c' ≤ zC z → n' ≤ zS z → J t ls st M h c' n' → x_Wt X ρ0 n0 (zL z) p l e R s m args below meth c (x_Q X ρ0 n0 Φ below args s z) (t) ls st M h c' n') : x_Wt X ρ0 n0 (zL z) p l e R s m args below meth c (x_Q X ρ0 n0 Φ below args s z) (pc) ls st M h cells slots := by
  simp only [x_ok1, Bool.and_eq_true, decide_eq_true_eq, beq_iff_eq] at hk
  subst hk
  simp only [wpL] at hw
  exact sn_lconst hx d (hN _ _ _ _ _ _ hc hs hw)
theorem ss_null (hx : x_Cx X z p l R s m args meth c) (hk : x_ok1 z pc len .aconst_null k zs = true) (d : decode (zB z) pc = .ok (.aconst_null, len)) (hc : cells ≤ zC z) (hs : slots ≤ zS z) (hw : wpL x_Cal (zC z, zS z, x_rtc (zR z), sc) J Φ ((.aconst_null, k, zs) :: is) ls st M h cells slots)
    (hN : ∀ ls st M h c' n', c' ≤ zC z → n' ≤ zS z → wpL x_Cal (zC z, zS z, x_rtc (zR z), sc) J Φ is ls st M h c' n' → x_Wt X ρ0 n0 (zL z) p l e R s m args below meth c (x_Q X ρ0 n0 Φ below args s z) (pc + len) ls st M h c' n')
    (hJ : ∀ t ls st M h c' n', c' ≤ zC z → n' ≤ zS z → J t ls st M h c' n' → x_Wt X ρ0 n0 (zL z) p l e R s m args below meth c (x_Q X ρ0 n0 Φ below args s z) (t) ls st M h c' n') : x_Wt X ρ0 n0 (zL z) p l e R s m args below meth c (x_Q X ρ0 n0 Φ below args s z) (pc) ls st M h cells slots := by
  simp only [x_ok1, Bool.and_eq_true, decide_eq_true_eq, beq_iff_eq] at hk
  subst hk
  simp only [wpL] at hw
  exact sn_null hx d (hN _ _ _ _ _ _ hc hs hw)
theorem ss_ldc (hx : x_Cx X z p l R s m args meth c) {i : Nat} (hk : x_ok1 z pc len (.ldc i) k zs = true) (d : decode (zB z) pc = .ok ((.ldc i), len)) (hc : cells ≤ zC z) (hs : slots ≤ zS z) (hw : wpL x_Cal (zC z, zS z, x_rtc (zR z), sc) J Φ (((.ldc i), k, zs) :: is) ls st M h cells slots)
    (hN : ∀ ls st M h c' n', c' ≤ zC z → n' ≤ zS z → wpL x_Cal (zC z, zS z, x_rtc (zR z), sc) J Φ is ls st M h c' n' → x_Wt X ρ0 n0 (zL z) p l e R s m args below meth c (x_Q X ρ0 n0 Φ below args s z) (pc + len) ls st M h c' n')
    (hJ : ∀ t ls st M h c' n', c' ≤ zC z → n' ≤ zS z → J t ls st M h c' n' → x_Wt X ρ0 n0 (zL z) p l e R s m args below meth c (x_Q X ρ0 n0 Φ below args s z) (t) ls st M h c' n') : x_Wt X ρ0 n0 (zL z) p l e R s m args below meth c (x_Q X ρ0 n0 Φ below args s z) (pc) ls st M h cells slots := by
  simp only [wpL] at hw
  split at hw
  · rename_i v k
    cases k with
    | nil => exact absurd hk (by simp [x_ok1])
    | cons q k =>
      simp only [x_ok1, Bool.and_eq_true, decide_eq_true_eq, beq_iff_eq] at hk
      obtain ⟨h1, h2, rfl⟩ := hk
      intro ρ lsC H locs S
      exact lv_ldc (v := Int32.ofInt v) hx.1 hx.2.1 hx.own (by rw [Int32.ofInt_eq_ofNat]; exact hx.hts _ (x_has_in h1)) d (hN _ _ _ _ _ _ hc hs hw ρ lsC H locs (S.push (v := xI v) (by show x_i32 _; unfold x_i32; omega)))
  · rename_i v k
    simp only [x_ok1] at hk
    cases hq : x_str[v]? with
    | none => rw [hq] at hk; exact absurd hk (by simp)
    | some q =>
      rw [hq] at hk
      simp only [Bool.and_eq_true, decide_eq_true_eq, beq_iff_eq] at hk
      obtain ⟨h1, h2, rfl⟩ := hk
      intro ρ lsC H locs S
      have hv : v < 22 := (List.getElem?_eq_some_iff.mp hq).1
      exact va_ldcS hx.1 hx.2.1 hx.own (tx := q.2.2) (q := XK X v) (by have := hx.O.2.2.2.1.2 v q hq; rw [h1, h2] at this; exact this) d (hN _ _ _ _ _ _ hc hs hw ρ lsC H locs (S.push (v := xS v) hv))
  · exact hw.elim
theorem ss_ldcl (hx : x_Cx X z p l R s m args meth c) {i : Nat} (hk : x_ok1 z pc len (.ldc2_w i) k zs = true) (d : decode (zB z) pc = .ok ((.ldc2_w i), len)) (hc : cells ≤ zC z) (hs : slots ≤ zS z) (hw : wpL x_Cal (zC z, zS z, x_rtc (zR z), sc) J Φ (((.ldc2_w i), k, zs) :: is) ls st M h cells slots)
    (hN : ∀ ls st M h c' n', c' ≤ zC z → n' ≤ zS z → wpL x_Cal (zC z, zS z, x_rtc (zR z), sc) J Φ is ls st M h c' n' → x_Wt X ρ0 n0 (zL z) p l e R s m args below meth c (x_Q X ρ0 n0 Φ below args s z) (pc + len) ls st M h c' n')
    (hJ : ∀ t ls st M h c' n', c' ≤ zC z → n' ≤ zS z → J t ls st M h c' n' → x_Wt X ρ0 n0 (zL z) p l e R s m args below meth c (x_Q X ρ0 n0 Φ below args s z) (t) ls st M h c' n') : x_Wt X ρ0 n0 (zL z) p l e R s m args below meth c (x_Q X ρ0 n0 Φ below args s z) (pc) ls st M h cells slots := by
  simp only [wpL] at hw
  split at hw
  · rename_i v k
    cases k with
    | nil => exact absurd hk (by simp [x_ok1])
    | cons q k =>
      simp only [x_ok1, Bool.and_eq_true, decide_eq_true_eq, beq_iff_eq] at hk
      obtain ⟨h1, h2, rfl⟩ := hk
      intro ρ lsC H locs S
      exact lv_ldc2 (v := Int64.ofInt v) hx.1 hx.2.1 hx.own (by rw [Int64.ofInt_eq_ofNat]; exact hx.hts _ (x_has_in h1)) d (hN _ _ _ _ _ _ hc hs hw ρ lsC H locs (S.push (v := xJ v) (by show x_i64 _; unfold x_i64; omega)))
  · exact hw.elim
theorem ss_iload (hx : x_Cx X z p l R s m args meth c) {i : Nat} (hk : x_ok1 z pc len (.iload i) k zs = true) (d : decode (zB z) pc = .ok ((.iload i), len)) (hc : cells ≤ zC z) (hs : slots ≤ zS z) (hw : wpL x_Cal (zC z, zS z, x_rtc (zR z), sc) J Φ (((.iload i), k, zs) :: is) ls st M h cells slots)
    (hN : ∀ ls st M h c' n', c' ≤ zC z → n' ≤ zS z → wpL x_Cal (zC z, zS z, x_rtc (zR z), sc) J Φ is ls st M h c' n' → x_Wt X ρ0 n0 (zL z) p l e R s m args below meth c (x_Q X ρ0 n0 Φ below args s z) (pc + len) ls st M h c' n')
    (hJ : ∀ t ls st M h c' n', c' ≤ zC z → n' ≤ zS z → J t ls st M h c' n' → x_Wt X ρ0 n0 (zL z) p l e R s m args below meth c (x_Q X ρ0 n0 Φ below args s z) (t) ls st M h c' n') : x_Wt X ρ0 n0 (zL z) p l e R s m args below meth c (x_Q X ρ0 n0 Φ below args s z) (pc) ls st M h cells slots := by
  simp only [x_ok1, beq_iff_eq] at hk
  subst hk
  simp only [wpL] at hw
  split at hw
  · rename_i hl
    exact sn_iload hx hl d (hN _ _ _ _ _ _ hc hs hw)
  · exact hw.elim
theorem ss_iload_n (hx : x_Cx X z p l R s m args meth c) {i : Fin 4} (hk : x_ok1 z pc len (.iload_n i) k zs = true) (d : decode (zB z) pc = .ok ((.iload_n i), len)) (hc : cells ≤ zC z) (hs : slots ≤ zS z) (hw : wpL x_Cal (zC z, zS z, x_rtc (zR z), sc) J Φ (((.iload_n i), k, zs) :: is) ls st M h cells slots)
    (hN : ∀ ls st M h c' n', c' ≤ zC z → n' ≤ zS z → wpL x_Cal (zC z, zS z, x_rtc (zR z), sc) J Φ is ls st M h c' n' → x_Wt X ρ0 n0 (zL z) p l e R s m args below meth c (x_Q X ρ0 n0 Φ below args s z) (pc + len) ls st M h c' n')
    (hJ : ∀ t ls st M h c' n', c' ≤ zC z → n' ≤ zS z → J t ls st M h c' n' → x_Wt X ρ0 n0 (zL z) p l e R s m args below meth c (x_Q X ρ0 n0 Φ below args s z) (t) ls st M h c' n') : x_Wt X ρ0 n0 (zL z) p l e R s m args below meth c (x_Q X ρ0 n0 Φ below args s z) (pc) ls st M h cells slots := by
  simp only [x_ok1, beq_iff_eq] at hk
  subst hk
  simp only [wpL] at hw
  split at hw
  · rename_i hl
    exact sn_iload_n hx hl d (hN _ _ _ _ _ _ hc hs hw)
  · exact hw.elim
theorem ss_lload (hx : x_Cx X z p l R s m args meth c) {i : Nat} (hk : x_ok1 z pc len (.lload i) k zs = true) (d : decode (zB z) pc = .ok ((.lload i), len)) (hc : cells ≤ zC z) (hs : slots ≤ zS z) (hw : wpL x_Cal (zC z, zS z, x_rtc (zR z), sc) J Φ (((.lload i), k, zs) :: is) ls st M h cells slots)
    (hN : ∀ ls st M h c' n', c' ≤ zC z → n' ≤ zS z → wpL x_Cal (zC z, zS z, x_rtc (zR z), sc) J Φ is ls st M h c' n' → x_Wt X ρ0 n0 (zL z) p l e R s m args below meth c (x_Q X ρ0 n0 Φ below args s z) (pc + len) ls st M h c' n')
    (hJ : ∀ t ls st M h c' n', c' ≤ zC z → n' ≤ zS z → J t ls st M h c' n' → x_Wt X ρ0 n0 (zL z) p l e R s m args below meth c (x_Q X ρ0 n0 Φ below args s z) (t) ls st M h c' n') : x_Wt X ρ0 n0 (zL z) p l e R s m args below meth c (x_Q X ρ0 n0 Φ below args s z) (pc) ls st M h cells slots := by
  simp only [x_ok1, beq_iff_eq] at hk
  subst hk
  simp only [wpL] at hw
  split at hw
  · rename_i hl
    exact sn_lload hx hl d (hN _ _ _ _ _ _ hc hs hw)
  · exact hw.elim
theorem ss_lload_n (hx : x_Cx X z p l R s m args meth c) {i : Fin 4} (hk : x_ok1 z pc len (.lload_n i) k zs = true) (d : decode (zB z) pc = .ok ((.lload_n i), len)) (hc : cells ≤ zC z) (hs : slots ≤ zS z) (hw : wpL x_Cal (zC z, zS z, x_rtc (zR z), sc) J Φ (((.lload_n i), k, zs) :: is) ls st M h cells slots)
    (hN : ∀ ls st M h c' n', c' ≤ zC z → n' ≤ zS z → wpL x_Cal (zC z, zS z, x_rtc (zR z), sc) J Φ is ls st M h c' n' → x_Wt X ρ0 n0 (zL z) p l e R s m args below meth c (x_Q X ρ0 n0 Φ below args s z) (pc + len) ls st M h c' n')
    (hJ : ∀ t ls st M h c' n', c' ≤ zC z → n' ≤ zS z → J t ls st M h c' n' → x_Wt X ρ0 n0 (zL z) p l e R s m args below meth c (x_Q X ρ0 n0 Φ below args s z) (t) ls st M h c' n') : x_Wt X ρ0 n0 (zL z) p l e R s m args below meth c (x_Q X ρ0 n0 Φ below args s z) (pc) ls st M h cells slots := by
  simp only [x_ok1, beq_iff_eq] at hk
  subst hk
  simp only [wpL] at hw
  split at hw
  · rename_i hl
    exact sn_lload_n hx hl d (hN _ _ _ _ _ _ hc hs hw)
  · exact hw.elim
theorem ss_aload (hx : x_Cx X z p l R s m args meth c) {i : Nat} (hk : x_ok1 z pc len (.aload i) k zs = true) (d : decode (zB z) pc = .ok ((.aload i), len)) (hc : cells ≤ zC z) (hs : slots ≤ zS z) (hw : wpL x_Cal (zC z, zS z, x_rtc (zR z), sc) J Φ (((.aload i), k, zs) :: is) ls st M h cells slots)
    (hN : ∀ ls st M h c' n', c' ≤ zC z → n' ≤ zS z → wpL x_Cal (zC z, zS z, x_rtc (zR z), sc) J Φ is ls st M h c' n' → x_Wt X ρ0 n0 (zL z) p l e R s m args below meth c (x_Q X ρ0 n0 Φ below args s z) (pc + len) ls st M h c' n')
    (hJ : ∀ t ls st M h c' n', c' ≤ zC z → n' ≤ zS z → J t ls st M h c' n' → x_Wt X ρ0 n0 (zL z) p l e R s m args below meth c (x_Q X ρ0 n0 Φ below args s z) (t) ls st M h c' n') : x_Wt X ρ0 n0 (zL z) p l e R s m args below meth c (x_Q X ρ0 n0 Φ below args s z) (pc) ls st M h cells slots := by
  simp only [x_ok1, beq_iff_eq] at hk
  subst hk
  simp only [wpL] at hw
  split at hw
  · rename_i hl
    exact sn_aload hx hl d (hN _ _ _ _ _ _ hc hs hw)
  · exact hw.elim
theorem ss_aload_n (hx : x_Cx X z p l R s m args meth c) {i : Fin 4} (hk : x_ok1 z pc len (.aload_n i) k zs = true) (d : decode (zB z) pc = .ok ((.aload_n i), len)) (hc : cells ≤ zC z) (hs : slots ≤ zS z) (hw : wpL x_Cal (zC z, zS z, x_rtc (zR z), sc) J Φ (((.aload_n i), k, zs) :: is) ls st M h cells slots)
    (hN : ∀ ls st M h c' n', c' ≤ zC z → n' ≤ zS z → wpL x_Cal (zC z, zS z, x_rtc (zR z), sc) J Φ is ls st M h c' n' → x_Wt X ρ0 n0 (zL z) p l e R s m args below meth c (x_Q X ρ0 n0 Φ below args s z) (pc + len) ls st M h c' n')
    (hJ : ∀ t ls st M h c' n', c' ≤ zC z → n' ≤ zS z → J t ls st M h c' n' → x_Wt X ρ0 n0 (zL z) p l e R s m args below meth c (x_Q X ρ0 n0 Φ below args s z) (t) ls st M h c' n') : x_Wt X ρ0 n0 (zL z) p l e R s m args below meth c (x_Q X ρ0 n0 Φ below args s z) (pc) ls st M h cells slots := by
  simp only [x_ok1, beq_iff_eq] at hk
  subst hk
  simp only [wpL] at hw
  split at hw
  · rename_i hl
    exact sn_aload_n hx hl d (hN _ _ _ _ _ _ hc hs hw)
  · exact hw.elim
theorem ss_istore (hx : x_Cx X z p l R s m args meth c) {i : Nat} (hk : x_ok1 z pc len (.istore i) k zs = true) (d : decode (zB z) pc = .ok ((.istore i), len)) (hc : cells ≤ zC z) (hs : slots ≤ zS z) (hw : wpL x_Cal (zC z, zS z, x_rtc (zR z), sc) J Φ (((.istore i), k, zs) :: is) ls st M h cells slots)
    (hN : ∀ ls st M h c' n', c' ≤ zC z → n' ≤ zS z → wpL x_Cal (zC z, zS z, x_rtc (zR z), sc) J Φ is ls st M h c' n' → x_Wt X ρ0 n0 (zL z) p l e R s m args below meth c (x_Q X ρ0 n0 Φ below args s z) (pc + len) ls st M h c' n')
    (hJ : ∀ t ls st M h c' n', c' ≤ zC z → n' ≤ zS z → J t ls st M h c' n' → x_Wt X ρ0 n0 (zL z) p l e R s m args below meth c (x_Q X ρ0 n0 Φ below args s z) (t) ls st M h c' n') : x_Wt X ρ0 n0 (zL z) p l e R s m args below meth c (x_Q X ρ0 n0 Φ below args s z) (pc) ls st M h cells slots := by
  simp only [x_ok1, Bool.and_eq_true, decide_eq_true_eq, beq_iff_eq] at hk
  obtain ⟨h1, rfl⟩ := hk
  simp only [wpL] at hw
  split at hw
  · exact sn_istore hx h1 d (hN _ _ _ _ _ _ hc hs hw)
  · exact hw.elim
theorem ss_istore_n (hx : x_Cx X z p l R s m args meth c) {i : Fin 4} (hk : x_ok1 z pc len (.istore_n i) k zs = true) (d : decode (zB z) pc = .ok ((.istore_n i), len)) (hc : cells ≤ zC z) (hs : slots ≤ zS z) (hw : wpL x_Cal (zC z, zS z, x_rtc (zR z), sc) J Φ (((.istore_n i), k, zs) :: is) ls st M h cells slots)
    (hN : ∀ ls st M h c' n', c' ≤ zC z → n' ≤ zS z → wpL x_Cal (zC z, zS z, x_rtc (zR z), sc) J Φ is ls st M h c' n' → x_Wt X ρ0 n0 (zL z) p l e R s m args below meth c (x_Q X ρ0 n0 Φ below args s z) (pc + len) ls st M h c' n')
    (hJ : ∀ t ls st M h c' n', c' ≤ zC z → n' ≤ zS z → J t ls st M h c' n' → x_Wt X ρ0 n0 (zL z) p l e R s m args below meth c (x_Q X ρ0 n0 Φ below args s z) (t) ls st M h c' n') : x_Wt X ρ0 n0 (zL z) p l e R s m args below meth c (x_Q X ρ0 n0 Φ below args s z) (pc) ls st M h cells slots := by
  simp only [x_ok1, Bool.and_eq_true, decide_eq_true_eq, beq_iff_eq] at hk
  obtain ⟨h1, rfl⟩ := hk
  simp only [wpL] at hw
  split at hw
  · exact sn_istore_n hx h1 d (hN _ _ _ _ _ _ hc hs hw)
  · exact hw.elim
theorem ss_lstore (hx : x_Cx X z p l R s m args meth c) {i : Nat} (hk : x_ok1 z pc len (.lstore i) k zs = true) (d : decode (zB z) pc = .ok ((.lstore i), len)) (hc : cells ≤ zC z) (hs : slots ≤ zS z) (hw : wpL x_Cal (zC z, zS z, x_rtc (zR z), sc) J Φ (((.lstore i), k, zs) :: is) ls st M h cells slots)
    (hN : ∀ ls st M h c' n', c' ≤ zC z → n' ≤ zS z → wpL x_Cal (zC z, zS z, x_rtc (zR z), sc) J Φ is ls st M h c' n' → x_Wt X ρ0 n0 (zL z) p l e R s m args below meth c (x_Q X ρ0 n0 Φ below args s z) (pc + len) ls st M h c' n')
    (hJ : ∀ t ls st M h c' n', c' ≤ zC z → n' ≤ zS z → J t ls st M h c' n' → x_Wt X ρ0 n0 (zL z) p l e R s m args below meth c (x_Q X ρ0 n0 Φ below args s z) (t) ls st M h c' n') : x_Wt X ρ0 n0 (zL z) p l e R s m args below meth c (x_Q X ρ0 n0 Φ below args s z) (pc) ls st M h cells slots := by
  simp only [x_ok1, Bool.and_eq_true, decide_eq_true_eq, beq_iff_eq] at hk
  obtain ⟨h1, rfl⟩ := hk
  simp only [wpL] at hw
  split at hw
  · exact sn_lstore hx h1 d (hN _ _ _ _ _ _ hc hs hw)
  · exact hw.elim
theorem ss_lstore_n (hx : x_Cx X z p l R s m args meth c) {i : Fin 4} (hk : x_ok1 z pc len (.lstore_n i) k zs = true) (d : decode (zB z) pc = .ok ((.lstore_n i), len)) (hc : cells ≤ zC z) (hs : slots ≤ zS z) (hw : wpL x_Cal (zC z, zS z, x_rtc (zR z), sc) J Φ (((.lstore_n i), k, zs) :: is) ls st M h cells slots)
    (hN : ∀ ls st M h c' n', c' ≤ zC z → n' ≤ zS z → wpL x_Cal (zC z, zS z, x_rtc (zR z), sc) J Φ is ls st M h c' n' → x_Wt X ρ0 n0 (zL z) p l e R s m args below meth c (x_Q X ρ0 n0 Φ below args s z) (pc + len) ls st M h c' n')
    (hJ : ∀ t ls st M h c' n', c' ≤ zC z → n' ≤ zS z → J t ls st M h c' n' → x_Wt X ρ0 n0 (zL z) p l e R s m args below meth c (x_Q X ρ0 n0 Φ below args s z) (t) ls st M h c' n') : x_Wt X ρ0 n0 (zL z) p l e R s m args below meth c (x_Q X ρ0 n0 Φ below args s z) (pc) ls st M h cells slots := by
  simp only [x_ok1, Bool.and_eq_true, decide_eq_true_eq, beq_iff_eq] at hk
  obtain ⟨h1, rfl⟩ := hk
  simp only [wpL] at hw
  split at hw
  · exact sn_lstore_n hx h1 d (hN _ _ _ _ _ _ hc hs hw)
  · exact hw.elim
theorem ss_astore (hx : x_Cx X z p l R s m args meth c) {i : Nat} (hk : x_ok1 z pc len (.astore i) k zs = true) (d : decode (zB z) pc = .ok ((.astore i), len)) (hc : cells ≤ zC z) (hs : slots ≤ zS z) (hw : wpL x_Cal (zC z, zS z, x_rtc (zR z), sc) J Φ (((.astore i), k, zs) :: is) ls st M h cells slots)
    (hN : ∀ ls st M h c' n', c' ≤ zC z → n' ≤ zS z → wpL x_Cal (zC z, zS z, x_rtc (zR z), sc) J Φ is ls st M h c' n' → x_Wt X ρ0 n0 (zL z) p l e R s m args below meth c (x_Q X ρ0 n0 Φ below args s z) (pc + len) ls st M h c' n')
    (hJ : ∀ t ls st M h c' n', c' ≤ zC z → n' ≤ zS z → J t ls st M h c' n' → x_Wt X ρ0 n0 (zL z) p l e R s m args below meth c (x_Q X ρ0 n0 Φ below args s z) (t) ls st M h c' n') : x_Wt X ρ0 n0 (zL z) p l e R s m args below meth c (x_Q X ρ0 n0 Φ below args s z) (pc) ls st M h cells slots := by
  simp only [x_ok1, Bool.and_eq_true, decide_eq_true_eq, beq_iff_eq] at hk
  obtain ⟨h1, rfl⟩ := hk
  simp only [wpL] at hw
  split at hw
  · exact sn_astore hx h1 d (hN _ _ _ _ _ _ hc hs hw)
  · exact hw.elim
theorem ss_astore_n (hx : x_Cx X z p l R s m args meth c) {i : Fin 4} (hk : x_ok1 z pc len (.astore_n i) k zs = true) (d : decode (zB z) pc = .ok ((.astore_n i), len)) (hc : cells ≤ zC z) (hs : slots ≤ zS z) (hw : wpL x_Cal (zC z, zS z, x_rtc (zR z), sc) J Φ (((.astore_n i), k, zs) :: is) ls st M h cells slots)
    (hN : ∀ ls st M h c' n', c' ≤ zC z → n' ≤ zS z → wpL x_Cal (zC z, zS z, x_rtc (zR z), sc) J Φ is ls st M h c' n' → x_Wt X ρ0 n0 (zL z) p l e R s m args below meth c (x_Q X ρ0 n0 Φ below args s z) (pc + len) ls st M h c' n')
    (hJ : ∀ t ls st M h c' n', c' ≤ zC z → n' ≤ zS z → J t ls st M h c' n' → x_Wt X ρ0 n0 (zL z) p l e R s m args below meth c (x_Q X ρ0 n0 Φ below args s z) (t) ls st M h c' n') : x_Wt X ρ0 n0 (zL z) p l e R s m args below meth c (x_Q X ρ0 n0 Φ below args s z) (pc) ls st M h cells slots := by
  simp only [x_ok1, Bool.and_eq_true, decide_eq_true_eq, beq_iff_eq] at hk
  obtain ⟨h1, rfl⟩ := hk
  simp only [wpL] at hw
  split at hw
  · exact sn_astore_n hx h1 d (hN _ _ _ _ _ _ hc hs hw)
  · exact hw.elim
theorem ss_iinc (hx : x_Cx X z p l R s m args meth c) {i : Nat} {dd : Int} (hk : x_ok1 z pc len (.iinc i dd) k zs = true) (d : decode (zB z) pc = .ok ((.iinc i dd), len)) (hc : cells ≤ zC z) (hs : slots ≤ zS z) (hw : wpL x_Cal (zC z, zS z, x_rtc (zR z), sc) J Φ (((.iinc i dd), k, zs) :: is) ls st M h cells slots)
    (hN : ∀ ls st M h c' n', c' ≤ zC z → n' ≤ zS z → wpL x_Cal (zC z, zS z, x_rtc (zR z), sc) J Φ is ls st M h c' n' → x_Wt X ρ0 n0 (zL z) p l e R s m args below meth c (x_Q X ρ0 n0 Φ below args s z) (pc + len) ls st M h c' n')
    (hJ : ∀ t ls st M h c' n', c' ≤ zC z → n' ≤ zS z → J t ls st M h c' n' → x_Wt X ρ0 n0 (zL z) p l e R s m args below meth c (x_Q X ρ0 n0 Φ below args s z) (t) ls st M h c' n') : x_Wt X ρ0 n0 (zL z) p l e R s m args below meth c (x_Q X ρ0 n0 Φ below args s z) (pc) ls st M h cells slots := by
  simp only [x_ok1, beq_iff_eq] at hk
  subst hk
  simp only [wpL] at hw
  split at hw
  · rename_i hl
    exact sn_iinc hx hl d (hN _ _ _ _ _ _ hc hs hw)
  · exact hw.elim
theorem ss_iadd (hx : x_Cx X z p l R s m args meth c) (hk : x_ok1 z pc len .iadd k zs = true) (d : decode (zB z) pc = .ok (.iadd, len)) (hc : cells ≤ zC z) (hs : slots ≤ zS z) (hw : wpL x_Cal (zC z, zS z, x_rtc (zR z), sc) J Φ ((.iadd, k, zs) :: is) ls st M h cells slots)
    (hN : ∀ ls st M h c' n', c' ≤ zC z → n' ≤ zS z → wpL x_Cal (zC z, zS z, x_rtc (zR z), sc) J Φ is ls st M h c' n' → x_Wt X ρ0 n0 (zL z) p l e R s m args below meth c (x_Q X ρ0 n0 Φ below args s z) (pc + len) ls st M h c' n')
    (hJ : ∀ t ls st M h c' n', c' ≤ zC z → n' ≤ zS z → J t ls st M h c' n' → x_Wt X ρ0 n0 (zL z) p l e R s m args below meth c (x_Q X ρ0 n0 Φ below args s z) (t) ls st M h c' n') : x_Wt X ρ0 n0 (zL z) p l e R s m args below meth c (x_Q X ρ0 n0 Φ below args s z) (pc) ls st M h cells slots := by
  simp only [x_ok1, Bool.and_eq_true, decide_eq_true_eq, beq_iff_eq] at hk
  subst hk
  simp only [wpL] at hw
  split at hw
  · exact sn_iadd hx d (hN _ _ _ _ _ _ hc hs hw)
  · exact hw.elim
theorem ss_isub (hx : x_Cx X z p l R s m args meth c) (hk : x_ok1 z pc len .isub k zs = true) (d : decode (zB z) pc = .ok (.isub, len)) (hc : cells ≤ zC z) (hs : slots ≤ zS z) (hw : wpL x_Cal (zC z, zS z, x_rtc (zR z), sc) J Φ ((.isub, k, zs) :: is) ls st M h cells slots)
    (hN : ∀ ls st M h c' n', c' ≤ zC z → n' ≤ zS z → wpL x_Cal (zC z, zS z, x_rtc (zR z), sc) J Φ is ls st M h c' n' → x_Wt X ρ0 n0 (zL z) p l e R s m args below meth c (x_Q X ρ0 n0 Φ below args s z) (pc + len) ls st M h c' n')
    (hJ : ∀ t ls st M h c' n', c' ≤ zC z → n' ≤ zS z → J t ls st M h c' n' → x_Wt X ρ0 n0 (zL z) p l e R s m args below meth c (x_Q X ρ0 n0 Φ below args s z) (t) ls st M h c' n') : x_Wt X ρ0 n0 (zL z) p l e R s m args below meth c (x_Q X ρ0 n0 Φ below args s z) (pc) ls st M h cells slots := by
  simp only [x_ok1, Bool.and_eq_true, decide_eq_true_eq, beq_iff_eq] at hk
  subst hk
  simp only [wpL] at hw
  split at hw
  · exact sn_isub hx d (hN _ _ _ _ _ _ hc hs hw)
  · exact hw.elim
theorem ss_imul (hx : x_Cx X z p l R s m args meth c) (hk : x_ok1 z pc len .imul k zs = true) (d : decode (zB z) pc = .ok (.imul, len)) (hc : cells ≤ zC z) (hs : slots ≤ zS z) (hw : wpL x_Cal (zC z, zS z, x_rtc (zR z), sc) J Φ ((.imul, k, zs) :: is) ls st M h cells slots)
    (hN : ∀ ls st M h c' n', c' ≤ zC z → n' ≤ zS z → wpL x_Cal (zC z, zS z, x_rtc (zR z), sc) J Φ is ls st M h c' n' → x_Wt X ρ0 n0 (zL z) p l e R s m args below meth c (x_Q X ρ0 n0 Φ below args s z) (pc + len) ls st M h c' n')
    (hJ : ∀ t ls st M h c' n', c' ≤ zC z → n' ≤ zS z → J t ls st M h c' n' → x_Wt X ρ0 n0 (zL z) p l e R s m args below meth c (x_Q X ρ0 n0 Φ below args s z) (t) ls st M h c' n') : x_Wt X ρ0 n0 (zL z) p l e R s m args below meth c (x_Q X ρ0 n0 Φ below args s z) (pc) ls st M h cells slots := by
  simp only [x_ok1, Bool.and_eq_true, decide_eq_true_eq, beq_iff_eq] at hk
  subst hk
  simp only [wpL] at hw
  split at hw
  · exact sn_imul hx d (hN _ _ _ _ _ _ hc hs hw)
  · exact hw.elim
theorem ss_iand (hx : x_Cx X z p l R s m args meth c) (hk : x_ok1 z pc len .iand k zs = true) (d : decode (zB z) pc = .ok (.iand, len)) (hc : cells ≤ zC z) (hs : slots ≤ zS z) (hw : wpL x_Cal (zC z, zS z, x_rtc (zR z), sc) J Φ ((.iand, k, zs) :: is) ls st M h cells slots)
    (hN : ∀ ls st M h c' n', c' ≤ zC z → n' ≤ zS z → wpL x_Cal (zC z, zS z, x_rtc (zR z), sc) J Φ is ls st M h c' n' → x_Wt X ρ0 n0 (zL z) p l e R s m args below meth c (x_Q X ρ0 n0 Φ below args s z) (pc + len) ls st M h c' n')
    (hJ : ∀ t ls st M h c' n', c' ≤ zC z → n' ≤ zS z → J t ls st M h c' n' → x_Wt X ρ0 n0 (zL z) p l e R s m args below meth c (x_Q X ρ0 n0 Φ below args s z) (t) ls st M h c' n') : x_Wt X ρ0 n0 (zL z) p l e R s m args below meth c (x_Q X ρ0 n0 Φ below args s z) (pc) ls st M h cells slots := by
  simp only [x_ok1, Bool.and_eq_true, decide_eq_true_eq, beq_iff_eq] at hk
  subst hk
  simp only [wpL] at hw
  split at hw
  · exact sn_iand hx d (hN _ _ _ _ _ _ hc hs hw)
  · exact hw.elim
theorem ss_ior (hx : x_Cx X z p l R s m args meth c) (hk : x_ok1 z pc len .ior k zs = true) (d : decode (zB z) pc = .ok (.ior, len)) (hc : cells ≤ zC z) (hs : slots ≤ zS z) (hw : wpL x_Cal (zC z, zS z, x_rtc (zR z), sc) J Φ ((.ior, k, zs) :: is) ls st M h cells slots)
    (hN : ∀ ls st M h c' n', c' ≤ zC z → n' ≤ zS z → wpL x_Cal (zC z, zS z, x_rtc (zR z), sc) J Φ is ls st M h c' n' → x_Wt X ρ0 n0 (zL z) p l e R s m args below meth c (x_Q X ρ0 n0 Φ below args s z) (pc + len) ls st M h c' n')
    (hJ : ∀ t ls st M h c' n', c' ≤ zC z → n' ≤ zS z → J t ls st M h c' n' → x_Wt X ρ0 n0 (zL z) p l e R s m args below meth c (x_Q X ρ0 n0 Φ below args s z) (t) ls st M h c' n') : x_Wt X ρ0 n0 (zL z) p l e R s m args below meth c (x_Q X ρ0 n0 Φ below args s z) (pc) ls st M h cells slots := by
  simp only [x_ok1, Bool.and_eq_true, decide_eq_true_eq, beq_iff_eq] at hk
  subst hk
  simp only [wpL] at hw
  split at hw
  · exact sn_ior hx d (hN _ _ _ _ _ _ hc hs hw)
  · exact hw.elim
theorem ss_ixor (hx : x_Cx X z p l R s m args meth c) (hk : x_ok1 z pc len .ixor k zs = true) (d : decode (zB z) pc = .ok (.ixor, len)) (hc : cells ≤ zC z) (hs : slots ≤ zS z) (hw : wpL x_Cal (zC z, zS z, x_rtc (zR z), sc) J Φ ((.ixor, k, zs) :: is) ls st M h cells slots)
    (hN : ∀ ls st M h c' n', c' ≤ zC z → n' ≤ zS z → wpL x_Cal (zC z, zS z, x_rtc (zR z), sc) J Φ is ls st M h c' n' → x_Wt X ρ0 n0 (zL z) p l e R s m args below meth c (x_Q X ρ0 n0 Φ below args s z) (pc + len) ls st M h c' n')
    (hJ : ∀ t ls st M h c' n', c' ≤ zC z → n' ≤ zS z → J t ls st M h c' n' → x_Wt X ρ0 n0 (zL z) p l e R s m args below meth c (x_Q X ρ0 n0 Φ below args s z) (t) ls st M h c' n') : x_Wt X ρ0 n0 (zL z) p l e R s m args below meth c (x_Q X ρ0 n0 Φ below args s z) (pc) ls st M h cells slots := by
  simp only [x_ok1, Bool.and_eq_true, decide_eq_true_eq, beq_iff_eq] at hk
  subst hk
  simp only [wpL] at hw
  split at hw
  · exact sn_ixor hx d (hN _ _ _ _ _ _ hc hs hw)
  · exact hw.elim
theorem ss_ishl (hx : x_Cx X z p l R s m args meth c) (hk : x_ok1 z pc len .ishl k zs = true) (d : decode (zB z) pc = .ok (.ishl, len)) (hc : cells ≤ zC z) (hs : slots ≤ zS z) (hw : wpL x_Cal (zC z, zS z, x_rtc (zR z), sc) J Φ ((.ishl, k, zs) :: is) ls st M h cells slots)
    (hN : ∀ ls st M h c' n', c' ≤ zC z → n' ≤ zS z → wpL x_Cal (zC z, zS z, x_rtc (zR z), sc) J Φ is ls st M h c' n' → x_Wt X ρ0 n0 (zL z) p l e R s m args below meth c (x_Q X ρ0 n0 Φ below args s z) (pc + len) ls st M h c' n')
    (hJ : ∀ t ls st M h c' n', c' ≤ zC z → n' ≤ zS z → J t ls st M h c' n' → x_Wt X ρ0 n0 (zL z) p l e R s m args below meth c (x_Q X ρ0 n0 Φ below args s z) (t) ls st M h c' n') : x_Wt X ρ0 n0 (zL z) p l e R s m args below meth c (x_Q X ρ0 n0 Φ below args s z) (pc) ls st M h cells slots := by
  simp only [x_ok1, Bool.and_eq_true, decide_eq_true_eq, beq_iff_eq] at hk
  subst hk
  simp only [wpL] at hw
  split at hw
  · exact sn_ishl hx d (hN _ _ _ _ _ _ hc hs hw)
  · exact hw.elim
theorem ss_ishr (hx : x_Cx X z p l R s m args meth c) (hk : x_ok1 z pc len .ishr k zs = true) (d : decode (zB z) pc = .ok (.ishr, len)) (hc : cells ≤ zC z) (hs : slots ≤ zS z) (hw : wpL x_Cal (zC z, zS z, x_rtc (zR z), sc) J Φ ((.ishr, k, zs) :: is) ls st M h cells slots)
    (hN : ∀ ls st M h c' n', c' ≤ zC z → n' ≤ zS z → wpL x_Cal (zC z, zS z, x_rtc (zR z), sc) J Φ is ls st M h c' n' → x_Wt X ρ0 n0 (zL z) p l e R s m args below meth c (x_Q X ρ0 n0 Φ below args s z) (pc + len) ls st M h c' n')
    (hJ : ∀ t ls st M h c' n', c' ≤ zC z → n' ≤ zS z → J t ls st M h c' n' → x_Wt X ρ0 n0 (zL z) p l e R s m args below meth c (x_Q X ρ0 n0 Φ below args s z) (t) ls st M h c' n') : x_Wt X ρ0 n0 (zL z) p l e R s m args below meth c (x_Q X ρ0 n0 Φ below args s z) (pc) ls st M h cells slots := by
  simp only [x_ok1, Bool.and_eq_true, decide_eq_true_eq, beq_iff_eq] at hk
  subst hk
  simp only [wpL] at hw
  split at hw
  · exact sn_ishr hx d (hN _ _ _ _ _ _ hc hs hw)
  · exact hw.elim
theorem ss_i2l (hx : x_Cx X z p l R s m args meth c) (hk : x_ok1 z pc len .i2l k zs = true) (d : decode (zB z) pc = .ok (.i2l, len)) (hc : cells ≤ zC z) (hs : slots ≤ zS z) (hw : wpL x_Cal (zC z, zS z, x_rtc (zR z), sc) J Φ ((.i2l, k, zs) :: is) ls st M h cells slots)
    (hN : ∀ ls st M h c' n', c' ≤ zC z → n' ≤ zS z → wpL x_Cal (zC z, zS z, x_rtc (zR z), sc) J Φ is ls st M h c' n' → x_Wt X ρ0 n0 (zL z) p l e R s m args below meth c (x_Q X ρ0 n0 Φ below args s z) (pc + len) ls st M h c' n')
    (hJ : ∀ t ls st M h c' n', c' ≤ zC z → n' ≤ zS z → J t ls st M h c' n' → x_Wt X ρ0 n0 (zL z) p l e R s m args below meth c (x_Q X ρ0 n0 Φ below args s z) (t) ls st M h c' n') : x_Wt X ρ0 n0 (zL z) p l e R s m args below meth c (x_Q X ρ0 n0 Φ below args s z) (pc) ls st M h cells slots := by
  simp only [x_ok1, Bool.and_eq_true, decide_eq_true_eq, beq_iff_eq] at hk
  subst hk
  simp only [wpL] at hw
  split at hw
  · exact sn_i2l hx d (hN _ _ _ _ _ _ hc hs hw)
  · exact hw.elim
theorem ss_l2i (hx : x_Cx X z p l R s m args meth c) (hk : x_ok1 z pc len .l2i k zs = true) (d : decode (zB z) pc = .ok (.l2i, len)) (hc : cells ≤ zC z) (hs : slots ≤ zS z) (hw : wpL x_Cal (zC z, zS z, x_rtc (zR z), sc) J Φ ((.l2i, k, zs) :: is) ls st M h cells slots)
    (hN : ∀ ls st M h c' n', c' ≤ zC z → n' ≤ zS z → wpL x_Cal (zC z, zS z, x_rtc (zR z), sc) J Φ is ls st M h c' n' → x_Wt X ρ0 n0 (zL z) p l e R s m args below meth c (x_Q X ρ0 n0 Φ below args s z) (pc + len) ls st M h c' n')
    (hJ : ∀ t ls st M h c' n', c' ≤ zC z → n' ≤ zS z → J t ls st M h c' n' → x_Wt X ρ0 n0 (zL z) p l e R s m args below meth c (x_Q X ρ0 n0 Φ below args s z) (t) ls st M h c' n') : x_Wt X ρ0 n0 (zL z) p l e R s m args below meth c (x_Q X ρ0 n0 Φ below args s z) (pc) ls st M h cells slots := by
  simp only [x_ok1, Bool.and_eq_true, decide_eq_true_eq, beq_iff_eq] at hk
  subst hk
  simp only [wpL] at hw
  split at hw
  · exact sn_l2i hx d (hN _ _ _ _ _ _ hc hs hw)
  · exact hw.elim
theorem ss_i2b (hx : x_Cx X z p l R s m args meth c) (hk : x_ok1 z pc len .i2b k zs = true) (d : decode (zB z) pc = .ok (.i2b, len)) (hc : cells ≤ zC z) (hs : slots ≤ zS z) (hw : wpL x_Cal (zC z, zS z, x_rtc (zR z), sc) J Φ ((.i2b, k, zs) :: is) ls st M h cells slots)
    (hN : ∀ ls st M h c' n', c' ≤ zC z → n' ≤ zS z → wpL x_Cal (zC z, zS z, x_rtc (zR z), sc) J Φ is ls st M h c' n' → x_Wt X ρ0 n0 (zL z) p l e R s m args below meth c (x_Q X ρ0 n0 Φ below args s z) (pc + len) ls st M h c' n')
    (hJ : ∀ t ls st M h c' n', c' ≤ zC z → n' ≤ zS z → J t ls st M h c' n' → x_Wt X ρ0 n0 (zL z) p l e R s m args below meth c (x_Q X ρ0 n0 Φ below args s z) (t) ls st M h c' n') : x_Wt X ρ0 n0 (zL z) p l e R s m args below meth c (x_Q X ρ0 n0 Φ below args s z) (pc) ls st M h cells slots := by
  simp only [x_ok1, Bool.and_eq_true, decide_eq_true_eq, beq_iff_eq] at hk
  subst hk
  simp only [wpL] at hw
  split at hw
  · exact sn_i2b hx d (hN _ _ _ _ _ _ hc hs hw)
  · exact hw.elim
theorem ss_ladd (hx : x_Cx X z p l R s m args meth c) (hk : x_ok1 z pc len .ladd k zs = true) (d : decode (zB z) pc = .ok (.ladd, len)) (hc : cells ≤ zC z) (hs : slots ≤ zS z) (hw : wpL x_Cal (zC z, zS z, x_rtc (zR z), sc) J Φ ((.ladd, k, zs) :: is) ls st M h cells slots)
    (hN : ∀ ls st M h c' n', c' ≤ zC z → n' ≤ zS z → wpL x_Cal (zC z, zS z, x_rtc (zR z), sc) J Φ is ls st M h c' n' → x_Wt X ρ0 n0 (zL z) p l e R s m args below meth c (x_Q X ρ0 n0 Φ below args s z) (pc + len) ls st M h c' n')
    (hJ : ∀ t ls st M h c' n', c' ≤ zC z → n' ≤ zS z → J t ls st M h c' n' → x_Wt X ρ0 n0 (zL z) p l e R s m args below meth c (x_Q X ρ0 n0 Φ below args s z) (t) ls st M h c' n') : x_Wt X ρ0 n0 (zL z) p l e R s m args below meth c (x_Q X ρ0 n0 Φ below args s z) (pc) ls st M h cells slots := by
  simp only [x_ok1, Bool.and_eq_true, decide_eq_true_eq, beq_iff_eq] at hk
  subst hk
  simp only [wpL] at hw
  split at hw
  · exact sn_ladd hx d (hN _ _ _ _ _ _ hc hs hw)
  · exact hw.elim
theorem ss_lsub (hx : x_Cx X z p l R s m args meth c) (hk : x_ok1 z pc len .lsub k zs = true) (d : decode (zB z) pc = .ok (.lsub, len)) (hc : cells ≤ zC z) (hs : slots ≤ zS z) (hw : wpL x_Cal (zC z, zS z, x_rtc (zR z), sc) J Φ ((.lsub, k, zs) :: is) ls st M h cells slots)
    (hN : ∀ ls st M h c' n', c' ≤ zC z → n' ≤ zS z → wpL x_Cal (zC z, zS z, x_rtc (zR z), sc) J Φ is ls st M h c' n' → x_Wt X ρ0 n0 (zL z) p l e R s m args below meth c (x_Q X ρ0 n0 Φ below args s z) (pc + len) ls st M h c' n')
    (hJ : ∀ t ls st M h c' n', c' ≤ zC z → n' ≤ zS z → J t ls st M h c' n' → x_Wt X ρ0 n0 (zL z) p l e R s m args below meth c (x_Q X ρ0 n0 Φ below args s z) (t) ls st M h c' n') : x_Wt X ρ0 n0 (zL z) p l e R s m args below meth c (x_Q X ρ0 n0 Φ below args s z) (pc) ls st M h cells slots := by
  simp only [x_ok1, Bool.and_eq_true, decide_eq_true_eq, beq_iff_eq] at hk
  subst hk
  simp only [wpL] at hw
  split at hw
  · exact sn_lsub hx d (hN _ _ _ _ _ _ hc hs hw)
  · exact hw.elim
theorem ss_lmul (hx : x_Cx X z p l R s m args meth c) (hk : x_ok1 z pc len .lmul k zs = true) (d : decode (zB z) pc = .ok (.lmul, len)) (hc : cells ≤ zC z) (hs : slots ≤ zS z) (hw : wpL x_Cal (zC z, zS z, x_rtc (zR z), sc) J Φ ((.lmul, k, zs) :: is) ls st M h cells slots)
    (hN : ∀ ls st M h c' n', c' ≤ zC z → n' ≤ zS z → wpL x_Cal (zC z, zS z, x_rtc (zR z), sc) J Φ is ls st M h c' n' → x_Wt X ρ0 n0 (zL z) p l e R s m args below meth c (x_Q X ρ0 n0 Φ below args s z) (pc + len) ls st M h c' n')
    (hJ : ∀ t ls st M h c' n', c' ≤ zC z → n' ≤ zS z → J t ls st M h c' n' → x_Wt X ρ0 n0 (zL z) p l e R s m args below meth c (x_Q X ρ0 n0 Φ below args s z) (t) ls st M h c' n') : x_Wt X ρ0 n0 (zL z) p l e R s m args below meth c (x_Q X ρ0 n0 Φ below args s z) (pc) ls st M h cells slots := by
  simp only [x_ok1, Bool.and_eq_true, decide_eq_true_eq, beq_iff_eq] at hk
  subst hk
  simp only [wpL] at hw
  split at hw
  · exact sn_lmul hx d (hN _ _ _ _ _ _ hc hs hw)
  · exact hw.elim
theorem ss_land (hx : x_Cx X z p l R s m args meth c) (hk : x_ok1 z pc len .land k zs = true) (d : decode (zB z) pc = .ok (.land, len)) (hc : cells ≤ zC z) (hs : slots ≤ zS z) (hw : wpL x_Cal (zC z, zS z, x_rtc (zR z), sc) J Φ ((.land, k, zs) :: is) ls st M h cells slots)
    (hN : ∀ ls st M h c' n', c' ≤ zC z → n' ≤ zS z → wpL x_Cal (zC z, zS z, x_rtc (zR z), sc) J Φ is ls st M h c' n' → x_Wt X ρ0 n0 (zL z) p l e R s m args below meth c (x_Q X ρ0 n0 Φ below args s z) (pc + len) ls st M h c' n')
    (hJ : ∀ t ls st M h c' n', c' ≤ zC z → n' ≤ zS z → J t ls st M h c' n' → x_Wt X ρ0 n0 (zL z) p l e R s m args below meth c (x_Q X ρ0 n0 Φ below args s z) (t) ls st M h c' n') : x_Wt X ρ0 n0 (zL z) p l e R s m args below meth c (x_Q X ρ0 n0 Φ below args s z) (pc) ls st M h cells slots := by
  simp only [x_ok1, Bool.and_eq_true, decide_eq_true_eq, beq_iff_eq] at hk
  subst hk
  simp only [wpL] at hw
  split at hw
  · exact sn_land hx d (hN _ _ _ _ _ _ hc hs hw)
  · exact hw.elim
theorem ss_lshr (hx : x_Cx X z p l R s m args meth c) (hk : x_ok1 z pc len .lshr k zs = true) (d : decode (zB z) pc = .ok (.lshr, len)) (hc : cells ≤ zC z) (hs : slots ≤ zS z) (hw : wpL x_Cal (zC z, zS z, x_rtc (zR z), sc) J Φ ((.lshr, k, zs) :: is) ls st M h cells slots)
    (hN : ∀ ls st M h c' n', c' ≤ zC z → n' ≤ zS z → wpL x_Cal (zC z, zS z, x_rtc (zR z), sc) J Φ is ls st M h c' n' → x_Wt X ρ0 n0 (zL z) p l e R s m args below meth c (x_Q X ρ0 n0 Φ below args s z) (pc + len) ls st M h c' n')
    (hJ : ∀ t ls st M h c' n', c' ≤ zC z → n' ≤ zS z → J t ls st M h c' n' → x_Wt X ρ0 n0 (zL z) p l e R s m args below meth c (x_Q X ρ0 n0 Φ below args s z) (t) ls st M h c' n') : x_Wt X ρ0 n0 (zL z) p l e R s m args below meth c (x_Q X ρ0 n0 Φ below args s z) (pc) ls st M h cells slots := by
  simp only [x_ok1, Bool.and_eq_true, decide_eq_true_eq, beq_iff_eq] at hk
  subst hk
  simp only [wpL] at hw
  split at hw
  · exact sn_lshr hx d (hN _ _ _ _ _ _ hc hs hw)
  · exact hw.elim
theorem ss_lcmp (hx : x_Cx X z p l R s m args meth c) (hk : x_ok1 z pc len .lcmp k zs = true) (d : decode (zB z) pc = .ok (.lcmp, len)) (hc : cells ≤ zC z) (hs : slots ≤ zS z) (hw : wpL x_Cal (zC z, zS z, x_rtc (zR z), sc) J Φ ((.lcmp, k, zs) :: is) ls st M h cells slots)
    (hN : ∀ ls st M h c' n', c' ≤ zC z → n' ≤ zS z → wpL x_Cal (zC z, zS z, x_rtc (zR z), sc) J Φ is ls st M h c' n' → x_Wt X ρ0 n0 (zL z) p l e R s m args below meth c (x_Q X ρ0 n0 Φ below args s z) (pc + len) ls st M h c' n')
    (hJ : ∀ t ls st M h c' n', c' ≤ zC z → n' ≤ zS z → J t ls st M h c' n' → x_Wt X ρ0 n0 (zL z) p l e R s m args below meth c (x_Q X ρ0 n0 Φ below args s z) (t) ls st M h c' n') : x_Wt X ρ0 n0 (zL z) p l e R s m args below meth c (x_Q X ρ0 n0 Φ below args s z) (pc) ls st M h cells slots := by
  simp only [x_ok1, Bool.and_eq_true, decide_eq_true_eq, beq_iff_eq] at hk
  subst hk
  simp only [wpL] at hw
  split at hw
  · exact sn_lcmp hx d (hN _ _ _ _ _ _ hc hs hw)
  · exact hw.elim
theorem ss_idiv (hx : x_Cx X z p l R s m args meth c) (hk : x_ok1 z pc len .idiv k zs = true) (d : decode (zB z) pc = .ok (.idiv, len)) (hc : cells ≤ zC z) (hs : slots ≤ zS z) (hw : wpL x_Cal (zC z, zS z, x_rtc (zR z), sc) J Φ ((.idiv, k, zs) :: is) ls st M h cells slots)
    (hN : ∀ ls st M h c' n', c' ≤ zC z → n' ≤ zS z → wpL x_Cal (zC z, zS z, x_rtc (zR z), sc) J Φ is ls st M h c' n' → x_Wt X ρ0 n0 (zL z) p l e R s m args below meth c (x_Q X ρ0 n0 Φ below args s z) (pc + len) ls st M h c' n')
    (hJ : ∀ t ls st M h c' n', c' ≤ zC z → n' ≤ zS z → J t ls st M h c' n' → x_Wt X ρ0 n0 (zL z) p l e R s m args below meth c (x_Q X ρ0 n0 Φ below args s z) (t) ls st M h c' n') : x_Wt X ρ0 n0 (zL z) p l e R s m args below meth c (x_Q X ρ0 n0 Φ below args s z) (pc) ls st M h cells slots := by
  simp only [x_ok1, Bool.and_eq_true, decide_eq_true_eq, beq_iff_eq] at hk
  subst hk
  simp only [wpL] at hw
  split at hw
  · exact sn_idiv hx hw.1 d (hN _ _ _ _ _ _ hc hs hw.2)
  · exact hw.elim
theorem ss_irem (hx : x_Cx X z p l R s m args meth c) (hk : x_ok1 z pc len .irem k zs = true) (d : decode (zB z) pc = .ok (.irem, len)) (hc : cells ≤ zC z) (hs : slots ≤ zS z) (hw : wpL x_Cal (zC z, zS z, x_rtc (zR z), sc) J Φ ((.irem, k, zs) :: is) ls st M h cells slots)
    (hN : ∀ ls st M h c' n', c' ≤ zC z → n' ≤ zS z → wpL x_Cal (zC z, zS z, x_rtc (zR z), sc) J Φ is ls st M h c' n' → x_Wt X ρ0 n0 (zL z) p l e R s m args below meth c (x_Q X ρ0 n0 Φ below args s z) (pc + len) ls st M h c' n')
    (hJ : ∀ t ls st M h c' n', c' ≤ zC z → n' ≤ zS z → J t ls st M h c' n' → x_Wt X ρ0 n0 (zL z) p l e R s m args below meth c (x_Q X ρ0 n0 Φ below args s z) (t) ls st M h c' n') : x_Wt X ρ0 n0 (zL z) p l e R s m args below meth c (x_Q X ρ0 n0 Φ below args s z) (pc) ls st M h cells slots := by
  simp only [x_ok1, Bool.and_eq_true, decide_eq_true_eq, beq_iff_eq] at hk
  subst hk
  simp only [wpL] at hw
  split at hw
  · exact sn_irem hx hw.1 d (hN _ _ _ _ _ _ hc hs hw.2)
  · exact hw.elim
theorem ss_dup (hx : x_Cx X z p l R s m args meth c) (hk : x_ok1 z pc len .dup k zs = true) (d : decode (zB z) pc = .ok (.dup, len)) (hc : cells ≤ zC z) (hs : slots ≤ zS z) (hw : wpL x_Cal (zC z, zS z, x_rtc (zR z), sc) J Φ ((.dup, k, zs) :: is) ls st M h cells slots)
    (hN : ∀ ls st M h c' n', c' ≤ zC z → n' ≤ zS z → wpL x_Cal (zC z, zS z, x_rtc (zR z), sc) J Φ is ls st M h c' n' → x_Wt X ρ0 n0 (zL z) p l e R s m args below meth c (x_Q X ρ0 n0 Φ below args s z) (pc + len) ls st M h c' n')
    (hJ : ∀ t ls st M h c' n', c' ≤ zC z → n' ≤ zS z → J t ls st M h c' n' → x_Wt X ρ0 n0 (zL z) p l e R s m args below meth c (x_Q X ρ0 n0 Φ below args s z) (t) ls st M h c' n') : x_Wt X ρ0 n0 (zL z) p l e R s m args below meth c (x_Q X ρ0 n0 Φ below args s z) (pc) ls st M h cells slots := by
  simp only [x_ok1, Bool.and_eq_true, decide_eq_true_eq, beq_iff_eq] at hk
  subst hk
  simp only [wpL] at hw
  split at hw
  · exact sn_dup hx hw.1 d (hN _ _ _ _ _ _ hc hs hw.2)
  · exact hw.elim
theorem ss_pop (hx : x_Cx X z p l R s m args meth c) (hk : x_ok1 z pc len .pop k zs = true) (d : decode (zB z) pc = .ok (.pop, len)) (hc : cells ≤ zC z) (hs : slots ≤ zS z) (hw : wpL x_Cal (zC z, zS z, x_rtc (zR z), sc) J Φ ((.pop, k, zs) :: is) ls st M h cells slots)
    (hN : ∀ ls st M h c' n', c' ≤ zC z → n' ≤ zS z → wpL x_Cal (zC z, zS z, x_rtc (zR z), sc) J Φ is ls st M h c' n' → x_Wt X ρ0 n0 (zL z) p l e R s m args below meth c (x_Q X ρ0 n0 Φ below args s z) (pc + len) ls st M h c' n')
    (hJ : ∀ t ls st M h c' n', c' ≤ zC z → n' ≤ zS z → J t ls st M h c' n' → x_Wt X ρ0 n0 (zL z) p l e R s m args below meth c (x_Q X ρ0 n0 Φ below args s z) (t) ls st M h c' n') : x_Wt X ρ0 n0 (zL z) p l e R s m args below meth c (x_Q X ρ0 n0 Φ below args s z) (pc) ls st M h cells slots := by
  simp only [x_ok1, Bool.and_eq_true, decide_eq_true_eq, beq_iff_eq] at hk
  subst hk
  simp only [wpL] at hw
  split at hw
  · exact sn_pop hx hw.1 d (hN _ _ _ _ _ _ hc hs hw.2)
  · exact hw.elim
theorem ss_dup2 (hx : x_Cx X z p l R s m args meth c) (hk : x_ok1 z pc len .dup2 k zs = true) (d : decode (zB z) pc = .ok (.dup2, len)) (hc : cells ≤ zC z) (hs : slots ≤ zS z) (hw : wpL x_Cal (zC z, zS z, x_rtc (zR z), sc) J Φ ((.dup2, k, zs) :: is) ls st M h cells slots)
    (hN : ∀ ls st M h c' n', c' ≤ zC z → n' ≤ zS z → wpL x_Cal (zC z, zS z, x_rtc (zR z), sc) J Φ is ls st M h c' n' → x_Wt X ρ0 n0 (zL z) p l e R s m args below meth c (x_Q X ρ0 n0 Φ below args s z) (pc + len) ls st M h c' n')
    (hJ : ∀ t ls st M h c' n', c' ≤ zC z → n' ≤ zS z → J t ls st M h c' n' → x_Wt X ρ0 n0 (zL z) p l e R s m args below meth c (x_Q X ρ0 n0 Φ below args s z) (t) ls st M h c' n') : x_Wt X ρ0 n0 (zL z) p l e R s m args below meth c (x_Q X ρ0 n0 Φ below args s z) (pc) ls st M h cells slots := by
  simp only [x_ok1, Bool.and_eq_true, decide_eq_true_eq, beq_iff_eq] at hk
  subst hk
  simp only [wpL] at hw
  split at hw
  · exact sn_dup2 hx hw.1 hw.2.1 d (hN _ _ _ _ _ _ hc hs hw.2.2)
  · exact hw.elim
theorem ss_ifCond (hx : x_Cx X z p l R s m args meth c) {q : ClassFile.Cond} {o : Int} (hk : x_ok1 z pc len (.ifCond q o) k zs = true) (d : decode (zB z) pc = .ok ((.ifCond q o), len)) (hc : cells ≤ zC z) (hs : slots ≤ zS z) (hw : wpL x_Cal (zC z, zS z, x_rtc (zR z), sc) J Φ (((.ifCond q o), k, zs) :: is) ls st M h cells slots)
    (hN : ∀ ls st M h c' n', c' ≤ zC z → n' ≤ zS z → wpL x_Cal (zC z, zS z, x_rtc (zR z), sc) J Φ is ls st M h c' n' → x_Wt X ρ0 n0 (zL z) p l e R s m args below meth c (x_Q X ρ0 n0 Φ below args s z) (pc + len) ls st M h c' n')
    (hJ : ∀ t ls st M h c' n', c' ≤ zC z → n' ≤ zS z → J t ls st M h c' n' → x_Wt X ρ0 n0 (zL z) p l e R s m args below meth c (x_Q X ρ0 n0 Φ below args s z) (t) ls st M h c' n') : x_Wt X ρ0 n0 (zL z) p l e R s m args below meth c (x_Q X ρ0 n0 Φ below args s z) (pc) ls st M h cells slots := by
  simp only [wpL] at hw
  split at hw
  · simp only [x_ok1, Bool.and_eq_true, decide_eq_true_eq, beq_iff_eq] at hk
    obtain ⟨h1, rfl⟩ := hk
    cases q with
    | eq => exact sn_if_eq hx h1 d (fun t => hJ _ _ _ _ _ _ _ hc hs (hw.1 t)) (fun t => hN _ _ _ _ _ _ hc hs (hw.2 t))
    | ne => exact sn_if_ne hx h1 d (fun t => hJ _ _ _ _ _ _ _ hc hs (hw.1 t)) (fun t => hN _ _ _ _ _ _ hc hs (hw.2 t))
    | lt => exact sn_if_lt hx h1 d (fun t => hJ _ _ _ _ _ _ _ hc hs (hw.1 t)) (fun t => hN _ _ _ _ _ _ hc hs (hw.2 t))
    | ge => exact sn_if_ge hx h1 d (fun t => hJ _ _ _ _ _ _ _ hc hs (hw.1 t)) (fun t => hN _ _ _ _ _ _ hc hs (hw.2 t))
    | gt => exact sn_if_gt hx h1 d (fun t => hJ _ _ _ _ _ _ _ hc hs (hw.1 t)) (fun t => hN _ _ _ _ _ _ hc hs (hw.2 t))
    | le => exact sn_if_le hx h1 d (fun t => hJ _ _ _ _ _ _ _ hc hs (hw.1 t)) (fun t => hN _ _ _ _ _ _ hc hs (hw.2 t))
  · exact hw.elim
theorem ss_if_icmp (hx : x_Cx X z p l R s m args meth c) {q : ClassFile.Cond} {o : Int} (hk : x_ok1 z pc len (.if_icmp q o) k zs = true) (d : decode (zB z) pc = .ok ((.if_icmp q o), len)) (hc : cells ≤ zC z) (hs : slots ≤ zS z) (hw : wpL x_Cal (zC z, zS z, x_rtc (zR z), sc) J Φ (((.if_icmp q o), k, zs) :: is) ls st M h cells slots)
    (hN : ∀ ls st M h c' n', c' ≤ zC z → n' ≤ zS z → wpL x_Cal (zC z, zS z, x_rtc (zR z), sc) J Φ is ls st M h c' n' → x_Wt X ρ0 n0 (zL z) p l e R s m args below meth c (x_Q X ρ0 n0 Φ below args s z) (pc + len) ls st M h c' n')
    (hJ : ∀ t ls st M h c' n', c' ≤ zC z → n' ≤ zS z → J t ls st M h c' n' → x_Wt X ρ0 n0 (zL z) p l e R s m args below meth c (x_Q X ρ0 n0 Φ below args s z) (t) ls st M h c' n') : x_Wt X ρ0 n0 (zL z) p l e R s m args below meth c (x_Q X ρ0 n0 Φ below args s z) (pc) ls st M h cells slots := by
  simp only [wpL] at hw
  split at hw
  · simp only [x_ok1, Bool.and_eq_true, decide_eq_true_eq, beq_iff_eq] at hk
    obtain ⟨h1, rfl⟩ := hk
    cases q with
    | eq => exact sn_icmp_eq hx h1 d (fun t => hJ _ _ _ _ _ _ _ hc hs (hw.1 t)) (fun t => hN _ _ _ _ _ _ hc hs (hw.2 t))
    | ne => exact sn_icmp_ne hx h1 d (fun t => hJ _ _ _ _ _ _ _ hc hs (hw.1 t)) (fun t => hN _ _ _ _ _ _ hc hs (hw.2 t))
    | lt => exact sn_icmp_lt hx h1 d (fun t => hJ _ _ _ _ _ _ _ hc hs (hw.1 t)) (fun t => hN _ _ _ _ _ _ hc hs (hw.2 t))
    | ge => exact sn_icmp_ge hx h1 d (fun t => hJ _ _ _ _ _ _ _ hc hs (hw.1 t)) (fun t => hN _ _ _ _ _ _ hc hs (hw.2 t))
    | gt => exact sn_icmp_gt hx h1 d (fun t => hJ _ _ _ _ _ _ _ hc hs (hw.1 t)) (fun t => hN _ _ _ _ _ _ hc hs (hw.2 t))
    | le => exact sn_icmp_le hx h1 d (fun t => hJ _ _ _ _ _ _ _ hc hs (hw.1 t)) (fun t => hN _ _ _ _ _ _ hc hs (hw.2 t))
  · exact hw.elim
theorem ss_ifnull (hx : x_Cx X z p l R s m args meth c) {o : Int} (hk : x_ok1 z pc len (.ifnull o) k zs = true) (d : decode (zB z) pc = .ok ((.ifnull o), len)) (hc : cells ≤ zC z) (hs : slots ≤ zS z) (hw : wpL x_Cal (zC z, zS z, x_rtc (zR z), sc) J Φ (((.ifnull o), k, zs) :: is) ls st M h cells slots)
    (hN : ∀ ls st M h c' n', c' ≤ zC z → n' ≤ zS z → wpL x_Cal (zC z, zS z, x_rtc (zR z), sc) J Φ is ls st M h c' n' → x_Wt X ρ0 n0 (zL z) p l e R s m args below meth c (x_Q X ρ0 n0 Φ below args s z) (pc + len) ls st M h c' n')
    (hJ : ∀ t ls st M h c' n', c' ≤ zC z → n' ≤ zS z → J t ls st M h c' n' → x_Wt X ρ0 n0 (zL z) p l e R s m args below meth c (x_Q X ρ0 n0 Φ below args s z) (t) ls st M h c' n') : x_Wt X ρ0 n0 (zL z) p l e R s m args below meth c (x_Q X ρ0 n0 Φ below args s z) (pc) ls st M h cells slots := by
  simp only [wpL] at hw
  split at hw
  · simp only [x_ok1, Bool.and_eq_true, decide_eq_true_eq, beq_iff_eq] at hk
    obtain ⟨h1, rfl⟩ := hk
    exact sn_ifnull hx h1 d (fun t => hJ _ _ _ _ _ _ _ hc hs (hw.1 t)) (fun t => hN _ _ _ _ _ _ hc hs (hw.2 t))
  · exact hw.elim
theorem ss_ifnonnull (hx : x_Cx X z p l R s m args meth c) {o : Int} (hk : x_ok1 z pc len (.ifnonnull o) k zs = true) (d : decode (zB z) pc = .ok ((.ifnonnull o), len)) (hc : cells ≤ zC z) (hs : slots ≤ zS z) (hw : wpL x_Cal (zC z, zS z, x_rtc (zR z), sc) J Φ (((.ifnonnull o), k, zs) :: is) ls st M h cells slots)
    (hN : ∀ ls st M h c' n', c' ≤ zC z → n' ≤ zS z → wpL x_Cal (zC z, zS z, x_rtc (zR z), sc) J Φ is ls st M h c' n' → x_Wt X ρ0 n0 (zL z) p l e R s m args below meth c (x_Q X ρ0 n0 Φ below args s z) (pc + len) ls st M h c' n')
    (hJ : ∀ t ls st M h c' n', c' ≤ zC z → n' ≤ zS z → J t ls st M h c' n' → x_Wt X ρ0 n0 (zL z) p l e R s m args below meth c (x_Q X ρ0 n0 Φ below args s z) (t) ls st M h c' n') : x_Wt X ρ0 n0 (zL z) p l e R s m args below meth c (x_Q X ρ0 n0 Φ below args s z) (pc) ls st M h cells slots := by
  simp only [wpL] at hw
  split at hw
  · simp only [x_ok1, Bool.and_eq_true, decide_eq_true_eq, beq_iff_eq] at hk
    obtain ⟨h1, rfl⟩ := hk
    exact sn_ifnonnull hx h1 d (fun t => hJ _ _ _ _ _ _ _ hc hs (hw.1 t)) (fun t => hN _ _ _ _ _ _ hc hs (hw.2 t))
  · simp only [x_ok1, Bool.and_eq_true, decide_eq_true_eq, beq_iff_eq] at hk
    obtain ⟨h1, rfl⟩ := hk
    intro ρ lsC H locs S
    exact lv_ifnonnull hx.1 hx.2.1 d h1 (hJ _ _ _ _ _ _ _ hc hs hw ρ lsC H locs S.pop)
  · exact hw.elim
theorem ss_goto (hx : x_Cx X z p l R s m args meth c) {o : Int} (hk : x_ok1 z pc len (.goto o) k zs = true) (d : decode (zB z) pc = .ok ((.goto o), len)) (hc : cells ≤ zC z) (hs : slots ≤ zS z) (hw : wpL x_Cal (zC z, zS z, x_rtc (zR z), sc) J Φ (((.goto o), k, zs) :: is) ls st M h cells slots)
    (hN : ∀ ls st M h c' n', c' ≤ zC z → n' ≤ zS z → wpL x_Cal (zC z, zS z, x_rtc (zR z), sc) J Φ is ls st M h c' n' → x_Wt X ρ0 n0 (zL z) p l e R s m args below meth c (x_Q X ρ0 n0 Φ below args s z) (pc + len) ls st M h c' n')
    (hJ : ∀ t ls st M h c' n', c' ≤ zC z → n' ≤ zS z → J t ls st M h c' n' → x_Wt X ρ0 n0 (zL z) p l e R s m args below meth c (x_Q X ρ0 n0 Φ below args s z) (t) ls st M h c' n') : x_Wt X ρ0 n0 (zL z) p l e R s m args below meth c (x_Q X ρ0 n0 Φ below args s z) (pc) ls st M h cells slots := by
  simp only [wpL] at hw
  split at hw
  · simp only [x_ok1, Bool.and_eq_true, decide_eq_true_eq, beq_iff_eq] at hk
    obtain ⟨h1, rfl⟩ := hk
    exact sn_goto hx h1 d (hJ _ _ _ _ _ _ _ hc hs hw)
  · exact hw.elim
theorem ss_getfield (hx : x_Cx X z p l R s m args meth c) {idx : Nat} (hk : x_ok1 z pc len (.getfield idx) k zs = true) (d : decode (zB z) pc = .ok ((.getfield idx), len)) (hc : cells ≤ zC z) (hs : slots ≤ zS z) (hw : wpL x_Cal (zC z, zS z, x_rtc (zR z), sc) J Φ (((.getfield idx), k, zs) :: is) ls st M h cells slots)
    (hN : ∀ ls st M h c' n', c' ≤ zC z → n' ≤ zS z → wpL x_Cal (zC z, zS z, x_rtc (zR z), sc) J Φ is ls st M h c' n' → x_Wt X ρ0 n0 (zL z) p l e R s m args below meth c (x_Q X ρ0 n0 Φ below args s z) (pc + len) ls st M h c' n')
    (hJ : ∀ t ls st M h c' n', c' ≤ zC z → n' ≤ zS z → J t ls st M h c' n' → x_Wt X ρ0 n0 (zL z) p l e R s m args below meth c (x_Q X ρ0 n0 Φ below args s z) (t) ls st M h c' n') : x_Wt X ρ0 n0 (zL z) p l e R s m args below meth c (x_Q X ρ0 n0 Φ below args s z) (pc) ls st M h cells slots := by
  simp only [wpL] at hw
  split at hw
  · rename_i q i k a st
    cases k with
    | nil => exact absurd hk (by simp [x_ok1])
    | cons pp k =>
      simp only [x_ok1, Bool.and_eq_true, decide_eq_true_eq, beq_iff_eq] at hk
      obtain ⟨h1, h2, h3, h4, rfl⟩ := hk
      have ht := x_tag0 h3
      refine sn_getf (v := xI (M a i)) hx h1 h2 (hx.hts _ (x_has_in h4)) d hw.1 (fun ρ => by rw [ht]; rfl) (fun ok => ?_) (hN _ _ _ _ _ _ hc hs hw.2)
      exact rng_i' (q := q) (i := i) (x_isl_i h1 ht) (by have := ok.2.2.2.2.1 a i (by rw [hw.1]; omega); rw [hw.1] at this; exact this)
  · rename_i q i k a st
    cases k with
    | nil => exact absurd hk (by simp [x_ok1])
    | cons pp k =>
      simp only [x_ok1, Bool.and_eq_true, decide_eq_true_eq, beq_iff_eq] at hk
      obtain ⟨h1, h2, h3, h4, rfl⟩ := hk
      have ht := x_tag1 h3
      refine sn_getf (v := xJ (M a i)) hx h1 h2 (hx.hts _ (x_has_in h4)) d hw.1 (fun ρ => by rw [ht]; rfl) (fun ok => ?_) (hN _ _ _ _ _ _ hc hs hw.2)
      exact rng_l' (q := q) (i := i) (x_isl_l h1 h2 ht) (by have := ok.2.2.2.2.1 a i (by rw [hw.1]; omega); rw [hw.1] at this; exact this)
  · rename_i q i k a st
    cases k with
    | nil => exact absurd hk (by simp [x_ok1])
    | cons pp k =>
      simp only [x_ok1, Bool.and_eq_true, decide_eq_true_eq, beq_iff_eq] at hk
      obtain ⟨h1, h2, h3, h4, rfl⟩ := hk
      refine sn_getf (v := xA (hP h a i)) hx h1 h2 (hx.hts _ (x_has_in h4)) d hw.1 (fun ρ => (x_fv2 h3).symm) (fun ok => ok.2.2.2.2.2 a i) (hN _ _ _ _ _ _ hc hs hw.2)
  · rename_i q i k a st
    cases k with
    | nil => exact absurd hk (by simp [x_ok1])
    | cons pp k =>
      simp only [x_ok1, Bool.and_eq_true, decide_eq_true_eq, beq_iff_eq] at hk
      obtain ⟨h1, h2, h3, h4, rfl⟩ := hk
      have ht := x_tag3 h3
      refine sn_getf (v := xI (M a i)) hx h1 h2 (hx.hts _ (x_has_in h4)) d hw.1 (fun ρ => by rw [ht]; rfl) (fun ok => ?_) (hN _ _ _ _ _ _ hc hs hw.2)
      exact rng_i' (q := q) (i := i) (x_isl_b h1 ht) (by have := ok.2.2.2.2.1 a i (by rw [hw.1]; omega); rw [hw.1] at this; exact this)
  · exact hw.elim
theorem ss_putfield (hx : x_Cx X z p l R s m args meth c) {idx : Nat} (hk : x_ok1 z pc len (.putfield idx) k zs = true) (d : decode (zB z) pc = .ok ((.putfield idx), len)) (hc : cells ≤ zC z) (hs : slots ≤ zS z) (hw : wpL x_Cal (zC z, zS z, x_rtc (zR z), sc) J Φ (((.putfield idx), k, zs) :: is) ls st M h cells slots)
    (hN : ∀ ls st M h c' n', c' ≤ zC z → n' ≤ zS z → wpL x_Cal (zC z, zS z, x_rtc (zR z), sc) J Φ is ls st M h c' n' → x_Wt X ρ0 n0 (zL z) p l e R s m args below meth c (x_Q X ρ0 n0 Φ below args s z) (pc + len) ls st M h c' n')
    (hJ : ∀ t ls st M h c' n', c' ≤ zC z → n' ≤ zS z → J t ls st M h c' n' → x_Wt X ρ0 n0 (zL z) p l e R s m args below meth c (x_Q X ρ0 n0 Φ below args s z) (t) ls st M h c' n') : x_Wt X ρ0 n0 (zL z) p l e R s m args below meth c (x_Q X ρ0 n0 Φ below args s z) (pc) ls st M h cells slots := by
  simp only [wpL] at hw
  split at hw
  · rename_i q i k v a st
    cases k with
    | nil => exact absurd hk (by simp [x_ok1])
    | cons pp k =>
      simp only [x_ok1, Bool.and_eq_true, decide_eq_true_eq, beq_iff_eq] at hk
      obtain ⟨h1, h2, h3, h4, h5, h6, rfl⟩ := hk
      rcases h5 with h5 | ⟨h5, h7, h8⟩
      · exact sn_putf hx h1 h2 (hx.hts _ (x_has_in h4)) h5 d hw.1 (v := xI v) (M' := x_w M a i v) (h' := h) rfl hw.1 (fun ρ => ⟨by rw [x_tag0 h3]; show _ = x_fv ρ _ (if a = a ∧ (i : Int) = i then v else M a i) _; rw [if_pos ⟨rfl, rfl⟩]; rfl, by rw [x_tag0 h3]; rfl, by rw [x_tag0 h3]; rfl⟩) (fun ρ j hj => by show x_fv ρ _ (if a = a ∧ (j : Int) = i then v else M a j) _ = _; rw [if_neg (by omega)]) (fun ρ b hb => x_w_o b hb) (fun ok hvk => ok.w a i v (fun _ => by rw [hw.1]; exact rng_i (by rw [h6]; rfl) hvk)) (hN _ _ _ _ _ _ hc hs hw.2)
      · exact sn_putfF hx h1 h2 (hx.hts _ (x_has_in h4)) h5 h7 h8 d hw.1 (v := xI v) (M' := x_w M a i v) (h' := h) rfl hw.1 (fun ρ => ⟨by rw [x_tag0 h3]; show _ = x_fv ρ _ (if a = a ∧ (i : Int) = i then v else M a i) _; rw [if_pos ⟨rfl, rfl⟩]; rfl, by rw [x_tag0 h3]; rfl, by rw [x_tag0 h3]; rfl⟩) (fun ρ j hj => by show x_fv ρ _ (if a = a ∧ (j : Int) = i then v else M a j) _ = _; rw [if_neg (by omega)]) (fun ρ b hb => x_w_o b hb) (fun ok hvk => ok.w a i v (fun _ => by rw [hw.1]; exact rng_i (by rw [h6]; rfl) hvk)) (hN _ _ _ _ _ _ hc hs hw.2)
  · rename_i q i k v a st
    cases k with
    | nil => exact absurd hk (by simp [x_ok1])
    | cons pp k =>
      simp only [x_ok1, Bool.and_eq_true, decide_eq_true_eq, beq_iff_eq] at hk
      obtain ⟨h1, h2, h3, h4, h5, h6, rfl⟩ := hk
      rcases h5 with h5 | ⟨h5, h7, h8⟩
      · exact sn_putf hx h1 h2 (hx.hts _ (x_has_in h4)) h5 d hw.1 (v := xJ v) (M' := x_w M a i v) (h' := h) rfl hw.1 (fun ρ => ⟨by rw [x_tag1 h3]; show _ = x_fv ρ _ (if a = a ∧ (i : Int) = i then v else M a i) _; rw [if_pos ⟨rfl, rfl⟩]; rfl, by rw [x_tag1 h3]; rfl, by rw [x_tag1 h3]; rfl⟩) (fun ρ j hj => by show x_fv ρ _ (if a = a ∧ (j : Int) = i then v else M a j) _ = _; rw [if_neg (by omega)]) (fun ρ b hb => x_w_o b hb) (fun ok hvk => ok.w a i v (fun _ => by rw [hw.1]; exact rng_l (by rw [h6]; rfl) hvk)) (hN _ _ _ _ _ _ hc hs hw.2)
      · exact sn_putfF hx h1 h2 (hx.hts _ (x_has_in h4)) h5 h7 h8 d hw.1 (v := xJ v) (M' := x_w M a i v) (h' := h) rfl hw.1 (fun ρ => ⟨by rw [x_tag1 h3]; show _ = x_fv ρ _ (if a = a ∧ (i : Int) = i then v else M a i) _; rw [if_pos ⟨rfl, rfl⟩]; rfl, by rw [x_tag1 h3]; rfl, by rw [x_tag1 h3]; rfl⟩) (fun ρ j hj => by show x_fv ρ _ (if a = a ∧ (j : Int) = i then v else M a j) _ = _; rw [if_neg (by omega)]) (fun ρ b hb => x_w_o b hb) (fun ok hvk => ok.w a i v (fun _ => by rw [hw.1]; exact rng_l (by rw [h6]; rfl) hvk)) (hN _ _ _ _ _ _ hc hs hw.2)
  · rename_i q i k r a st
    cases k with
    | nil => exact absurd hk (by simp [x_ok1])
    | cons pp k =>
      simp only [x_ok1, Bool.and_eq_true, decide_eq_true_eq, beq_iff_eq] at hk
      obtain ⟨h1, h2, h3, h4, h5, h6, rfl⟩ := hk
      rcases h5 with h5 | ⟨h5, h7, h8⟩
      · exact sn_putf hx h1 h2 (hx.hts _ (x_has_in h4)) h5 d hw.1 (v := xA r) (M' := M) (h' := x_pw h a i r) rfl hw.1 (fun ρ => ⟨by rw [show hP (x_pw h a i r) a i = r from if_pos ⟨rfl, rfl⟩]; exact (x_fv2 h3).symm, x_nar2 h3 _, x_fit2 h3 _⟩) (fun ρ j hj => by rw [show hP (x_pw h a i r) a j = hP h a j from if_neg (by omega)]) (fun ρ b hb => x_pw_o b hb) (fun ok hvk => ok.pw a i r hvk) (hN _ _ _ _ _ _ hc hs hw.2)
      · exact sn_putfF hx h1 h2 (hx.hts _ (x_has_in h4)) h5 h7 h8 d hw.1 (v := xA r) (M' := M) (h' := x_pw h a i r) rfl hw.1 (fun ρ => ⟨by rw [show hP (x_pw h a i r) a i = r from if_pos ⟨rfl, rfl⟩]; exact (x_fv2 h3).symm, x_nar2 h3 _, x_fit2 h3 _⟩) (fun ρ j hj => by rw [show hP (x_pw h a i r) a j = hP h a j from if_neg (by omega)]) (fun ρ b hb => x_pw_o b hb) (fun ok hvk => ok.pw a i r hvk) (hN _ _ _ _ _ _ hc hs hw.2)
  · rename_i q i k v a st
    cases k with
    | nil => exact absurd hk (by simp [x_ok1])
    | cons pp k =>
      simp only [x_ok1, Bool.and_eq_true, decide_eq_true_eq, beq_iff_eq] at hk
      obtain ⟨h1, h2, h3, h4, h5, h6, rfl⟩ := hk
      rcases h5 with h5 | ⟨h5, h7, h8⟩
      · exact sn_putf hx h1 h2 (hx.hts _ (x_has_in h4)) h5 d hw.1.1 (v := xI v) (M' := x_w M a i v) (h' := h) rfl hw.1.1 (fun ρ => ⟨by rw [x_tag3 h3]; show _ = x_fv ρ _ (if a = a ∧ (i : Int) = i then v else M a i) _; rw [if_pos ⟨rfl, rfl⟩]; rfl, by rw [x_tag3 h3]; exact x_nb hw.1.2, by rw [x_tag3 h3]; exact x_fb (x_w8f hw.1.2).1 (x_w8f hw.1.2).2⟩) (fun ρ j hj => by show x_fv ρ _ (if a = a ∧ (j : Int) = i then v else M a j) _ = _; rw [if_neg (by omega)]) (fun ρ b hb => x_w_o b hb) (fun ok hvk => ok.w a i v (fun _ => by rw [hw.1.1]; exact rng_i (by rw [h6]; rfl) hvk)) (hN _ _ _ _ _ _ hc hs hw.2)
      · exact sn_putfF hx h1 h2 (hx.hts _ (x_has_in h4)) h5 h7 h8 d hw.1.1 (v := xI v) (M' := x_w M a i v) (h' := h) rfl hw.1.1 (fun ρ => ⟨by rw [x_tag3 h3]; show _ = x_fv ρ _ (if a = a ∧ (i : Int) = i then v else M a i) _; rw [if_pos ⟨rfl, rfl⟩]; rfl, by rw [x_tag3 h3]; exact x_nb hw.1.2, by rw [x_tag3 h3]; exact x_fb (x_w8f hw.1.2).1 (x_w8f hw.1.2).2⟩) (fun ρ j hj => by show x_fv ρ _ (if a = a ∧ (j : Int) = i then v else M a j) _ = _; rw [if_neg (by omega)]) (fun ρ b hb => x_w_o b hb) (fun ok hvk => ok.w a i v (fun _ => by rw [hw.1.1]; exact rng_i (by rw [h6]; rfl) hvk)) (hN _ _ _ _ _ _ hc hs hw.2)
  · exact hw.elim
theorem ss_iaload (hx : x_Cx X z p l R s m args meth c) (hsc : x_scok sc X) (hk : x_ok1 z pc len .iaload k zs = true) (d : decode (zB z) pc = .ok (.iaload, len)) (hc : cells ≤ zC z) (hs : slots ≤ zS z) (hw : wpL x_Cal (zC z, zS z, x_rtc (zR z), sc) J Φ ((.iaload, k, zs) :: is) ls st M h cells slots)
    (hN : ∀ ls st M h c' n', c' ≤ zC z → n' ≤ zS z → wpL x_Cal (zC z, zS z, x_rtc (zR z), sc) J Φ is ls st M h c' n' → x_Wt X ρ0 n0 (zL z) p l e R s m args below meth c (x_Q X ρ0 n0 Φ below args s z) (pc + len) ls st M h c' n')
    (hJ : ∀ t ls st M h c' n', c' ≤ zC z → n' ≤ zS z → J t ls st M h c' n' → x_Wt X ρ0 n0 (zL z) p l e R s m args below meth c (x_Q X ρ0 n0 Φ below args s z) (t) ls st M h c' n') : x_Wt X ρ0 n0 (zL z) p l e R s m args below meth c (x_Q X ρ0 n0 Φ below args s z) (pc) ls st M h cells slots := by
  simp only [x_ok1, beq_iff_eq] at hk
  subst hk
  simp only [wpL] at hw
  split at hw
  · exact sn_iaload hx d hw.1 hw.2.1 (hN _ _ _ _ _ _ hc hs hw.2.2)
  · exact sn_sld hx hsc d hw.1 hw.2.1 (hN _ _ _ _ _ _ hc hs hw.2.2)
  · exact hw.elim
theorem ss_baload (hx : x_Cx X z p l R s m args meth c) (hk : x_ok1 z pc len .baload k zs = true) (d : decode (zB z) pc = .ok (.baload, len)) (hc : cells ≤ zC z) (hs : slots ≤ zS z) (hw : wpL x_Cal (zC z, zS z, x_rtc (zR z), sc) J Φ ((.baload, k, zs) :: is) ls st M h cells slots)
    (hN : ∀ ls st M h c' n', c' ≤ zC z → n' ≤ zS z → wpL x_Cal (zC z, zS z, x_rtc (zR z), sc) J Φ is ls st M h c' n' → x_Wt X ρ0 n0 (zL z) p l e R s m args below meth c (x_Q X ρ0 n0 Φ below args s z) (pc + len) ls st M h c' n')
    (hJ : ∀ t ls st M h c' n', c' ≤ zC z → n' ≤ zS z → J t ls st M h c' n' → x_Wt X ρ0 n0 (zL z) p l e R s m args below meth c (x_Q X ρ0 n0 Φ below args s z) (t) ls st M h c' n') : x_Wt X ρ0 n0 (zL z) p l e R s m args below meth c (x_Q X ρ0 n0 Φ below args s z) (pc) ls st M h cells slots := by
  simp only [x_ok1, Bool.and_eq_true, decide_eq_true_eq, beq_iff_eq] at hk
  subst hk
  simp only [wpL] at hw
  split at hw
  · exact sn_baload hx d hw.1 hw.2.1 (hN _ _ _ _ _ _ hc hs hw.2.2)
  · exact hw.elim
theorem ss_iastore (hx : x_Cx X z p l R s m args meth c) (hk : x_ok1 z pc len .iastore k zs = true) (d : decode (zB z) pc = .ok (.iastore, len)) (hc : cells ≤ zC z) (hs : slots ≤ zS z) (hw : wpL x_Cal (zC z, zS z, x_rtc (zR z), sc) J Φ ((.iastore, k, zs) :: is) ls st M h cells slots)
    (hN : ∀ ls st M h c' n', c' ≤ zC z → n' ≤ zS z → wpL x_Cal (zC z, zS z, x_rtc (zR z), sc) J Φ is ls st M h c' n' → x_Wt X ρ0 n0 (zL z) p l e R s m args below meth c (x_Q X ρ0 n0 Φ below args s z) (pc + len) ls st M h c' n')
    (hJ : ∀ t ls st M h c' n', c' ≤ zC z → n' ≤ zS z → J t ls st M h c' n' → x_Wt X ρ0 n0 (zL z) p l e R s m args below meth c (x_Q X ρ0 n0 Φ below args s z) (t) ls st M h c' n') : x_Wt X ρ0 n0 (zL z) p l e R s m args below meth c (x_Q X ρ0 n0 Φ below args s z) (pc) ls st M h cells slots := by
  simp only [x_ok1, Bool.and_eq_true, decide_eq_true_eq, beq_iff_eq] at hk
  subst hk
  simp only [wpL] at hw
  split at hw
  · exact sn_iastore hx d hw.1 hw.2.1 (hN _ _ _ _ _ _ hc hs hw.2.2)
  · exact hw.elim
theorem ss_bastore (hx : x_Cx X z p l R s m args meth c) (hk : x_ok1 z pc len .bastore k zs = true) (d : decode (zB z) pc = .ok (.bastore, len)) (hc : cells ≤ zC z) (hs : slots ≤ zS z) (hw : wpL x_Cal (zC z, zS z, x_rtc (zR z), sc) J Φ ((.bastore, k, zs) :: is) ls st M h cells slots)
    (hN : ∀ ls st M h c' n', c' ≤ zC z → n' ≤ zS z → wpL x_Cal (zC z, zS z, x_rtc (zR z), sc) J Φ is ls st M h c' n' → x_Wt X ρ0 n0 (zL z) p l e R s m args below meth c (x_Q X ρ0 n0 Φ below args s z) (pc + len) ls st M h c' n')
    (hJ : ∀ t ls st M h c' n', c' ≤ zC z → n' ≤ zS z → J t ls st M h c' n' → x_Wt X ρ0 n0 (zL z) p l e R s m args below meth c (x_Q X ρ0 n0 Φ below args s z) (t) ls st M h c' n') : x_Wt X ρ0 n0 (zL z) p l e R s m args below meth c (x_Q X ρ0 n0 Φ below args s z) (pc) ls st M h cells slots := by
  simp only [x_ok1, Bool.and_eq_true, decide_eq_true_eq, beq_iff_eq] at hk
  subst hk
  simp only [wpL] at hw
  split at hw
  · exact sn_bastore hx d hw.1 hw.2.1 (hN _ _ _ _ _ _ hc hs hw.2.2)
  · exact hw.elim
theorem ss_aaload (hx : x_Cx X z p l R s m args meth c) (hk : x_ok1 z pc len .aaload k zs = true) (d : decode (zB z) pc = .ok (.aaload, len)) (hc : cells ≤ zC z) (hs : slots ≤ zS z) (hw : wpL x_Cal (zC z, zS z, x_rtc (zR z), sc) J Φ ((.aaload, k, zs) :: is) ls st M h cells slots)
    (hN : ∀ ls st M h c' n', c' ≤ zC z → n' ≤ zS z → wpL x_Cal (zC z, zS z, x_rtc (zR z), sc) J Φ is ls st M h c' n' → x_Wt X ρ0 n0 (zL z) p l e R s m args below meth c (x_Q X ρ0 n0 Φ below args s z) (pc + len) ls st M h c' n')
    (hJ : ∀ t ls st M h c' n', c' ≤ zC z → n' ≤ zS z → J t ls st M h c' n' → x_Wt X ρ0 n0 (zL z) p l e R s m args below meth c (x_Q X ρ0 n0 Φ below args s z) (t) ls st M h c' n') : x_Wt X ρ0 n0 (zL z) p l e R s m args below meth c (x_Q X ρ0 n0 Φ below args s z) (pc) ls st M h cells slots := by
  simp only [x_ok1, beq_iff_eq] at hk
  subst hk
  simp only [wpL] at hw
  split at hw
  · rcases hw.1 with h1 | h1
    · exact sn_aaload23 hx d h1 hw.2.1 (hN _ _ _ _ _ _ hc hs hw.2.2)
    · exact sn_aaload24 hx d h1 hw.2.1 (hN _ _ _ _ _ _ hc hs hw.2.2)
  · exact hw.elim
theorem ss_aastore (hx : x_Cx X z p l R s m args meth c) (hk : x_ok1 z pc len .aastore k zs = true) (d : decode (zB z) pc = .ok (.aastore, len)) (hc : cells ≤ zC z) (hs : slots ≤ zS z) (hw : wpL x_Cal (zC z, zS z, x_rtc (zR z), sc) J Φ ((.aastore, k, zs) :: is) ls st M h cells slots)
    (hN : ∀ ls st M h c' n', c' ≤ zC z → n' ≤ zS z → wpL x_Cal (zC z, zS z, x_rtc (zR z), sc) J Φ is ls st M h c' n' → x_Wt X ρ0 n0 (zL z) p l e R s m args below meth c (x_Q X ρ0 n0 Φ below args s z) (pc + len) ls st M h c' n')
    (hJ : ∀ t ls st M h c' n', c' ≤ zC z → n' ≤ zS z → J t ls st M h c' n' → x_Wt X ρ0 n0 (zL z) p l e R s m args below meth c (x_Q X ρ0 n0 Φ below args s z) (t) ls st M h c' n') : x_Wt X ρ0 n0 (zL z) p l e R s m args below meth c (x_Q X ρ0 n0 Φ below args s z) (pc) ls st M h cells slots := by
  simp only [x_ok1, beq_iff_eq] at hk
  subst hk
  simp only [wpL] at hw
  split at hw
  · rcases hw.1 with ⟨h1, h2⟩ | ⟨h1, h2⟩
    · exact sn_aastore23 hx d h1 h2 hw.2.1 (hN _ _ _ _ _ _ hc hs hw.2.2)
    · exact sn_aastore24 hx d h1 h2 hw.2.1 (hN _ _ _ _ _ _ hc hs hw.2.2)
  · exact hw.elim
theorem ss_alen (hx : x_Cx X z p l R s m args meth c) (hsc : x_scok sc X) (hk : x_ok1 z pc len .arraylength k zs = true) (d : decode (zB z) pc = .ok (.arraylength, len)) (hc : cells ≤ zC z) (hs : slots ≤ zS z) (hw : wpL x_Cal (zC z, zS z, x_rtc (zR z), sc) J Φ ((.arraylength, k, zs) :: is) ls st M h cells slots)
    (hN : ∀ ls st M h c' n', c' ≤ zC z → n' ≤ zS z → wpL x_Cal (zC z, zS z, x_rtc (zR z), sc) J Φ is ls st M h c' n' → x_Wt X ρ0 n0 (zL z) p l e R s m args below meth c (x_Q X ρ0 n0 Φ below args s z) (pc + len) ls st M h c' n')
    (hJ : ∀ t ls st M h c' n', c' ≤ zC z → n' ≤ zS z → J t ls st M h c' n' → x_Wt X ρ0 n0 (zL z) p l e R s m args below meth c (x_Q X ρ0 n0 Φ below args s z) (t) ls st M h c' n') : x_Wt X ρ0 n0 (zL z) p l e R s m args below meth c (x_Q X ρ0 n0 Φ below args s z) (pc) ls st M h cells slots := by
  simp only [x_ok1, beq_iff_eq] at hk
  subst hk
  simp only [wpL] at hw
  split at hw
  · exact sn_alen hx d hw.1 hw.2.1 (hN _ _ _ _ _ _ hc hs hw.2.2)
  · exact sn_slen hx hsc hw.2.1 d hw.1 (hN _ _ _ _ _ _ hc hs hw.2.2)
  · exact hw.elim
theorem ss_new (hx : x_Cx X z p l R s m args meth c) {idx : Nat} (hk : x_ok1 z pc len (.new idx) k zs = true) (d : decode (zB z) pc = .ok ((.new idx), len)) (hc : cells ≤ zC z) (hs : slots ≤ zS z) (hw : wpL x_Cal (zC z, zS z, x_rtc (zR z), sc) J Φ (((.new idx), k, zs) :: is) ls st M h cells slots)
    (hN : ∀ ls st M h c' n', c' ≤ zC z → n' ≤ zS z → wpL x_Cal (zC z, zS z, x_rtc (zR z), sc) J Φ is ls st M h c' n' → x_Wt X ρ0 n0 (zL z) p l e R s m args below meth c (x_Q X ρ0 n0 Φ below args s z) (pc + len) ls st M h c' n')
    (hJ : ∀ t ls st M h c' n', c' ≤ zC z → n' ≤ zS z → J t ls st M h c' n' → x_Wt X ρ0 n0 (zL z) p l e R s m args below meth c (x_Q X ρ0 n0 Φ below args s z) (t) ls st M h c' n') : x_Wt X ρ0 n0 (zL z) p l e R s m args below meth c (x_Q X ρ0 n0 Φ below args s z) (pc) ls st M h cells slots := by
  simp only [wpL] at hw
  split at hw
  · rename_i q k
    rcases k with _ | ⟨p1, _ | ⟨p2, _ | ⟨p3, k⟩⟩⟩
    · exact absurd hk (by simp [x_ok1])
    · exact absurd hk (by simp [x_ok1])
    · exact absurd hk (by simp [x_ok1])
    · simp only [x_ok1, Bool.and_eq_true, decide_eq_true_eq, beq_iff_eq] at hk
      obtain ⟨h1, h2, h3, h4, rfl⟩ := hk
      exact sn_new hx h1 (hx.hts _ (x_has_in h2)) (hx.hts _ (x_has_in h3)) (hx.hts _ (x_has_in h4)) d hw.1.1 hw.1.2 (hN _ _ _ _ _ _ hw.1.1 hw.1.2 hw.2)
  · exact hw.elim
theorem ss_newarray (hx : x_Cx X z p l R s m args meth c) {t : ArrayType} (hk : x_ok1 z pc len (.newarray t) k zs = true) (d : decode (zB z) pc = .ok ((.newarray t), len)) (hc : cells ≤ zC z) (hs : slots ≤ zS z) (hw : wpL x_Cal (zC z, zS z, x_rtc (zR z), sc) J Φ (((.newarray t), k, zs) :: is) ls st M h cells slots)
    (hN : ∀ ls st M h c' n', c' ≤ zC z → n' ≤ zS z → wpL x_Cal (zC z, zS z, x_rtc (zR z), sc) J Φ is ls st M h c' n' → x_Wt X ρ0 n0 (zL z) p l e R s m args below meth c (x_Q X ρ0 n0 Φ below args s z) (pc + len) ls st M h c' n')
    (hJ : ∀ t ls st M h c' n', c' ≤ zC z → n' ≤ zS z → J t ls st M h c' n' → x_Wt X ρ0 n0 (zL z) p l e R s m args below meth c (x_Q X ρ0 n0 Φ below args s z) (t) ls st M h c' n') : x_Wt X ρ0 n0 (zL z) p l e R s m args below meth c (x_Q X ρ0 n0 Φ below args s z) (pc) ls st M h cells slots := by
  simp only [wpL] at hw
  split at hw
  · rename_i q k x st
    cases k with
    | nil => exact absurd hk (by simp [x_ok1])
    | cons pp k =>
      simp only [x_ok1, Bool.and_eq_true, decide_eq_true_eq, beq_iff_eq] at hk
      obtain ⟨h1, h0, h2, rfl⟩ := hk
      obtain ⟨⟨w1, w2, w3, w4⟩, w5⟩ := hw
      cases t with
      | int => subst h1; exact sn_newarray20 hx (hx.hts _ (x_has_in h2)) d ⟨w1, w2⟩ w3 w4 (hN _ _ _ _ _ _ w3 w4 w5)
      | byte => subst h1; exact sn_newarray21 hx (hx.hts _ (x_has_in h2)) d ⟨w1, w2⟩ w3 w4 (hN _ _ _ _ _ _ w3 w4 w5)
      | _ => exact absurd h0 (by rw [← h1]; decide)
  · exact hw.elim
theorem ss_anewarray (hx : x_Cx X z p l R s m args meth c) {idx : Nat} (hk : x_ok1 z pc len (.anewarray idx) k zs = true) (d : decode (zB z) pc = .ok ((.anewarray idx), len)) (hc : cells ≤ zC z) (hs : slots ≤ zS z) (hw : wpL x_Cal (zC z, zS z, x_rtc (zR z), sc) J Φ (((.anewarray idx), k, zs) :: is) ls st M h cells slots)
    (hN : ∀ ls st M h c' n', c' ≤ zC z → n' ≤ zS z → wpL x_Cal (zC z, zS z, x_rtc (zR z), sc) J Φ is ls st M h c' n' → x_Wt X ρ0 n0 (zL z) p l e R s m args below meth c (x_Q X ρ0 n0 Φ below args s z) (pc + len) ls st M h c' n')
    (hJ : ∀ t ls st M h c' n', c' ≤ zC z → n' ≤ zS z → J t ls st M h c' n' → x_Wt X ρ0 n0 (zL z) p l e R s m args below meth c (x_Q X ρ0 n0 Φ below args s z) (t) ls st M h c' n') : x_Wt X ρ0 n0 (zL z) p l e R s m args below meth c (x_Q X ρ0 n0 Φ below args s z) (pc) ls st M h cells slots := by
  simp only [wpL] at hw
  split at hw
  · rename_i q k x st
    obtain ⟨⟨w1, w2, w3, w4⟩, w5⟩ := hw
    rcases k with _ | ⟨p1, _ | ⟨p2, k⟩⟩
    · exact absurd hk (by simp [x_ok1])
    · exact absurd hk (by simp [x_ok1])
    · simp only [x_ok1, Bool.or_eq_true, Bool.and_eq_true, decide_eq_true_eq, beq_iff_eq] at hk
      rcases hk with ⟨rfl, h1, h2, rfl⟩ | ⟨rfl, h1, h2, rfl⟩
      · exact sn_anewarray23 hx (hx.hts _ (x_has_in h1)) (va_AO.of (hx.O.2.2.1.1 _ (x_hasO_in h2).1 rfl)) d ⟨w1, w2⟩ w3 w4 (hN _ _ _ _ _ _ w3 w4 w5)
      · exact sn_anewarray24 hx (hx.hts _ (x_has_in h1)) (va_AO.of (hx.O.2.2.1.1 _ (x_hasO_in h2).1 rfl)) d ⟨w1, w2⟩ w3 w4 (hN _ _ _ _ _ _ w3 w4 w5)
  · exact hw.elim
theorem x_dec {h : xH} {q na : Nat} {st : List xV} (hrc : x_rc h q (st.drop na)) (hq : q < 10) : ∃ r, hK h r = q ∧ st = ((st.take na).reverse).reverse ++ xA r :: st.drop (na + 1) ∧ (st.take (na + 1)).reverse = xA r :: (st.take na).reverse ∧ (st.take na).reverse.length = na := by
  cases hd : st.drop na with
  | nil => rw [hd] at hrc; exact hrc.elim
  | cons v w =>
    rw [hd] at hrc
    have hl : na < st.length := by
      have := congrArg List.length hd
      simp at this
      omega
    have hv : st[na]? = some v := by
      have h1 := List.getElem?_drop (xs := st) (i := na) (j := 0)
      rw [hd] at h1
      simpa using h1.symm
    have hw : st.drop (na + 1) = w := by rw [← List.drop_drop, hd]; rfl
    have ht : st.take (na + 1) = st.take na ++ [v] := by rw [List.take_succ, hv]; rfl
    rcases v with x | x | r | a | i
    · exact hrc.elim
    · exact hrc.elim
    · refine ⟨r, hrc.2, ?_, ?_, by simp; omega⟩
      · rw [List.reverse_reverse, hw, ← hd, List.take_append_drop]
      · rw [ht, List.reverse_append]
        rfl
    · exact hrc.elim
    · exact absurd hrc (by show ¬ q = 50; omega)
theorem x_decT {h : xH} {na : Nat} {st : List xV} (hrc : x_rc h 50 (st.drop na)) : ∃ r, st = ((st.take na).reverse).reverse ++ xS r :: st.drop (na + 1) ∧ (st.take (na + 1)).reverse = xS r :: (st.take na).reverse ∧ (st.take na).reverse.length = na := by
  cases hd : st.drop na with
  | nil => rw [hd] at hrc; exact hrc.elim
  | cons v w =>
    rw [hd] at hrc
    have hl : na < st.length := by
      have := congrArg List.length hd
      simp at this
      omega
    have hv : st[na]? = some v := by
      have h1 := List.getElem?_drop (xs := st) (i := na) (j := 0)
      rw [hd] at h1
      simpa using h1.symm
    have hw : st.drop (na + 1) = w := by rw [← List.drop_drop, hd]; rfl
    have ht : st.take (na + 1) = st.take na ++ [v] := by rw [List.take_succ, hv]; rfl
    rcases v with x | x | r | a | i
    · exact hrc.elim
    · exact hrc.elim
    · exact absurd hrc.1 (by omega)
    · exact hrc.elim
    · refine ⟨i, ?_, ?_, by simp; omega⟩
      · rw [List.reverse_reverse, hw, ← hd, List.take_append_drop]
      · rw [ht, List.reverse_append]
        rfl
theorem x_decS {na : Nat} {st : List xV} (hl : na ≤ st.length) : st = ((st.take na).reverse).reverse ++ st.drop na ∧ (st.take na).reverse.length = na := by
  refine ⟨by rw [List.reverse_reverse, List.take_append_drop], by simp; omega⟩
theorem ss_invokevirtual (hx : x_Cx X z p l R s m args meth c) {idx : Nat} (hk : x_ok1 z pc len (.invokevirtual idx) k zs = true) (d : decode (zB z) pc = .ok ((.invokevirtual idx), len)) (hc : cells ≤ zC z) (hs : slots ≤ zS z) (hw : wpL x_Cal (zC z, zS z, x_rtc (zR z), sc) J Φ (((.invokevirtual idx), k, zs) :: is) ls st M h cells slots)
    (hN : ∀ ls st M h c' n', c' ≤ zC z → n' ≤ zS z → wpL x_Cal (zC z, zS z, x_rtc (zR z), sc) J Φ is ls st M h c' n' → x_Wt X ρ0 n0 (zL z) p l e R s m args below meth c (x_Q X ρ0 n0 Φ below args s z) (pc + len) ls st M h c' n')
    (hJ : ∀ t ls st M h c' n', c' ≤ zC z → n' ≤ zS z → J t ls st M h c' n' → x_Wt X ρ0 n0 (zL z) p l e R s m args below meth c (x_Q X ρ0 n0 Φ below args s z) (t) ls st M h c' n') : x_Wt X ρ0 n0 (zL z) p l e R s m args below meth c (x_Q X ρ0 n0 Φ below args s z) (pc) ls st M h cells slots := by
  simp only [wpL] at hw
  split at hw
  · rename_i na mc ms q k zz
    rcases k with _ | ⟨pl, _ | ⟨pi, _ | ⟨pe, _ | ⟨p1, _ | ⟨p2, k⟩⟩⟩⟩⟩
    · exact absurd hk (by simp [x_ok1])
    · exact absurd hk (by simp [x_ok1])
    · exact absurd hk (by simp [x_ok1])
    · exact absurd hk (by simp [x_ok1])
    · exact absurd hk (by simp [x_ok1])
    · simp only [x_ok1, Bool.and_eq_true, decide_eq_true_eq, beq_iff_eq] at hk
      obtain ⟨rfl, rfl, h3, h4, h5, h6, h7, rfl⟩ := hk
      obtain ⟨w1, ⟨w2, w3⟩, w4, w5, w6⟩ := hw
      rcases h3 with h3 | h3
      rotate_left
      · subst h3
        obtain ⟨r, e1, e2, e3⟩ := x_decT w1
        rw [e2] at w6
        rw [e1]
        exact sn_callVS hx (hx.hts _ (x_has_in h4)) (hx.hts _ (x_has_in h5)) (hx.hts _ (x_has_in h6)) d w6 (by rw [e3]; exact x_okv_in h7) w4 w2 w3 (fun M' h' k => hN _ _ _ _ _ _ w2 w3 k) (fun v M' h' k => hN _ _ _ _ _ _ w2 w3 k) (fun e M' h' k => k)
      rw [show x_rcn q = (x_cl q).1 from if_neg (by omega)] at h6
      obtain ⟨r, hr, e1, e2, e3⟩ := x_dec w1 h3
      rw [e2] at w6
      rw [e1]
      exact sn_callV hx (hx.hts _ (x_has_in h4)) (hx.hts _ (x_has_in h5)) (hx.hts _ (x_has_in h6)) d h3 hr w6 (by rw [e3]; exact x_okv_in h7) w4 w2 w3 (fun M' h' k => hN _ _ _ _ _ _ w2 w3 k) (fun v M' h' k => hN _ _ _ _ _ _ w2 w3 k) (fun e M' h' k => k)
  · rename_i na mc ms q k zz zx
    rcases k with _ | ⟨pl, _ | ⟨pi, _ | ⟨pe, _ | ⟨p1, _ | ⟨p2, _ | ⟨psm, _ | ⟨pix, _ | ⟨pcx, k⟩⟩⟩⟩⟩⟩⟩⟩
    · exact absurd hk (by simp [x_ok1])
    · exact absurd hk (by simp [x_ok1])
    · exact absurd hk (by simp [x_ok1])
    · exact absurd hk (by simp [x_ok1])
    · exact absurd hk (by simp [x_ok1])
    · exact absurd hk (by simp [x_ok1])
    · exact absurd hk (by simp [x_ok1])
    · exact absurd hk (by simp [x_ok1])
    · simp only [x_ok1, Bool.and_eq_true, decide_eq_true_eq, beq_iff_eq] at hk
      obtain ⟨rfl, rfl, h3, h4, h5, h6, h8, h9, h10, h11, h12, h7, rfl⟩ := hk
      obtain ⟨w1, ⟨w2, w3⟩, w4, w5, w6⟩ := hw
      obtain ⟨r, hr, e1, e2, e3⟩ := x_dec w1 h3
      rw [e2] at w6
      rw [e1]
      exact sn_callVX hx (hx.hts _ (x_has_in h4)) (hx.hts _ (x_has_in h5)) (hx.hts _ (x_has_in h6)) (hx.hts _ (x_has_in h8)) (hx.hts _ (x_has_in h9)) (hx.hts _ (x_has_in h10)) h11 (by rw [e3]; exact h12) d h3 hr (fun e M' h' k => k) w6 (by rw [e3]; exact x_okv_in h7) w4 w2 w3 (fun M' h' k => hN _ _ _ _ _ _ w2 w3 k) (fun v M' h' k => hN _ _ _ _ _ _ w2 w3 k)
  · exact hw.elim
theorem ss_invokespecial (hx : x_Cx X z p l R s m args meth c) {idx : Nat} (hk : x_ok1 z pc len (.invokespecial idx) k zs = true) (d : decode (zB z) pc = .ok ((.invokespecial idx), len)) (hc : cells ≤ zC z) (hs : slots ≤ zS z) (hw : wpL x_Cal (zC z, zS z, x_rtc (zR z), sc) J Φ (((.invokespecial idx), k, zs) :: is) ls st M h cells slots)
    (hN : ∀ ls st M h c' n', c' ≤ zC z → n' ≤ zS z → wpL x_Cal (zC z, zS z, x_rtc (zR z), sc) J Φ is ls st M h c' n' → x_Wt X ρ0 n0 (zL z) p l e R s m args below meth c (x_Q X ρ0 n0 Φ below args s z) (pc + len) ls st M h c' n')
    (hJ : ∀ t ls st M h c' n', c' ≤ zC z → n' ≤ zS z → J t ls st M h c' n' → x_Wt X ρ0 n0 (zL z) p l e R s m args below meth c (x_Q X ρ0 n0 Φ below args s z) (t) ls st M h c' n') : x_Wt X ρ0 n0 (zL z) p l e R s m args below meth c (x_Q X ρ0 n0 Φ below args s z) (pc) ls st M h cells slots := by
  simp only [wpL] at hw
  split at hw
  · rename_i k
    split at hw
    · rename_i r st
      obtain ⟨w0, w1, w2⟩ := hw
      rcases k with _ | ⟨pl, _ | ⟨pi, _ | ⟨p2, k⟩⟩⟩
      · exact absurd hk (by simp [x_ok1])
      · exact absurd hk (by simp [x_ok1])
      · exact absurd hk (by simp [x_ok1])
      · simp only [x_ok1, Bool.and_eq_true, decide_eq_true_eq, beq_iff_eq] at hk
        obtain ⟨h1, h2, h3, h4, h5, rfl⟩ := hk
        exact sn_obj hx (hx.hts _ (x_has_in h1)) (hx.hts _ (x_has_in h2)) (hx.hts _ (x_has_in h3)) w0 d h4 h5 w1 (hN _ _ _ _ _ _ hc hs w2)
    · exact hw.elim
  · rename_i na mc ms q k zz
    rcases k with _ | ⟨nst, _ | ⟨pl, _ | ⟨pi, _ | ⟨p1, _ | ⟨p2, k⟩⟩⟩⟩⟩
    · exact absurd hk (by simp [x_ok1])
    · exact absurd hk (by simp [x_ok1])
    · exact absurd hk (by simp [x_ok1])
    · exact absurd hk (by simp [x_ok1])
    · exact absurd hk (by simp [x_ok1])
    · simp only [x_ok1, Bool.or_eq_true, Bool.and_eq_true, decide_eq_true_eq, beq_iff_eq] at hk
      obtain ⟨rfl, rfl, h3, h4, h5, h6, h8, h7, rfl⟩ := hk
      obtain ⟨w1, ⟨w2, w3⟩, w4, w5, w6⟩ := hw
      obtain ⟨r, hr, e1, e2, e3⟩ := x_dec w1 h3
      rw [e2] at w6
      rw [e1]
      rcases h4 with ⟨-, h4⟩ | ⟨-, h4⟩
      · exact sn_callI hx (hx.hts _ (x_has_in h4)) (hx.hts _ (x_has_in h5)) h6 h8 d h3 hr (fun e M' h' k => k) w6 (by rw [e3]; exact x_okv_in h7) w4 w2 w3 (fun M' h' k => hN _ _ _ _ _ _ w2 w3 k) (fun v M' h' k => hN _ _ _ _ _ _ w2 w3 k)
      · exact sn_callIN hx RX7 (va_Nw.use rfl (hx.O.2.2.1.1 _ (x_hasO_in h4).1 rfl)) (hx.hts _ (x_has_in h5)) h6 h8 d h3 hr (fun e M' h' k => k) w6 (by rw [e3]; exact x_okv_in h7) w4 w2 w3 (fun M' h' k => hN _ _ _ _ _ _ w2 w3 k) (fun v M' h' k => hN _ _ _ _ _ _ w2 w3 k)
  · rename_i na mc ms q k zz zx
    rcases k with _ | ⟨pl, _ | ⟨pi, _ | ⟨psm, _ | ⟨psu, _ | ⟨p1, _ | ⟨p2, k⟩⟩⟩⟩⟩⟩
    · exact absurd hk (by simp [x_ok1])
    · exact absurd hk (by simp [x_ok1])
    · exact absurd hk (by simp [x_ok1])
    · exact absurd hk (by simp [x_ok1])
    · exact absurd hk (by simp [x_ok1])
    · exact absurd hk (by simp [x_ok1])
    · simp only [x_ok1, Bool.and_eq_true, decide_eq_true_eq, beq_iff_eq] at hk
      obtain ⟨rfl, rfl, h3, h4, h5, h6, h8, h9, h10, h7, rfl⟩ := hk
      rw [h9] at h4
      obtain ⟨w1, ⟨w2, w3⟩, w4, w5, w6⟩ := hw
      obtain ⟨r, hr, e1, e2, e3⟩ := x_dec w1 h3
      rw [e2] at w6
      rw [e1]
      exact sn_callSU hx (hx.hts _ (x_has_in h4)) (hx.hts _ (x_has_in h5)) (hx.hts _ (x_has_in h6)) (hx.hts _ (x_has_in h8)) h10 d h3 hr (fun e M' h' k => k) w6 (by rw [e3]; exact x_okv_in h7) w4 w2 w3 (fun M' h' k => hN _ _ _ _ _ _ w2 w3 k) (fun v M' h' k => hN _ _ _ _ _ _ w2 w3 k)
  · exact hw.elim
theorem ss_invokestatic (hx : x_Cx X z p l R s m args meth c) {idx : Nat} (hk : x_ok1 z pc len (.invokestatic idx) k zs = true) (d : decode (zB z) pc = .ok ((.invokestatic idx), len)) (hc : cells ≤ zC z) (hs : slots ≤ zS z) (hw : wpL x_Cal (zC z, zS z, x_rtc (zR z), sc) J Φ (((.invokestatic idx), k, zs) :: is) ls st M h cells slots)
    (hN : ∀ ls st M h c' n', c' ≤ zC z → n' ≤ zS z → wpL x_Cal (zC z, zS z, x_rtc (zR z), sc) J Φ is ls st M h c' n' → x_Wt X ρ0 n0 (zL z) p l e R s m args below meth c (x_Q X ρ0 n0 Φ below args s z) (pc + len) ls st M h c' n')
    (hJ : ∀ t ls st M h c' n', c' ≤ zC z → n' ≤ zS z → J t ls st M h c' n' → x_Wt X ρ0 n0 (zL z) p l e R s m args below meth c (x_Q X ρ0 n0 Φ below args s z) (t) ls st M h c' n') : x_Wt X ρ0 n0 (zL z) p l e R s m args below meth c (x_Q X ρ0 n0 Φ below args s z) (pc) ls st M h cells slots := by
  simp only [wpL] at hw
  split at hw
  · rename_i k
    split at hw
    · rcases k with _ | ⟨pl, _ | ⟨pn, _ | ⟨ps, _ | ⟨pi, k⟩⟩⟩⟩
      · exact absurd hk (by simp [x_ok1])
      · exact absurd hk (by simp [x_ok1])
      · exact absurd hk (by simp [x_ok1])
      · exact absurd hk (by simp [x_ok1])
      · simp only [x_ok1, Bool.and_eq_true, decide_eq_true_eq, beq_iff_eq] at hk
        obtain ⟨h1, h2, h3, h4, h5, h6, rfl⟩ := hk
        exact sn_acp hx (hx.hts _ (x_has_in h1)) (hx.hts _ (x_has_in h2)) (hx.hts _ (x_has_in h3)) (hx.hts _ (x_has_in h4)) d h5 h6 hw.2.2.1 hw.1.1 hw.1.2 hw.2.1 (hN _ _ _ _ _ _ hc hs hw.2.2.2)
    · exact hw.elim
  · rename_i k
    split at hw
    · rcases k with _ | ⟨pl, _ | ⟨pn, _ | ⟨ps, _ | ⟨pi, k⟩⟩⟩⟩
      · exact absurd hk (by simp [x_ok1])
      · exact absurd hk (by simp [x_ok1])
      · exact absurd hk (by simp [x_ok1])
      · exact absurd hk (by simp [x_ok1])
      · simp only [x_ok1, Bool.and_eq_true, decide_eq_true_eq, beq_iff_eq] at hk
        obtain ⟨h1, h2, h3, h4, h5, h6, rfl⟩ := hk
        exact sn_acpB hx (hx.hts _ (x_has_in h1)) (hx.hts _ (x_has_in h2)) (hx.hts _ (x_has_in h3)) (hx.hts _ (x_has_in h4)) d h5 h6 hw.2.2.2.1 hw.1.1 hw.1.2 hw.2.1 hw.2.2.1 (hN _ _ _ _ _ _ hc hs hw.2.2.2.2)
    · exact hw.elim
  · rename_i k
    split at hw
    · rcases k with _ | ⟨pl, _ | ⟨pn, _ | ⟨ps, _ | ⟨pi, k⟩⟩⟩⟩
      · exact absurd hk (by simp [x_ok1])
      · exact absurd hk (by simp [x_ok1])
      · exact absurd hk (by simp [x_ok1])
      · exact absurd hk (by simp [x_ok1])
      · simp only [x_ok1, Bool.and_eq_true, decide_eq_true_eq, beq_iff_eq] at hk
        obtain ⟨h1, h2, h3, h4, h5, h6, rfl⟩ := hk
        exact sn_min hx (hx.hts _ (x_has_in h1)) (hx.hts _ (x_has_in h2)) (hx.hts _ (x_has_in h3)) (hx.hts _ (x_has_in h4)) d h5 h6 hw.1 hc hs (hN _ _ _ _ _ _ hc hs hw.2)
    · exact hw.elim
  · rename_i k
    split at hw
    · rcases k with _ | ⟨pl, _ | ⟨pn, _ | ⟨ps, _ | ⟨pi, k⟩⟩⟩⟩
      · exact absurd hk (by simp [x_ok1])
      · exact absurd hk (by simp [x_ok1])
      · exact absurd hk (by simp [x_ok1])
      · exact absurd hk (by simp [x_ok1])
      · simp only [x_ok1, Bool.and_eq_true, decide_eq_true_eq, beq_iff_eq] at hk
        obtain ⟨h1, h2, h3, h4, h5, h6, rfl⟩ := hk
        exact sn_max hx (hx.hts _ (x_has_in h1)) (hx.hts _ (x_has_in h2)) (hx.hts _ (x_has_in h3)) (hx.hts _ (x_has_in h4)) d h5 h6 hw.1 hc hs (hN _ _ _ _ _ _ hc hs hw.2)
    · exact hw.elim
  · rename_i na mc ms k zz
    rcases k with _ | ⟨pl, _ | ⟨ps, _ | ⟨p1, _ | ⟨p2, k⟩⟩⟩⟩
    · exact absurd hk (by simp [x_ok1])
    · exact absurd hk (by simp [x_ok1])
    · exact absurd hk (by simp [x_ok1])
    · exact absurd hk (by simp [x_ok1])
    · simp only [x_ok1, Bool.or_eq_true, Bool.and_eq_true, decide_eq_true_eq, beq_iff_eq] at hk
      obtain ⟨rfl, rfl, h3, h4, h7, rfl⟩ := hk
      obtain ⟨⟨w2, w3⟩, w4, w5, w6⟩ := hw
      obtain ⟨e1, e3⟩ := x_decS w5
      rw [e1]
      exact sn_callS hx (hx.hts _ (x_has_in h3)) (hx.hts _ (x_has_in h4)) d w6 (by rw [e3]; exact x_okz_in h7) w4 w2 w3 (fun M' h' k => hN _ _ _ _ _ _ w2 w3 k) (fun v M' h' k => hN _ _ _ _ _ _ w2 w3 k) (fun e M' h' k => k)
  · exact hw.elim
theorem x_rt0 {t : Option FieldType} (h : x_rtc t = 0) : t = none := by
  rcases t with _ | t
  · rfl
  · cases t <;> simp [x_rtc] at h
theorem x_rt1 {t : Option FieldType} (h : x_rtc t = 1) : t = some .int := by
  rcases t with _ | t
  · simp [x_rtc] at h
  · cases t <;> simp [x_rtc] at h <;> rfl
theorem x_rt2 {t : Option FieldType} (h : x_rtc t = 2) : t = some .boolean := by
  rcases t with _ | t
  · simp [x_rtc] at h
  · cases t <;> simp [x_rtc] at h <;> rfl
theorem x_rt4 {t : Option FieldType} (h : x_rtc t = 4) : ∃ ty, t = some ty ∧ ((∃ n, ty = .object n) ∨ ∃ u, ty = .array u) := by
  rcases t with _ | t
  · simp [x_rtc] at h
  · cases t <;> simp [x_rtc] at h
    · exact ⟨_, rfl, Or.inl ⟨_, rfl⟩⟩
    · exact ⟨_, rfl, Or.inr ⟨_, rfl⟩⟩
theorem ss_return (hx : x_Cx X z p l R s m args meth c) (hk : x_ok1 z pc len .return_ k zs = true) (d : decode (zB z) pc = .ok (.return_, len)) (hc : cells ≤ zC z) (hs : slots ≤ zS z) (hw : wpL x_Cal (zC z, zS z, x_rtc (zR z), sc) J Φ ((.return_, k, zs) :: is) ls st M h cells slots)
    (hN : ∀ ls st M h c' n', c' ≤ zC z → n' ≤ zS z → wpL x_Cal (zC z, zS z, x_rtc (zR z), sc) J Φ is ls st M h c' n' → x_Wt X ρ0 n0 (zL z) p l e R s m args below meth c (x_Q X ρ0 n0 Φ below args s z) (pc + len) ls st M h c' n')
    (hJ : ∀ t ls st M h c' n', c' ≤ zC z → n' ≤ zS z → J t ls st M h c' n' → x_Wt X ρ0 n0 (zL z) p l e R s m args below meth c (x_Q X ρ0 n0 Φ below args s z) (t) ls st M h c' n') : x_Wt X ρ0 n0 (zL z) p l e R s m args below meth c (x_Q X ρ0 n0 Φ below args s z) (pc) ls st M h cells slots := by
  simp only [x_ok1, beq_iff_eq] at hk
  subst hk
  simp only [wpL] at hw
  split at hw
  · exact sn_vret hx (x_rt0 hw.1) d hc hs hw.2
  · exact hw.elim
theorem x_rt5 {t : Option FieldType} (h : x_rtc t = 5) : t = some .byte := by
  rcases t with _ | t
  · simp [x_rtc] at h
  · cases t <;> simp [x_rtc] at h <;> rfl
theorem x_rt6 {t : Option FieldType} (h : x_rtc t = 6) : t = some .char := by
  rcases t with _ | t
  · simp [x_rtc] at h
  · cases t <;> simp [x_rtc] at h <;> rfl
theorem x_nb2 {v : Int} (h1 : -128 ≤ v) (h2 : v < 128) : narrow .byte (.int (Int32.ofInt v)) = .int (Int32.ofInt v) := by
  have key : ∀ y : Nat, y < 256 → narrow .byte (.int (Int32.ofInt ((y : Int) - 128))) = .int (Int32.ofInt ((y : Int) - 128)) := by decide +kernel
  have := key (v + 128).toNat (by omega)
  rw [show (((v + 128).toNat : Nat) : Int) - 128 = v by omega] at this
  exact this
theorem x_nc2 {v : Int} (h1 : 0 ≤ v) (h2 : v < 65536) : narrow .char (.int (Int32.ofInt v)) = .int (Int32.ofInt v) := by
  have e : ((Int32.ofInt v).toUInt32 % 65536).toInt32 = Int32.ofInt v := Int32.toInt_inj.mp (by rw [u32c, i32_to (by unfold x_i32; omega)]; omega)
  show Value.int ((Int32.ofInt v).toUInt32 % 65536).toInt32 = _
  rw [e]
theorem ss_ireturn (hx : x_Cx X z p l R s m args meth c) (hk : x_ok1 z pc len .ireturn k zs = true) (d : decode (zB z) pc = .ok (.ireturn, len)) (hc : cells ≤ zC z) (hs : slots ≤ zS z) (hw : wpL x_Cal (zC z, zS z, x_rtc (zR z), sc) J Φ ((.ireturn, k, zs) :: is) ls st M h cells slots)
    (hN : ∀ ls st M h c' n', c' ≤ zC z → n' ≤ zS z → wpL x_Cal (zC z, zS z, x_rtc (zR z), sc) J Φ is ls st M h c' n' → x_Wt X ρ0 n0 (zL z) p l e R s m args below meth c (x_Q X ρ0 n0 Φ below args s z) (pc + len) ls st M h c' n')
    (hJ : ∀ t ls st M h c' n', c' ≤ zC z → n' ≤ zS z → J t ls st M h c' n' → x_Wt X ρ0 n0 (zL z) p l e R s m args below meth c (x_Q X ρ0 n0 Φ below args s z) (t) ls st M h c' n') : x_Wt X ρ0 n0 (zL z) p l e R s m args below meth c (x_Q X ρ0 n0 Φ below args s z) (pc) ls st M h cells slots := by
  simp only [x_ok1, beq_iff_eq] at hk
  subst hk
  simp only [wpL] at hw
  split at hw
  · obtain ⟨w1 | ⟨w1, w2⟩ | ⟨w1, w2⟩ | ⟨w1, w2⟩, w3⟩ := hw
    · exact sn_iret hx (x_rt1 w1) rfl d hc hs w3
    · rcases w2 with rfl | rfl
      · exact sn_iret hx (x_rt2 w1) (by decide) d hc hs w3
      · exact sn_iret hx (x_rt2 w1) (by decide) d hc hs w3
    · exact sn_iret hx (x_rt5 w1) (x_nb2 w2.1 w2.2) d hc hs w3
    · exact sn_iret hx (x_rt6 w1) (x_nc2 w2.1 w2.2) d hc hs w3
  · exact hw.elim
theorem x_rt3 {t : Option FieldType} (h : x_rtc t = 3) : t = some .long := by
  rcases t with _ | t
  · simp [x_rtc] at h
  · cases t <;> simp [x_rtc] at h <;> rfl
theorem ss_ineg (hx : x_Cx X z p l R s m args meth c) (hk : x_ok1 z pc len .ineg k zs = true) (d : decode (zB z) pc = .ok (.ineg, len)) (hc : cells ≤ zC z) (hs : slots ≤ zS z) (hw : wpL x_Cal (zC z, zS z, x_rtc (zR z), sc) J Φ ((.ineg, k, zs) :: is) ls st M h cells slots)
    (hN : ∀ ls st M h c' n', c' ≤ zC z → n' ≤ zS z → wpL x_Cal (zC z, zS z, x_rtc (zR z), sc) J Φ is ls st M h c' n' → x_Wt X ρ0 n0 (zL z) p l e R s m args below meth c (x_Q X ρ0 n0 Φ below args s z) (pc + len) ls st M h c' n')
    (hJ : ∀ t ls st M h c' n', c' ≤ zC z → n' ≤ zS z → J t ls st M h c' n' → x_Wt X ρ0 n0 (zL z) p l e R s m args below meth c (x_Q X ρ0 n0 Φ below args s z) (t) ls st M h c' n') : x_Wt X ρ0 n0 (zL z) p l e R s m args below meth c (x_Q X ρ0 n0 Φ below args s z) (pc) ls st M h cells slots := by
  simp only [x_ok1, beq_iff_eq] at hk
  subst hk
  simp only [wpL] at hw
  split at hw
  · exact sn_ineg hx d (hN _ _ _ _ _ _ hc hs hw)
  · exact hw.elim
theorem ss_i2c (hx : x_Cx X z p l R s m args meth c) (hk : x_ok1 z pc len .i2c k zs = true) (d : decode (zB z) pc = .ok (.i2c, len)) (hc : cells ≤ zC z) (hs : slots ≤ zS z) (hw : wpL x_Cal (zC z, zS z, x_rtc (zR z), sc) J Φ ((.i2c, k, zs) :: is) ls st M h cells slots)
    (hN : ∀ ls st M h c' n', c' ≤ zC z → n' ≤ zS z → wpL x_Cal (zC z, zS z, x_rtc (zR z), sc) J Φ is ls st M h c' n' → x_Wt X ρ0 n0 (zL z) p l e R s m args below meth c (x_Q X ρ0 n0 Φ below args s z) (pc + len) ls st M h c' n')
    (hJ : ∀ t ls st M h c' n', c' ≤ zC z → n' ≤ zS z → J t ls st M h c' n' → x_Wt X ρ0 n0 (zL z) p l e R s m args below meth c (x_Q X ρ0 n0 Φ below args s z) (t) ls st M h c' n') : x_Wt X ρ0 n0 (zL z) p l e R s m args below meth c (x_Q X ρ0 n0 Φ below args s z) (pc) ls st M h cells slots := by
  simp only [x_ok1, beq_iff_eq] at hk
  subst hk
  simp only [wpL] at hw
  split at hw
  · exact sn_i2c hx d (hN _ _ _ _ _ _ hc hs hw)
  · exact hw.elim
theorem ss_iushr (hx : x_Cx X z p l R s m args meth c) (hk : x_ok1 z pc len .iushr k zs = true) (d : decode (zB z) pc = .ok (.iushr, len)) (hc : cells ≤ zC z) (hs : slots ≤ zS z) (hw : wpL x_Cal (zC z, zS z, x_rtc (zR z), sc) J Φ ((.iushr, k, zs) :: is) ls st M h cells slots)
    (hN : ∀ ls st M h c' n', c' ≤ zC z → n' ≤ zS z → wpL x_Cal (zC z, zS z, x_rtc (zR z), sc) J Φ is ls st M h c' n' → x_Wt X ρ0 n0 (zL z) p l e R s m args below meth c (x_Q X ρ0 n0 Φ below args s z) (pc + len) ls st M h c' n')
    (hJ : ∀ t ls st M h c' n', c' ≤ zC z → n' ≤ zS z → J t ls st M h c' n' → x_Wt X ρ0 n0 (zL z) p l e R s m args below meth c (x_Q X ρ0 n0 Φ below args s z) (t) ls st M h c' n') : x_Wt X ρ0 n0 (zL z) p l e R s m args below meth c (x_Q X ρ0 n0 Φ below args s z) (pc) ls st M h cells slots := by
  simp only [x_ok1, beq_iff_eq] at hk
  subst hk
  simp only [wpL] at hw
  split at hw
  · exact sn_iushr hx d (hN _ _ _ _ _ _ hc hs hw)
  · exact hw.elim
theorem ss_lor (hx : x_Cx X z p l R s m args meth c) (hk : x_ok1 z pc len .lor k zs = true) (d : decode (zB z) pc = .ok (.lor, len)) (hc : cells ≤ zC z) (hs : slots ≤ zS z) (hw : wpL x_Cal (zC z, zS z, x_rtc (zR z), sc) J Φ ((.lor, k, zs) :: is) ls st M h cells slots)
    (hN : ∀ ls st M h c' n', c' ≤ zC z → n' ≤ zS z → wpL x_Cal (zC z, zS z, x_rtc (zR z), sc) J Φ is ls st M h c' n' → x_Wt X ρ0 n0 (zL z) p l e R s m args below meth c (x_Q X ρ0 n0 Φ below args s z) (pc + len) ls st M h c' n')
    (hJ : ∀ t ls st M h c' n', c' ≤ zC z → n' ≤ zS z → J t ls st M h c' n' → x_Wt X ρ0 n0 (zL z) p l e R s m args below meth c (x_Q X ρ0 n0 Φ below args s z) (t) ls st M h c' n') : x_Wt X ρ0 n0 (zL z) p l e R s m args below meth c (x_Q X ρ0 n0 Φ below args s z) (pc) ls st M h cells slots := by
  simp only [x_ok1, beq_iff_eq] at hk
  subst hk
  simp only [wpL] at hw
  split at hw
  · exact sn_lor hx d (hN _ _ _ _ _ _ hc hs hw)
  · exact hw.elim
theorem ss_lshl (hx : x_Cx X z p l R s m args meth c) (hk : x_ok1 z pc len .lshl k zs = true) (d : decode (zB z) pc = .ok (.lshl, len)) (hc : cells ≤ zC z) (hs : slots ≤ zS z) (hw : wpL x_Cal (zC z, zS z, x_rtc (zR z), sc) J Φ ((.lshl, k, zs) :: is) ls st M h cells slots)
    (hN : ∀ ls st M h c' n', c' ≤ zC z → n' ≤ zS z → wpL x_Cal (zC z, zS z, x_rtc (zR z), sc) J Φ is ls st M h c' n' → x_Wt X ρ0 n0 (zL z) p l e R s m args below meth c (x_Q X ρ0 n0 Φ below args s z) (pc + len) ls st M h c' n')
    (hJ : ∀ t ls st M h c' n', c' ≤ zC z → n' ≤ zS z → J t ls st M h c' n' → x_Wt X ρ0 n0 (zL z) p l e R s m args below meth c (x_Q X ρ0 n0 Φ below args s z) (t) ls st M h c' n') : x_Wt X ρ0 n0 (zL z) p l e R s m args below meth c (x_Q X ρ0 n0 Φ below args s z) (pc) ls st M h cells slots := by
  simp only [x_ok1, beq_iff_eq] at hk
  subst hk
  simp only [wpL] at hw
  split at hw
  · exact sn_lshl hx d (hN _ _ _ _ _ _ hc hs hw)
  · exact hw.elim
theorem ss_dup_x1 (hx : x_Cx X z p l R s m args meth c) (hk : x_ok1 z pc len .dup_x1 k zs = true) (d : decode (zB z) pc = .ok (.dup_x1, len)) (hc : cells ≤ zC z) (hs : slots ≤ zS z) (hw : wpL x_Cal (zC z, zS z, x_rtc (zR z), sc) J Φ ((.dup_x1, k, zs) :: is) ls st M h cells slots)
    (hN : ∀ ls st M h c' n', c' ≤ zC z → n' ≤ zS z → wpL x_Cal (zC z, zS z, x_rtc (zR z), sc) J Φ is ls st M h c' n' → x_Wt X ρ0 n0 (zL z) p l e R s m args below meth c (x_Q X ρ0 n0 Φ below args s z) (pc + len) ls st M h c' n')
    (hJ : ∀ t ls st M h c' n', c' ≤ zC z → n' ≤ zS z → J t ls st M h c' n' → x_Wt X ρ0 n0 (zL z) p l e R s m args below meth c (x_Q X ρ0 n0 Φ below args s z) (t) ls st M h c' n') : x_Wt X ρ0 n0 (zL z) p l e R s m args below meth c (x_Q X ρ0 n0 Φ below args s z) (pc) ls st M h cells slots := by
  simp only [x_ok1, beq_iff_eq] at hk
  subst hk
  simp only [wpL] at hw
  split at hw
  · exact sn_dup_x1 hx hw.1 hw.2.1 d (hN _ _ _ _ _ _ hc hs hw.2.2)
  · exact hw.elim
theorem ss_getstatic (hx : x_Cx X z p l R s m args meth c) {idx : Nat} (hk : x_ok1 z pc len (.getstatic idx) k zs = true) (d : decode (zB z) pc = .ok ((.getstatic idx), len)) (hc : cells ≤ zC z) (hs : slots ≤ zS z) (hw : wpL x_Cal (zC z, zS z, x_rtc (zR z), sc) J Φ (((.getstatic idx), k, zs) :: is) ls st M h cells slots)
    (hN : ∀ ls st M h c' n', c' ≤ zC z → n' ≤ zS z → wpL x_Cal (zC z, zS z, x_rtc (zR z), sc) J Φ is ls st M h c' n' → x_Wt X ρ0 n0 (zL z) p l e R s m args below meth c (x_Q X ρ0 n0 Φ below args s z) (pc + len) ls st M h c' n')
    (hJ : ∀ t ls st M h c' n', c' ≤ zC z → n' ≤ zS z → J t ls st M h c' n' → x_Wt X ρ0 n0 (zL z) p l e R s m args below meth c (x_Q X ρ0 n0 Φ below args s z) (t) ls st M h c' n') : x_Wt X ρ0 n0 (zL z) p l e R s m args below meth c (x_Q X ρ0 n0 Φ below args s z) (pc) ls st M h cells slots := by
  simp only [wpL] at hw
  split at hw
  · rename_i k
    cases k with
    | nil => exact absurd hk (by simp [x_ok1])
    | cons pp k =>
      simp only [x_ok1, Bool.and_eq_true, beq_iff_eq] at hk
      obtain ⟨h1, rfl⟩ := hk
      intro ρ lsC H locs S
      exact va_gets hx.1 hx.2.1 hx.O.2.2.2.2.2.1 S.2.2.2.1 hx.own (hx.hts _ (x_has_in h1)) (fun _ h => h) d (hN _ _ _ _ _ _ hc hs hw ρ lsC H locs (S.push (v := xI 1) (by show x_i32 1; unfold x_i32; omega)))
  · exact hw.elim
theorem ss_lreturn (hx : x_Cx X z p l R s m args meth c) (hk : x_ok1 z pc len .lreturn k zs = true) (d : decode (zB z) pc = .ok (.lreturn, len)) (hc : cells ≤ zC z) (hs : slots ≤ zS z) (hw : wpL x_Cal (zC z, zS z, x_rtc (zR z), sc) J Φ ((.lreturn, k, zs) :: is) ls st M h cells slots)
    (hN : ∀ ls st M h c' n', c' ≤ zC z → n' ≤ zS z → wpL x_Cal (zC z, zS z, x_rtc (zR z), sc) J Φ is ls st M h c' n' → x_Wt X ρ0 n0 (zL z) p l e R s m args below meth c (x_Q X ρ0 n0 Φ below args s z) (pc + len) ls st M h c' n')
    (hJ : ∀ t ls st M h c' n', c' ≤ zC z → n' ≤ zS z → J t ls st M h c' n' → x_Wt X ρ0 n0 (zL z) p l e R s m args below meth c (x_Q X ρ0 n0 Φ below args s z) (t) ls st M h c' n') : x_Wt X ρ0 n0 (zL z) p l e R s m args below meth c (x_Q X ρ0 n0 Φ below args s z) (pc) ls st M h cells slots := by
  simp only [x_ok1, beq_iff_eq] at hk
  subst hk
  simp only [wpL] at hw
  split at hw
  · exact sn_lret hx (x_rt3 hw.1) d hc hs hw.2
  · exact hw.elim
theorem ss_areturn (hx : x_Cx X z p l R s m args meth c) (hk : x_ok1 z pc len .areturn k zs = true) (d : decode (zB z) pc = .ok (.areturn, len)) (hc : cells ≤ zC z) (hs : slots ≤ zS z) (hw : wpL x_Cal (zC z, zS z, x_rtc (zR z), sc) J Φ ((.areturn, k, zs) :: is) ls st M h cells slots)
    (hN : ∀ ls st M h c' n', c' ≤ zC z → n' ≤ zS z → wpL x_Cal (zC z, zS z, x_rtc (zR z), sc) J Φ is ls st M h c' n' → x_Wt X ρ0 n0 (zL z) p l e R s m args below meth c (x_Q X ρ0 n0 Φ below args s z) (pc + len) ls st M h c' n')
    (hJ : ∀ t ls st M h c' n', c' ≤ zC z → n' ≤ zS z → J t ls st M h c' n' → x_Wt X ρ0 n0 (zL z) p l e R s m args below meth c (x_Q X ρ0 n0 Φ below args s z) (t) ls st M h c' n') : x_Wt X ρ0 n0 (zL z) p l e R s m args below meth c (x_Q X ρ0 n0 Φ below args s z) (pc) ls st M h cells slots := by
  simp only [x_ok1, beq_iff_eq] at hk
  subst hk
  simp only [wpL] at hw
  split at hw
  · obtain ⟨w1, w3⟩ := hw
    obtain ⟨ty, h1, h2⟩ := x_rt4 w1
    exact sn_aret hx h1 h2 d hc hs w3
  · exact hw.elim
end SS
