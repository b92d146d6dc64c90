/-! what the small machine's words mean of the machine's state -/
def x_i32 (x : Int) : Prop := -2147483648 ≤ x ∧ x < 2147483648
def x_i64 (x : Int) : Prop := -9223372036854775808 ≤ x ∧ x < 9223372036854775808
theorem w32_in (x : Int) : x_i32 (w32 x) := by
  have h1 := Int.le_bmod (x := x) (m := 4294967296) (by decide)
  have h2 := Int.bmod_lt (x := x) (m := 4294967296) (by decide)
  unfold x_i32 w32
  constructor <;> omega
theorem w64_in (x : Int) : x_i64 (w64 x) := by
  have h1 := Int.le_bmod (x := x) (m := 18446744073709551616) (by decide)
  have h2 := Int.bmod_lt (x := x) (m := 18446744073709551616) (by decide)
  unfold x_i64 w64
  constructor <;> omega
theorem w8_in (x : Int) : x_i32 (w8 x) := by
  have h1 := Int.le_bmod (x := x) (m := 256) (by decide)
  have h2 := Int.bmod_lt (x := x) (m := 256) (by decide)
  unfold x_i32 w8
  constructor <;> omega
theorem w32_id {x : Int} (h : x_i32 x) : w32 x = x := by obtain ⟨a, b⟩ := h; unfold w32; exact Int.bmod_eq_of_le (by omega) (by omega)
theorem w64_id {x : Int} (h : x_i64 x) : w64 x = x := by obtain ⟨a, b⟩ := h; unfold w64; exact Int.bmod_eq_of_le (by omega) (by omega)
theorem i32_to {x : Int} (h : x_i32 x) : (Int32.ofInt x).toInt = x := Int32.toInt_ofInt_of_le (by obtain ⟨a, b⟩ := h; omega) (by obtain ⟨a, b⟩ := h; omega)
theorem i64_to {x : Int} (h : x_i64 x) : (Int64.ofInt x).toInt = x := Int64.toInt_ofInt_of_le (by obtain ⟨a, b⟩ := h; omega) (by obtain ⟨a, b⟩ := h; omega)
theorem i32_of (x : Int32) : x_i32 x.toInt := ⟨by have := x.le_toInt; omega, by have := x.toInt_lt; omega⟩
theorem i64_of (x : Int64) : x_i64 x.toInt := ⟨by have := x.le_toInt; omega, by have := x.toInt_lt; omega⟩
theorem i32_w (x : Int) : Int32.ofInt (w32 x) = Int32.ofInt x := Int32.toInt_inj.mp (by rw [i32_to (w32_in x), Int32.toInt_ofInt]; rfl)
theorem i64_w (x : Int) : Int64.ofInt (w64 x) = Int64.ofInt x := Int64.toInt_inj.mp (by rw [i64_to (w64_in x), Int64.toInt_ofInt]; rfl)
theorem i32_eq {x y : Int} (hx : x_i32 x) (hy : x_i32 y) : Int32.ofInt x = Int32.ofInt y ↔ x = y := ⟨fun h => by rw [← i32_to hx, ← i32_to hy, h], fun h => by rw [h]⟩
theorem i32_lt {x y : Int} (hx : x_i32 x) (hy : x_i32 y) : Int32.ofInt x < Int32.ofInt y ↔ x < y := by rw [Int32.lt_iff_toInt_lt, i32_to hx, i32_to hy]
theorem i32_le {x y : Int} (hx : x_i32 x) (hy : x_i32 y) : Int32.ofInt x ≤ Int32.ofInt y ↔ x ≤ y := by rw [Int32.le_iff_toInt_le, i32_to hx, i32_to hy]
theorem i32_0 : x_i32 0 := ⟨by decide, by decide⟩
theorem i32_cl {x : Int} (h : x_i32 x) : (Int32.ofInt x).toNatClampNeg = x.toNat := by rw [← Int32.toNat_toInt, i32_to h]
theorem i32_vin {x L : Int} (h : x_i32 x) (h0 : 0 ≤ x) (h1 : x < L) : vp_in (Int32.ofInt x) L.toNat := by
  rw [vp_in_iff, i32_to h]
  omega
abbrev xX : Type := va_G × (Nat → ClassId) × (Nat → Nat) × (Nat → Nat) × Nat × (Nat × Nat × (Nat → Int32))
def XD (X : xX) : va_G := X.1
def XA (X : xX) : Nat → ClassId := X.2.1
def XK (X : xX) : Nat → Nat := X.2.2.1
def XV (X : xX) : Nat → Nat := X.2.2.2.1
def XB (X : xX) : Nat := X.2.2.2.2.1
def XS (X : xX) : Nat × Nat × (Nat → Int32) := X.2.2.2.2.2
def x_rf (ρ : Nat → Nat) (r : Nat) : Option Nat := if r = 0 then none else some (ρ r)
def x_c (X : xX) (ρ : Nat → Nat) : xV → Value
  | .inl x => .int (Int32.ofInt x)
  | .inr (.inl x) => .long (Int64.ofInt x)
  | .inr (.inr (.inl r)) => va_rf (x_rf ρ r)
  | .inr (.inr (.inr (.inl a))) => .ref a
  | .inr (.inr (.inr (.inr i))) => .ref (XK X i)
def x_vk (h : xH) : xV → Prop
  | .inl x => x_i32 x
  | .inr (.inl x) => x_i64 x
  | .inr (.inr (.inl r)) => r < hn h
  | .inr (.inr (.inr (.inl _))) => True
  | .inr (.inr (.inr (.inr i))) => i < 22
def x_fv (ρ : Nat → Nat) (t : FieldType) (m : Int) (r : Nat) : Value := match t with
  | .int => .int (Int32.ofInt m)
  | .long => .long (Int64.ofInt m)
  | .byte => .int (Int32.ofInt m)
  | .boolean => .int (Int32.ofInt m)
  | _ => va_rf (x_rf ρ r)
def x_cell (X : xX) (ρ : Nat → Nat) (M : xM) (h : xH) (id : Nat) : va_E :=
  if hK h id < 10 then .inr (hK h id, (List.range (x_N (hK h id))).map fun i => x_fv ρ (x_ty (hK h id) i) (M id i) (hP h id i))
  else if hK h id < 22 then .inl (XA X (hK h id - 20), (hL h id).toNat, .inl fun j => Int32.ofInt (M id j))
  else if hK h id < 23 then .inl (XA X 0, (hL h id).toNat, .inl fun j => Int32.ofInt (M id j))
  else .inl (XA X (hK h id - 20), (hL h id).toNat, .inr (.inr (.inr (.inr fun j => x_rf ρ (hP h id j)))))
def x_ws (X : xX) (ρ : Nat → Nat) (M : xM) (h : xH) : va_W := (List.range (hn h - 1)).map fun i => (ρ (i + 1), x_cell X ρ M h (i + 1))
/-- is the place a long's -/
def x_isl (k : Nat) (i : Int) : Bool := (k == 8 && x_ty 8 i.toNat == .long)
def x_rng (k : Nat) (i v : Int) : Prop := if x_isl k i = true then x_i64 v else x_i32 v
def x_ok (M : xM) (h : xH) : Prop := 1 ≤ hn h ∧ (∀ id, hK h id < 25 → 1 ≤ id ∧ id < hn h) ∧ (∀ id, 1 ≤ id → id < hn h → hK h id < 10 ∨ (20 ≤ hK h id ∧ hK h id < 25)) ∧
  (∀ id, 0 ≤ hL h id ∧ hL h id < 2147483648) ∧ (∀ id i, hK h id < 25 → x_rng (hK h id) i (M id i)) ∧ ∀ id i, hP h id i < hn h
def x_tys (X : xX) : List (ClassId × FieldType) := [(XA X 0, .int), (XA X 1, .byte), (XA X 0, .int), (XA X 3, .object RX1), (XA X 4, .object RX4)]
/-- the String constants: class, entry, text -/
def x_str : List (String × Nat × String) := [(RX5, 73, "bars"), (RX5, 82, "mark"), (RX5, 87, "text"), (RX5, 95, "double"), (RX5, 100, "cut"), (RX5, 105, "part"), (RX5, 154, "rest"), (RX5, 156, "play"), (RX5, 158, "cue"), ("ScorePartsLaw", 39, "bars "), ("ScorePartsLaw", 48, ";bars "), ("ScorePartsLaw", 54, " "), ("ScorePartsLaw", 56, ";"), ("ScorePartsLaw", 65, "mark "), ("ScorePartsLaw", 70, "text "), ("ScorePartsLaw", 72, ";double "), ("ScorePartsLaw", 74, "cut "), ("ScorePartsLaw", 82, "part "), ("ScorePartsLaw", 84, " play "), ("ScorePartsLaw", 86, " cue "), ("ScorePartsLaw", 88, " rest "), ("java/util/Arrays", 337, " > ")]
def x_byt : List (List Int32) := x_str.map fun q => q.2.2.toList.map fun ch => Int32.ofNat ch.toNat
def x_len : List Nat := x_byt.map List.length
/-- the world outside the class's objects, as far as it is used: the two statics of Throwable's, the String constants, the script -/
def x_odd (w : Jvm.Cond) : Bool := match w with
  | .declares _ => true
  | .castable .. => true
  | .methodLinkNest .. => true
  | .arrayOver (.object _) => true
  | _ => false
/-- the exceptions that are not one another -/
def x_ncl : List (String × String) := [("java/lang/IllegalStateException", "java/lang/IllegalArgumentException"), ("java/lang/IllegalStateException", "java/util/NoSuchElementException"), ("java/lang/IllegalArgumentException", "java/lang/IllegalStateException"), ("java/lang/IllegalArgumentException", "java/util/NoSuchElementException"), ("java/util/NoSuchElementException", "java/lang/IllegalStateException"), ("java/util/NoSuchElementException", "java/lang/IllegalArgumentException"), ("java/lang/IndexOutOfBoundsException", "java/lang/IllegalStateException"), ("java/lang/IndexOutOfBoundsException", "java/lang/IllegalArgumentException"), ("java/lang/IndexOutOfBoundsException", "java/util/NoSuchElementException")]
def x_d1 (j : Nat) : Int32 := Int32.ofInt (48 + (j : Int) % 10)
def x_d2 (j : Nat) : Int32 := Int32.ofInt (48 + (j : Int) / 10)
/-- Integer's two tables of digits, at the addresses XK X 90 and XK X 91 -/
def x_Dg (X : xX) (U : State) (H : Heap) : Prop :=
  (va_Z "java/lang/Integer" "DigitOnes" "[B" (.ref (XK X 90)) (fun q => XB X ≤ q) U H ∧ va_T .byte (XK X 90) 100 (fun j => .int (x_d1 j)) (fun q => XB X ≤ q) U H) ∧
  (va_Z "java/lang/Integer" "DigitTens" "[B" (.ref (XK X 91)) (fun q => XB X ≤ q) U H ∧ va_T .byte (XK X 91) 100 (fun j => .int (x_d2 j)) (fun q => XB X ≤ q) U H)
theorem x_Dg.warm {X : xX} {u U : State} {H : Heap} (hW : u.WarmedH U.vm) (h : x_Dg X u H) : x_Dg X U H := ⟨⟨va_Z.moved hW.alike h.1.1, va_T.moved hW.alike h.1.2⟩, va_Z.moved hW.alike h.2.1, va_T.moved hW.alike h.2.2⟩
theorem x_Dg.kept {X : xX} {U : State} {H H1 : Heap} (h : x_Dg X U H) (hq : ∀ a : Nat, a < H.size → ¬ (XB X ≤ a) → H1[a]? = H[a]?) : x_Dg X U H1 := ⟨⟨va_Z.kept h.1.1 hq, va_T.kept h.1.2 hq⟩, va_Z.kept h.2.1 hq, va_T.kept h.2.2 hq⟩
def x_O (X : xX) (U : State) (H : Heap) : Prop :=
  vx_Zq Bundle.tN "UNASSIGNED_STACK" Bundle.steD (fun q => XB X ≤ q) U H ∧ vx_Zq Bundle.tN "SUPPRESSED_SENTINEL" Bundle.listD (fun q => XB X ≤ q) U H ∧
  ((∀ w ∈ x_tbl, x_odd w = true → w.before #[] U = true) ∧ ∀ q ∈ x_ncl, va_Nc q.1 q.2 U) ∧
  ((∀ i : Nat, i < 22 → vk_S 1 [x_len.getD i 0] [x_byt.getD i []] (fun _ => XK X i) (fun _ => XV X i) (fun q => XB X ≤ q) U H) ∧ ∀ (i : Nat) (q : String × Nat × String), x_str[i]? = some q → vk_R q.1 q.2.1 q.2.2 (XK X i) U) ∧
  (va_X (XS X).1 (XS X).2.1 (XS X).2.2 U H ∧ (XS X).1 < XB X) ∧
  va_Z "java/lang/String" "COMPACT_STRINGS" "Z" (.int 1) (fun q => XB X ≤ q) U H ∧ va_Zq "jdk/internal/util/Preconditions" "SIOOBE_FORMATTER" "Ljava/util/function/BiFunction;" (fun q => XB X ≤ q) U H ∧ x_Dg X U H
theorem x_odd_warm {w : Jvm.Cond} (ho : x_odd w = true) {s U : State} (hW : s.WarmedH U.vm) (h : w.before #[] s = true) : w.before #[] U = true := by
  cases w <;> first | (exact va_Nw.warmD hW h) | (exact va_Nw.warmC hW h) | (exact va_Nw.warmM hW h) | (simp [x_odd] at ho; done) | skip
  case arrayOver t =>
    cases t with
    | object C => exact va_AO.moved hW.alike h
    | _ => simp [x_odd] at ho
theorem x_O.warm {X : xX} {u U : State} {H : Heap} (hW : u.WarmedH U.vm) (h : x_O X u H) : x_O X U H :=
  ⟨vx_Zq.moved hW.alike h.1, vx_Zq.moved hW.alike h.2.1, ⟨fun w hw ho => x_odd_warm ho hW (h.2.2.1.1 w hw ho), fun q hq => (h.2.2.1.2 q hq).moved hW.alike⟩, ⟨fun i hi => vk_S.moved hW.alike (h.2.2.2.1.1 i hi), fun i q hq => (h.2.2.2.1.2 i q hq).warm hW⟩, ⟨h.2.2.2.2.1.1.moved hW.alike, h.2.2.2.2.1.2⟩, va_Z.moved hW.alike h.2.2.2.2.2.1, va_Zq.moved hW.alike h.2.2.2.2.2.2.1, h.2.2.2.2.2.2.2.warm hW⟩
theorem x_O.kept {X : xX} {U : State} {H H1 : Heap} (h : x_O X U H) (hq : ∀ a : Nat, a < H.size → ¬ (XB X ≤ a) → H1[a]? = H[a]?) : x_O X U H1 :=
  ⟨h.1.kept hq, h.2.1.kept hq, h.2.2.1, ⟨fun i hi => (h.2.2.2.1.1 i hi).kept hq, h.2.2.2.1.2⟩, ⟨h.2.2.2.2.1.1.kept (by obtain ⟨scr, h1, -⟩ := h.2.2.2.2.1.1; exact hq _ (Array.getElem?_eq_some_iff.mp h1).1 (by have := h.2.2.2.2.1.2; omega)), h.2.2.2.2.1.2⟩, va_Z.kept h.2.2.2.2.2.1 hq, va_Zq.kept h.2.2.2.2.2.2.1 hq, h.2.2.2.2.2.2.2.kept hq⟩
theorem x_O.str {X : xX} {U : State} {H : Heap} (h : x_O X U H) {i : Nat} (hi : i < 22) : va_O "java/lang/String" (XK X i) (fun q => XB X ≤ q) U H ∧ va_OF "java/lang/String" "coder" "B" (.int 0) (XK X i) (fun q => XB X ≤ q) U H ∧ va_OF "java/lang/String" "value" "[B" (.ref (XV X i)) (XK X i) (fun q => XB X ≤ q) U H ∧ va_T .byte (XV X i) (x_len.getD i 0) (fun j => .int ((x_byt.getD i []).getD j 0)) (fun q => XB X ≤ q) U H := (h.2.2.2.1.1 i hi).1 0 Nat.zero_lt_one
def x_A (X : xX) : Nat → Prop := fun q => XB X ≤ q
def x_P (X : xX) (ρ : Nat → Nat) (M : xM) (h : xH) (H : Heap) : Prop := va_P (XD X) vwCl (x_ws X ρ M h) H ∧ va_D (x_A X) (x_ws X ρ M h) ∧ x_ok M h
def x_ext (ρ0 ρ : Nat → Nat) (n0 : Nat) : Prop := ∀ id, id < n0 → ρ id = ρ0 id
def x_tb : List Jvm.Cond := x_tbl.filter goodWord
def x_en : Nat → String
  | 0 => "java/lang/IllegalStateException"
  | 1 => "java/lang/IllegalArgumentException"
  | 2 => "java/util/NoSuchElementException"
  | _ => "java/lang/IndexOutOfBoundsException"
/-- the law's helpers (they catch): their frames' number has 1000 on top; their handlers -/
def x_hht : List (String × List (Nat × Nat × Nat × Nat)) := [("load", [(10, 15, 16, 34)]), ("inserted", [(0, 7, 8, 34)]), ("erased", [(0, 5, 6, 34)]), ("made", [(0, 6, 7, 106), (0, 6, 11, 34)]), ("opened", [(0, 5, 6, 111)]), ("put", [(0, 6, 7, 34)]), ("removed", [(0, 5, 6, 111)]), ("undone", [(0, 4, 5, 34)]), ("mark", [(0, 6, 7, 111)]), ("from", [(0, 6, 7, 111)])]
def x_hh (z : xMD) : List (Nat × Nat × Nat × Nat) := (x_hht.lookup (zN z).name).getD []
def x_cw (z : xMD) : Jvm.Cond := if zF z < 1000 then .code (zN z) (zB z) (zL z) (zR z) else .codeWith (zN z) (zB z) (zL z) (zR z) (x_hh z)
theorem x_cw_n {z : xMD} (h : zF z < 1000) : x_cw z = .code (zN z) (zB z) (zL z) (zR z) := if_pos h
theorem x_cw_h {z : xMD} (h : ¬ zF z < 1000) : x_cw z = .codeWith (zN z) (zB z) (zL z) (zR z) (x_hh z) := if_neg h
def x_rm (z : xMD) : Room := { frames := zF z % 1000, cells := zC z, slots := zS z, locals := zO z }
def x_w1 (z : xMD) : List Jvm.Cond := x_cw z :: x_tb
def x_Pc (X : xX) (ρ : Nat → Nat) (args : List xV) (M : xM) (h : xH) : Array Value → State → Prop := fun v U => v = (args.map (x_c X ρ)).toArray ∧ (∀ a ∈ args, x_vk h a) ∧ XB X ≤ U.heap.size ∧ x_P X ρ M h U.heap ∧ va_K (XD X) vwCl (x_tys X) U ∧ x_O X U U.heap
def x_Qc (X : xX) (ρ0 : Nat → Nat) (n0 : Nat) (Φ : xO → xM → xH → Prop) : Array Value → State → Outcome → State → Prop := fun _ st o t =>
  (∃ (r : Option xV) (ρ : Nat → Nat) (M : xM) (h : xH), o = .returned (r.map (x_c X ρ)) ∧ Φ (.inl r) M h ∧ (∀ v, r = some v → x_vk h v) ∧ x_ext ρ0 ρ n0 ∧ n0 ≤ hn h ∧ x_P X ρ M h t.heap) ∧ va_F (x_A X) st t
def x_XC (X : xX) (ρ0 : Nat → Nat) (n0 : Nat) (Φ : xO → xM → xH → Prop) : String → State → State → Prop := fun E st t =>
  (∃ (e : Nat) (ρ : Nat → Nat) (M : xM) (h : xH), E = x_en e ∧ Φ (.inr e) M h ∧ x_ext ρ0 ρ n0 ∧ n0 ≤ hn h ∧ x_P X ρ M h t.heap) ∧ va_F (x_A X) st t
/-- A CALL of z with these arguments in this memory ends as Φ says -/
def x_Cal : xCal := fun z args M h Φ => ∀ l : Launch, l.stackTraces = false → ∀ (X : xX) (ρ : Nat → Nat), vx_Met l (zN z) (x_w1 z) (x_rm z) (x_Pc X ρ args M h) (x_Qc X ρ (hn h) Φ) (x_XC X ρ (hn h) Φ) (zC z) (zS z) (x_A X)
/-- what stands fixed through a body -/
def x_Cx (X : xX) (z : xMD) (p : Program) (l : Launch) (R : Room) (s : State) (m : MethodId) (args : Array Value) (meth : Method) (c : Code) : Prop :=
  p.tables.exec = Jvm.exec ∧ c.code = zB z ∧ c.maxLocals = zL z ∧ s.vm.findClass (zN z).cls = some m.cls ∧ (∀ w ∈ x_tb, w.before args s = true) ∧ meth.sig.returnType = zR z ∧ meth.locks = false ∧ l.stackTraces = false ∧ (∀ x ∈ c.exceptionTable.toList, False) ∧ R = x_rm z ∧ meth.name = (zN z).name ∧ va_K (XD X) vwCl (x_tys X) s ∧ x_O X s s.heap ∧ XB X ≤ s.heap.size
/-- what a point of the body holds -/
def x_St (X : xX) (ρ0 : Nat → Nat) (n0 nL : Nat) (s : State) (ρ : Nat → Nat) (lsC : Array Slot) (H : Heap) (locs : List Loc) (ls : xL) (st : List xV) (M : xM) (h : xH) : Prop :=
  (lsC.size = nL ∧ lv_wf lsC ∧ ∀ i v, ls i = some v → lsC[i]? = some (.val (x_c X ρ v)) ∧ x_vk h v) ∧ (∀ v ∈ st, x_vk h v) ∧ x_P X ρ M h H ∧ va_S (x_A X) s.heap H locs ∧ x_ext ρ0 ρ n0 ∧ n0 ≤ hn h
/-- the machine goes on well from a point that holds this -/
def x_Wt (X : xX) (ρ0 : Nat → Nat) (n0 nL : Nat) (p : Program) (l : Launch) (e : Env) (R : Room) (s : State) (m : MethodId) (args : Array Value) (below : List Frame) (meth : Method) (c : Code) (Q : State → Prop) : xJT := fun pc ls st M h cells slots =>
  ∀ (ρ : Nat → Nat) (lsC : Array Slot) (H : Heap) (locs : List Loc), x_St X ρ0 n0 nL s ρ lsC H locs ls st M h → W p l e R s m args below meth c H locs cells slots Q (F0 m pc lsC (st.map (x_c X ρ)))
