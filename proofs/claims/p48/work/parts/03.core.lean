/-! THE SMALL MACHINE: values, memory and what a stretch of code asks (wpL), read by the program's own link tables; its soundness over the kit's rows is part 04. -/
abbrev xV : Type := Int ⊕ Int ⊕ Nat ⊕ Nat ⊕ Nat
abbrev xI (x : Int) : xV := .inl x
abbrev xJ (x : Int) : xV := .inr (.inl x)
abbrev xA (r : Nat) : xV := .inr (.inr (.inl r))
abbrev xE (a : Nat) : xV := .inr (.inr (.inr (.inl a)))
abbrev xS (i : Nat) : xV := .inr (.inr (.inr (.inr i)))
abbrev xM : Type := Nat → Int → Int
abbrev xH : Type := (Nat → Int → Nat) × (Nat → Nat) × (Nat → Int) × Nat
abbrev xL : Type := Nat → Option xV
def hP (h : xH) : Nat → Int → Nat := h.1
def hK (h : xH) : Nat → Nat := h.2.1
def hL (h : xH) : Nat → Int := h.2.2.1
def hn (h : xH) : Nat := h.2.2.2
/-- a method: name, code, locals, what it returns, room: frames, locals, cells, slots -/
abbrev xMD : Type := MethodName × ByteArray × Nat × Option FieldType × Nat × Nat × Nat × Nat
def zN (z : xMD) : MethodName := z.1
def zB (z : xMD) : ByteArray := z.2.1
def zL (z : xMD) : Nat := z.2.2.1
def zR (z : xMD) : Option FieldType := z.2.2.2.1
def zF (z : xMD) : Nat := z.2.2.2.2.1
def zO (z : xMD) : Nat := z.2.2.2.2.2.1
def zC (z : xMD) : Nat := z.2.2.2.2.2.2.1
def zS (z : xMD) : Nat := z.2.2.2.2.2.2.2
/-- how a method ends: returns (with a value), or throws (the number of the exception's class) -/
abbrev xO : Type := Option xV ⊕ Nat
abbrev xPI : Type := Instr × List Nat × List xMD
abbrev xB : Type := List (Nat × Bool × List xPI)
def w8 (x : Int) : Int := x.bmod 256
def w32 (x : Int) : Int := x.bmod 4294967296
def w64 (x : Int) : Int := x.bmod 18446744073709551616
def x_div (a b : Int) : Int := (Int32.ofInt a / Int32.ofInt b).toInt
def x_rem (a b : Int) : Int := (Int32.ofInt a - Int32.ofInt a / Int32.ofInt b * Int32.ofInt b).toInt
def x_and (a b : Int) : Int := (Int32.ofInt a &&& Int32.ofInt b).toInt
def x_or (a b : Int) : Int := (Int32.ofInt a ||| Int32.ofInt b).toInt
def x_xor (a b : Int) : Int := (Int32.ofInt a ^^^ Int32.ofInt b).toInt
def x_shl (a b : Int) : Int := (Int32.ofInt a <<< (Int32.ofInt b &&& 31)).toInt
def x_shr (a b : Int) : Int := (Int32.ofInt a >>> (Int32.ofInt b &&& 31)).toInt
def x_landL (a b : Int) : Int := (Int64.ofInt a &&& Int64.ofInt b).toInt
def x_shrL (a b : Int) : Int := (Int64.ofInt a >>> ((Int32.ofInt b).toInt64 &&& 63)).toInt
def x_ushr (a b : Int) : Int := ((Int32.ofInt a).toUInt32 >>> ((Int32.ofInt b).toUInt32 &&& Int32.toUInt32 31)).toInt32.toInt
def x_orL (a b : Int) : Int := (Int64.ofInt a ||| Int64.ofInt b).toInt
def x_shlL (a b : Int) : Int := (Int64.ofInt a <<< ((Int32.ofInt b).toInt64 &&& 63)).toInt
def x_cmp (a b : Int) : Int := if a < b then -1 else if a = b then 0 else 1
def x_w (M : xM) (a : Nat) (i v : Int) : xM := fun b j => if b = a ∧ j = i then v else M b j
def x_pw (h : xH) (a : Nat) (i : Int) (r : Nat) : xH := (fun b j => if b = a ∧ j = i then r else hP h b j, h.2)
def x_new (h : xH) (k : Nat) (len : Int) : xH := (fun b j => if b = hn h then 0 else hP h b j, fun b => if b = hn h then k else hK h b, fun b => if b = hn h then len else hL h b, hn h + 1)
def x_z (M : xM) (h : xH) : xM := fun b j => if b = hn h then 0 else M b j
def x_cp (M : xM) (src : Nat) (sp : Int) (dst : Nat) (dp n : Int) : xM := fun b j => if b = dst ∧ dp ≤ j ∧ j < dp + n then M src (sp + (j - dp)) else M b j
def x_nl : Option xV → Option xV
  | some (.inr (.inl _)) => none
  | o => o
def x_up (ls : xL) (i : Nat) (v : xV) : xL := fun j => if j = i then some v else if j + 1 = i then x_nl (ls j) else ls j
def x_up2 (ls : xL) (i : Nat) (v : xV) : xL := fun j => if j = i then some v else if j = i + 1 then none else if j + 1 = i then x_nl (ls j) else ls j
def x_cat : xV → Nat
  | .inr (.inl _) => 2
  | _ => 1
/-- the locals at a method's entry -/
def x_ent : List xV → Nat → xL
  | [], _ => fun _ => none
  | v :: vs, i => fun j => if j = i then some v else x_ent vs (i + x_cat v) j
/-- the field's type: class by its number in vwCl -/
def x_ty : Nat → Nat → FieldType
  | 0 => tyX0
  | 1 => tyX1
  | 2 => tyX2
  | 3 => tyX3
  | 4 => tyX4
  | 5 => tyX5
  | 6 => tyX6
  | 7 => tyX7
  | 8 => tyJ0
  | _ => tyJ4
def x_N : Nat → Nat
  | 0 => 3
  | 1 => 6
  | 2 => 2
  | 3 => 3
  | 4 => 13
  | 5 => 12
  | 6 => 10
  | 7 => 7
  | 8 => 4
  | _ => 4
/-- the law's script: its address, its length, its ints -/
abbrev xSc : Type := Nat × Int × (Int → Int)
abbrev xCal : Type := xMD → List xV → xM → xH → (xO → xM → xH → Prop) → Prop
abbrev xJT : Type := Nat → xL → List xV → xM → xH → Nat → Nat → Prop
def x_cnd (c : ClassFile.Cond) (a b : Int) : Prop := match c with
  | .eq => a = b
  | .ne => a ≠ b
  | .lt => a < b
  | .ge => b ≤ a
  | .gt => b < a
  | .le => a ≤ b
def x_sw (J : xJT) (ls : xL) (st : List xV) (M : xM) (h : xH) (c n : Nat) (x : Int) (d : Prop) : Int → List Nat → Prop
  | _, [] => d
  | lo, t :: ts => (x = lo → J t ls st M h c n) ∧ x_sw J ls st M h c n x d (lo + 1) ts
def x_lk (J : xJT) (ls : xL) (st : List xV) (M : xM) (h : xH) (c n : Nat) (x : Int) (d : Prop) : List Int → List Nat → Prop
  | k :: ks, t :: ts => (x = k → J t ls st M h c n) ∧ (x ≠ k → x_lk J ls st M h c n x d ks ts)
  | _, _ => d
def x_rc (h : xH) (q : Nat) : List xV → Prop
  | .inr (.inr (.inl r)) :: _ => q < 50 ∧ hK h r = q
  | .inr (.inr (.inr (.inr _))) :: _ => q = 50
  | _ => False
/-- E: cells, slots, what is returned (0 nothing, 1 int, 2 boolean, 3 long, 4 a reference) -/
def wpL (Cl : xCal) (E : Nat × Nat × Nat × xSc) (J : xJT) (Φ : xO → xM → xH → Prop) : List xPI → xL → List xV → xM → xH → Nat → Nat → Prop
  | [], _, _, _, _, _, _ => False
  | (i, k, z) :: is, ls, st, M, h, c, n => match i with
    | .nop => (match k with | [t] => J t ls st M h c n | _ => False)
    | .iconst x => wpL Cl E J Φ is ls (xI x :: st) M h c n
    | .bipush x => wpL Cl E J Φ is ls (xI x :: st) M h c n
    | .sipush x => wpL Cl E J Φ is ls (xI x :: st) M h c n
    | .lconst x => wpL Cl E J Φ is ls (xJ x.val :: st) M h c n
    | .aconst_null => wpL Cl E J Φ is ls (xA 0 :: st) M h c n
    | .ldc _ => (match k with | 1 :: v :: _ => wpL Cl E J Φ is ls (xI v :: st) M h c n | 2 :: v :: _ => wpL Cl E J Φ is ls (xS v :: st) M h c n | _ => False)
    | .ldc2_w _ => (match k with | v :: _ => wpL Cl E J Φ is ls (xJ v :: st) M h c n | _ => False)
    | .iload i => (match ls i with | some (.inl x) => wpL Cl E J Φ is ls (xI x :: st) M h c n | _ => False)
    | .iload_n i => (match ls i.val with | some (.inl x) => wpL Cl E J Φ is ls (xI x :: st) M h c n | _ => False)
    | .lload i => (match ls i with | some (.inr (.inl x)) => wpL Cl E J Φ is ls (xJ x :: st) M h c n | _ => False)
    | .lload_n i => (match ls i.val with | some (.inr (.inl x)) => wpL Cl E J Φ is ls (xJ x :: st) M h c n | _ => False)
    | .aload i => (match ls i with | some (.inr (.inr x)) => wpL Cl E J Φ is ls (.inr (.inr x) :: st) M h c n | _ => False)
    | .aload_n i => (match ls i.val with | some (.inr (.inr x)) => wpL Cl E J Φ is ls (.inr (.inr x) :: st) M h c n | _ => False)
    | .istore i => (match st with | .inl x :: st => wpL Cl E J Φ is (x_up ls i (xI x)) st M h c n | _ => False)
    | .istore_n i => (match st with | .inl x :: st => wpL Cl E J Φ is (x_up ls i.val (xI x)) st M h c n | _ => False)
    | .lstore i => (match st with | .inr (.inl x) :: st => wpL Cl E J Φ is (x_up2 ls i (xJ x)) st M h c n | _ => False)
    | .lstore_n i => (match st with | .inr (.inl x) :: st => wpL Cl E J Φ is (x_up2 ls i.val (xJ x)) st M h c n | _ => False)
    | .astore i => (match st with | .inr (.inr x) :: st => wpL Cl E J Φ is (x_up ls i (.inr (.inr x))) st M h c n | _ => False)
    | .astore_n i => (match st with | .inr (.inr x) :: st => wpL Cl E J Φ is (x_up ls i.val (.inr (.inr x))) st M h c n | _ => False)
    | .iinc i d => (match ls i with | some (.inl x) => wpL Cl E J Φ is (x_up ls i (xI (w32 (x + d)))) st M h c n | _ => False)
    | .iadd => (match st with | .inl b :: .inl a :: st => wpL Cl E J Φ is ls (xI (w32 (a + b)) :: st) M h c n | _ => False)
    | .isub => (match st with | .inl b :: .inl a :: st => wpL Cl E J Φ is ls (xI (w32 (a - b)) :: st) M h c n | _ => False)
    | .imul => (match st with | .inl b :: .inl a :: st => wpL Cl E J Φ is ls (xI (w32 (a * b)) :: st) M h c n | _ => False)
    | .idiv => (match st with | .inl b :: .inl a :: st => b ≠ 0 ∧ wpL Cl E J Φ is ls (xI (x_div a b) :: st) M h c n | _ => False)
    | .irem => (match st with | .inl b :: .inl a :: st => b ≠ 0 ∧ wpL Cl E J Φ is ls (xI (x_rem a b) :: st) M h c n | _ => False)
    | .iand => (match st with | .inl b :: .inl a :: st => wpL Cl E J Φ is ls (xI (x_and a b) :: st) M h c n | _ => False)
    | .ior => (match st with | .inl b :: .inl a :: st => wpL Cl E J Φ is ls (xI (x_or a b) :: st) M h c n | _ => False)
    | .ixor => (match st with | .inl b :: .inl a :: st => wpL Cl E J Φ is ls (xI (x_xor a b) :: st) M h c n | _ => False)
    | .ishl => (match st with | .inl b :: .inl a :: st => wpL Cl E J Φ is ls (xI (x_shl a b) :: st) M h c n | _ => False)
    | .ishr => (match st with | .inl b :: .inl a :: st => wpL Cl E J Φ is ls (xI (x_shr a b) :: st) M h c n | _ => False)
    | .i2l => (match st with | .inl a :: st => wpL Cl E J Φ is ls (xJ a :: st) M h c n | _ => False)
    | .l2i => (match st with | .inr (.inl a) :: st => wpL Cl E J Φ is ls (xI (w32 a) :: st) M h c n | _ => False)
    | .ineg => (match st with | .inl a :: st => wpL Cl E J Φ is ls (xI (w32 (-a)) :: st) M h c n | _ => False)
    | .i2c => (match st with | .inl a :: st => wpL Cl E J Φ is ls (xI (a % 65536) :: st) M h c n | _ => False)
    | .iushr => (match st with | .inl b :: .inl a :: st => wpL Cl E J Φ is ls (xI (x_ushr a b) :: st) M h c n | _ => False)
    | .lor => (match st with | .inr (.inl b) :: .inr (.inl a) :: st => wpL Cl E J Φ is ls (xJ (x_orL a b) :: st) M h c n | _ => False)
    | .lshl => (match st with | .inl b :: .inr (.inl a) :: st => wpL Cl E J Φ is ls (xJ (x_shlL a b) :: st) M h c n | _ => False)
    | .dup_x1 => (match st with | v :: w :: st => x_cat v = 1 ∧ x_cat w = 1 ∧ wpL Cl E J Φ is ls (v :: w :: v :: st) M h c n | _ => False)
    | .getstatic _ => (match k with | 1 :: _ => wpL Cl E J Φ is ls (xI 1 :: st) M h c n | _ => False)
    | .i2b => (match st with | .inl a :: st => wpL Cl E J Φ is ls (xI (w8 a) :: st) M h c n | _ => False)
    | .ladd => (match st with | .inr (.inl b) :: .inr (.inl a) :: st => wpL Cl E J Φ is ls (xJ (w64 (a + b)) :: st) M h c n | _ => False)
    | .lsub => (match st with | .inr (.inl b) :: .inr (.inl a) :: st => wpL Cl E J Φ is ls (xJ (w64 (a - b)) :: st) M h c n | _ => False)
    | .lmul => (match st with | .inr (.inl b) :: .inr (.inl a) :: st => wpL Cl E J Φ is ls (xJ (w64 (a * b)) :: st) M h c n | _ => False)
    | .land => (match st with | .inr (.inl b) :: .inr (.inl a) :: st => wpL Cl E J Φ is ls (xJ (x_landL a b) :: st) M h c n | _ => False)
    | .lshr => (match st with | .inl b :: .inr (.inl a) :: st => wpL Cl E J Φ is ls (xJ (x_shrL a b) :: st) M h c n | _ => False)
    | .lcmp => (match st with | .inr (.inl b) :: .inr (.inl a) :: st => wpL Cl E J Φ is ls (xI (x_cmp a b) :: st) M h c n | _ => False)
    | .dup => (match st with | v :: st => x_cat v = 1 ∧ wpL Cl E J Φ is ls (v :: v :: st) M h c n | _ => False)
    | .dup2 => (match st with | v :: w :: st => x_cat v = 1 ∧ x_cat w = 1 ∧ wpL Cl E J Φ is ls (v :: w :: v :: w :: st) M h c n | _ => False)
    | .pop => (match st with | v :: st => x_cat v = 1 ∧ wpL Cl E J Φ is ls st M h c n | _ => False)
    | .ifCond q _ => (match k, st with | [t], .inl a :: st => (x_cnd q a 0 → J t ls st M h c n) ∧ (¬ x_cnd q a 0 → wpL Cl E J Φ is ls st M h c n) | _, _ => False)
    | .if_icmp q _ => (match k, st with | [t], .inl b :: .inl a :: st => (x_cnd q a b → J t ls st M h c n) ∧ (¬ x_cnd q a b → wpL Cl E J Φ is ls st M h c n) | _, _ => False)
    | .ifnull _ => (match k, st with | [t], .inr (.inr (.inl r)) :: st => (r = 0 → J t ls st M h c n) ∧ (r ≠ 0 → wpL Cl E J Φ is ls st M h c n) | _, _ => False)
    | .ifnonnull _ => (match k, st with | [t], .inr (.inr (.inl r)) :: st => (r ≠ 0 → J t ls st M h c n) ∧ (r = 0 → wpL Cl E J Φ is ls st M h c n) | [t], .inr (.inr (.inr (.inr _))) :: st => J t ls st M h c n | _, _ => False)
    | .goto _ => (match k with | [t] => J t ls st M h c n | _ => False)
    | .tableswitch _ lo hi _ => (match k, st with | d :: ts, .inl x :: st => x_sw J ls st M h c n x (x < lo ∨ hi < x → J d ls st M h c n) lo ts | _, _ => False)
    | .lookupswitch _ ps => (match k, st with | d :: ts, .inl x :: st => x_lk J ls st M h c n x (J d ls st M h c n) (ps.toList.map (fun p => p.1)) ts | _, _ => False)
    | .getfield _ => (match k, st with
      | q :: i :: 0 :: _, .inr (.inr (.inl a)) :: st => hK h a = q ∧ wpL Cl E J Φ is ls (xI (M a i) :: st) M h c n
      | q :: i :: 1 :: _, .inr (.inr (.inl a)) :: st => hK h a = q ∧ wpL Cl E J Φ is ls (xJ (M a i) :: st) M h c n
      | q :: i :: 2 :: _, .inr (.inr (.inl a)) :: st => hK h a = q ∧ wpL Cl E J Φ is ls (xA (hP h a i) :: st) M h c n
      | q :: i :: 3 :: _, .inr (.inr (.inl a)) :: st => hK h a = q ∧ wpL Cl E J Φ is ls (xI (M a i) :: st) M h c n
      | _, _ => False)
    | .putfield _ => (match k, st with
      | q :: i :: 0 :: _, .inl v :: .inr (.inr (.inl a)) :: st => hK h a = q ∧ wpL Cl E J Φ is ls st (x_w M a i v) h c n
      | q :: i :: 1 :: _, .inr (.inl v) :: .inr (.inr (.inl a)) :: st => hK h a = q ∧ wpL Cl E J Φ is ls st (x_w M a i v) h c n
      | q :: i :: 2 :: _, .inr (.inr (.inl r)) :: .inr (.inr (.inl a)) :: st => hK h a = q ∧ wpL Cl E J Φ is ls st M (x_pw h a i r) c n
      | q :: i :: 3 :: _, .inl v :: .inr (.inr (.inl a)) :: st => (hK h a = q ∧ w8 v = v) ∧ wpL Cl E J Φ is ls st (x_w M a i v) h c n
      | _, _ => False)
    | .iaload => (match st with | .inl i :: .inr (.inr (.inl a)) :: st => hK h a = 20 ∧ (0 ≤ i ∧ i < hL h a) ∧ wpL Cl E J Φ is ls (xI (M a i) :: st) M h c n | .inl i :: .inr (.inr (.inr (.inl a))) :: st => a = E.2.2.2.1 ∧ (0 ≤ i ∧ i < E.2.2.2.2.1) ∧ wpL Cl E J Φ is ls (xI (E.2.2.2.2.2 i) :: st) M h c n | _ => False)
    | .baload => (match st with | .inl i :: .inr (.inr (.inl a)) :: st => hK h a = 21 ∧ (0 ≤ i ∧ i < hL h a) ∧ wpL Cl E J Φ is ls (xI (M a i) :: st) M h c n | _ => False)
    | .aaload => (match st with | .inl i :: .inr (.inr (.inl a)) :: st => (hK h a = 23 ∨ hK h a = 24) ∧ (0 ≤ i ∧ i < hL h a) ∧ wpL Cl E J Φ is ls (xA (hP h a i) :: st) M h c n | _ => False)
    | .iastore => (match st with | .inl v :: .inl i :: .inr (.inr (.inl a)) :: st => hK h a = 20 ∧ (0 ≤ i ∧ i < hL h a) ∧ wpL Cl E J Φ is ls st (x_w M a i v) h c n | _ => False)
    | .bastore => (match st with | .inl v :: .inl i :: .inr (.inr (.inl a)) :: st => hK h a = 21 ∧ (0 ≤ i ∧ i < hL h a) ∧ wpL Cl E J Φ is ls st (x_w M a i (w8 v)) h c n | _ => False)
    | .aastore => (match st with | .inr (.inr (.inl r)) :: .inl i :: .inr (.inr (.inl a)) :: st => (hK h a = 23 ∧ (r = 0 ∨ hK h r = 1) ∨ hK h a = 24 ∧ (r = 0 ∨ hK h r = 4)) ∧ (0 ≤ i ∧ i < hL h a) ∧ wpL Cl E J Φ is ls st M (x_pw h a i r) c n | _ => False)
    | .arraylength => (match st with | .inr (.inr (.inl a)) :: st => 20 ≤ hK h a ∧ hK h a ≤ 24 ∧ wpL Cl E J Φ is ls (xI (hL h a) :: st) M h c n | .inr (.inr (.inr (.inl a))) :: st => a = E.2.2.2.1 ∧ 0 ≤ E.2.2.2.2.1 ∧ wpL Cl E J Φ is ls (xI E.2.2.2.2.1 :: st) M h c n | _ => False)
    | .new _ => (match k with | q :: _ => (c + 1 ≤ E.1 ∧ n + x_N q ≤ E.2.1) ∧ wpL Cl E J Φ is ls (xA (hn h) :: st) (x_z M h) (x_new h q 0) (c + 1) (n + x_N q) | _ => False)
    | .newarray _ => (match k, st with | q :: _, .inl x :: st => (0 ≤ x ∧ x ≤ 50000 ∧ c + 1 ≤ E.1 ∧ n + x.toNat ≤ E.2.1) ∧ wpL Cl E J Φ is ls (xA (hn h) :: st) (x_z M h) (x_new h q x) (c + 1) (n + x.toNat) | _, _ => False)
    | .anewarray _ => (match k, st with | q :: _, .inl x :: st => (0 ≤ x ∧ x ≤ 50000 ∧ c + 1 ≤ E.1 ∧ n + x.toNat ≤ E.2.1) ∧ wpL Cl E J Φ is ls (xA (hn h) :: st) (x_z M h) (x_new h q x) (c + 1) (n + x.toNat) | _, _ => False)
    | .invokevirtual _ => (match k, z with
      | na :: mc :: ms :: q :: _, [z] => x_rc h q (st.drop na) ∧ (c + mc ≤ E.1 ∧ n + ms ≤ E.2.1) ∧ ((st.drop (na + 1)).map x_cat).sum ≤ 8 ∧ na + 1 ≤ st.length ∧ Cl z (st.take (na + 1)).reverse M h (fun o M' h' => match o with | .inl none => wpL Cl E J Φ is ls (st.drop (na + 1)) M' h' (c + mc) (n + ms) | .inl (some v) => wpL Cl E J Φ is ls (v :: st.drop (na + 1)) M' h' (c + mc) (n + ms) | .inr e => Φ (.inr e) M' h')
      | na :: mc :: ms :: q :: _, [z, _] => x_rc h q (st.drop na) ∧ (c + mc ≤ E.1 ∧ n + ms ≤ E.2.1) ∧ ((st.drop (na + 1)).map x_cat).sum ≤ 8 ∧ na + 1 ≤ st.length ∧ Cl z (st.take (na + 1)).reverse M h (fun o M' h' => match o with | .inl none => wpL Cl E J Φ is ls (st.drop (na + 1)) M' h' (c + mc) (n + ms) | .inl (some v) => wpL Cl E J Φ is ls (v :: st.drop (na + 1)) M' h' (c + mc) (n + ms) | .inr _ => False)
      | _, _ => False)
    | .invokespecial _ => (match k, z with
      | 1003 :: _, [] => (match st with | .inr (.inr (.inl r)) :: st => hK h r < 25 ∧ (st.map x_cat).sum ≤ 8 ∧ wpL Cl E J Φ is ls st M h c n | _ => False)
      | na :: mc :: ms :: q :: _, [z] => x_rc h q (st.drop na) ∧ (c + mc ≤ E.1 ∧ n + ms ≤ E.2.1) ∧ ((st.drop (na + 1)).map x_cat).sum ≤ 8 ∧ na + 1 ≤ st.length ∧ Cl z (st.take (na + 1)).reverse M h (fun o M' h' => match o with | .inl none => wpL Cl E J Φ is ls (st.drop (na + 1)) M' h' (c + mc) (n + ms) | .inl (some v) => wpL Cl E J Φ is ls (v :: st.drop (na + 1)) M' h' (c + mc) (n + ms) | .inr _ => False)
      | na :: mc :: ms :: q :: _, [z, _] => x_rc h q (st.drop na) ∧ (c + mc ≤ E.1 ∧ n + ms ≤ E.2.1) ∧ ((st.drop (na + 1)).map x_cat).sum ≤ 8 ∧ na + 1 ≤ st.length ∧ Cl z (st.take (na + 1)).reverse M h (fun o M' h' => match o with | .inl none => wpL Cl E J Φ is ls (st.drop (na + 1)) M' h' (c + mc) (n + ms) | .inl (some v) => wpL Cl E J Φ is ls (v :: st.drop (na + 1)) M' h' (c + mc) (n + ms) | .inr _ => False)
      | _, _ => False)
    | .invokestatic _ => (match k, z with
      | 1000 :: _, [] => (match st with | .inl m :: .inl dp :: .inr (.inr (.inl d)) :: .inl sp :: .inr (.inr (.inl s)) :: st => (hK h s = 20 ∧ hK h d = 20) ∧ (0 ≤ m ∧ 0 ≤ sp ∧ 0 ≤ dp ∧ sp + m ≤ hL h s ∧ dp + m ≤ hL h d) ∧ (st.map x_cat).sum ≤ 8 ∧ wpL Cl E J Φ is ls st (x_cp M s sp d dp m) h c n | _ => False)
      | 1005 :: _, [] => (match st with | .inl m :: .inl dp :: .inr (.inr (.inl d)) :: .inl sp :: .inr (.inr (.inl s)) :: st => (hK h s = 21 ∧ hK h d = 21) ∧ (0 ≤ m ∧ 0 ≤ sp ∧ 0 ≤ dp ∧ sp + m ≤ hL h s ∧ dp + m ≤ hL h d) ∧ (∀ j : Int, sp ≤ j → j < sp + m → -128 ≤ M s j ∧ M s j < 128) ∧ (st.map x_cat).sum ≤ 8 ∧ wpL Cl E J Φ is ls st (x_cp M s sp d dp m) h c n | _ => False)
      | 1001 :: _, [] => (match st with | .inl b :: .inl a :: st => (st.map x_cat).sum ≤ 8 ∧ wpL Cl E J Φ is ls (xI (min a b) :: st) M h c n | _ => False)
      | 1002 :: _, [] => (match st with | .inl b :: .inl a :: st => (st.map x_cat).sum ≤ 8 ∧ wpL Cl E J Φ is ls (xI (max a b) :: st) M h c n | _ => False)
      | na :: mc :: ms :: _, [z] => (c + mc ≤ E.1 ∧ n + ms ≤ E.2.1) ∧ ((st.drop na).map x_cat).sum ≤ 8 ∧ na ≤ st.length ∧ Cl z (st.take na).reverse M h (fun o M' h' => match o with | .inl none => wpL Cl E J Φ is ls (st.drop na) M' h' (c + mc) (n + ms) | .inl (some v) => wpL Cl E J Φ is ls (v :: st.drop na) M' h' (c + mc) (n + ms) | .inr e => Φ (.inr e) M' h')
      | _, _ => False)
    | .return_ => (match st with | [] => E.2.2.1 = 0 ∧ Φ (.inl none) M h | _ => False)
    | .ireturn => (match st with | [.inl v] => (E.2.2.1 = 1 ∨ E.2.2.1 = 2 ∧ (v = 0 ∨ v = 1) ∨ E.2.2.1 = 5 ∧ (-128 ≤ v ∧ v < 128) ∨ E.2.2.1 = 6 ∧ (0 ≤ v ∧ v < 65536)) ∧ Φ (.inl (some (xI v))) M h | _ => False)
    | .lreturn => (match st with | [.inr (.inl v)] => E.2.2.1 = 3 ∧ Φ (.inl (some (xJ v))) M h | _ => False)
    | .areturn => (match st with | [.inr (.inr (.inl r))] => E.2.2.1 = 4 ∧ Φ (.inl (some (xA r))) M h | _ => False)
    | .athrow => (match k with | e :: _ => (c + 1 ≤ E.1 ∧ n + 6 ≤ E.2.1) ∧ (st.map x_cat).sum ≤ 8 ∧ Φ (.inr e) M h | _ => False)
    | _ => False
def x_k (Cl : xCal) (E : Nat × Nat × Nat × xSc) (J : xJT) (Φ : xO → xM → xH → Prop) (is : List xPI) (ls : xL) (st : List xV) (c n : Nat) : xO → xM → xH → Prop := fun o M' h' => match o with
  | .inl none => wpL Cl E J Φ is ls st M' h' c n
  | .inl (some v) => wpL Cl E J Φ is ls (v :: st) M' h' c n
  | .inr e => Φ (.inr e) M' h'
def x_ki (Cl : xCal) (E : Nat × Nat × Nat × xSc) (J : xJT) (Φ : xO → xM → xH → Prop) (is : List xPI) (ls : xL) (st : List xV) (c n : Nat) : xO → xM → xH → Prop := fun o M' h' => match o with
  | .inl none => wpL Cl E J Φ is ls st M' h' c n
  | .inl (some v) => wpL Cl E J Φ is ls (v :: st) M' h' c n
  | .inr _ => False
def x_blk (B : xB) (t : Nat) : Option (Bool × List xPI) := B.lookup t
def wpG (Cl : xCal) (E : Nat × Nat × Nat × xSc) (B : xB) (K : xJT) (Φ : xO → xM → xH → Prop) : Nat → xJT
  | 0 => fun _ _ _ _ _ _ _ => False
  | f + 1 => fun t ls st M h c n => match x_blk B t with
    | some (true, _) => K t ls st M h c n
    | some (false, is) => wpL Cl E (wpG Cl E B K Φ f) Φ is ls st M h c n
    | none => False
