/-! the check of a method's table against its bytes and the tables' words -/
def x_has (p : Nat) (w : Jvm.Cond) : Bool := decide (x_tbl[p]? = some w) && goodWord w
theorem x_has_in {p : Nat} {w : Jvm.Cond} (h : x_has p w = true) : w ∈ x_tb := by
  unfold x_has at h
  rw [Bool.and_eq_true, decide_eq_true_eq] at h
  exact List.mem_filter.mpr ⟨List.mem_of_getElem? h.1, h.2⟩
def x_hasO (p : Nat) (w : Jvm.Cond) : Bool := decide (x_tbl[p]? = some w) && x_odd w
theorem x_hasO_in {p : Nat} {w : Jvm.Cond} (h : x_hasO p w = true) : w ∈ x_tbl ∧ x_odd w = true := by
  unfold x_hasO at h
  rw [Bool.and_eq_true, decide_eq_true_eq] at h
  exact ⟨List.mem_of_getElem? h.1, h.2⟩
def x_okz (z zz : xMD) (n pc pi : Nat) : Bool := x_has pc (x_cw zz) && (x_has pi (.initialized (zN zz).cls) && (decide ((zN zz).cls ≠ "java/lang/invoke/MethodHandle" ∧ (zN zz).cls ≠ "java/lang/invoke/VarHandle") && (decide ((parseMethodDescriptor (zN zz).desc).map (fun d => d.parameters.length) = some n) && (decide (zF zz % 1000 + 1 ≤ zF z % 1000) && decide (8 + (zL zz + 11) + zO zz ≤ zO z)))))
theorem x_okz_in {z zz : xMD} {n pc pi : Nat} (h : x_okz z zz n pc pi = true) : x_zok z zz n := by
  unfold x_okz at h
  simp only [Bool.and_eq_true, decide_eq_true_eq] at h
  obtain ⟨h1, h2, h3, h4, h5, h6⟩ := h
  exact ⟨x_has_in h1, x_has_in h2, h3, h4, h5, h6⟩
def x_okv (z zz : xMD) (n pc pi : Nat) : Bool := x_okz z zz n pc pi && decide (zF zz < 1000)
theorem x_okv_in {z zz : xMD} {n pc pi : Nat} (h : x_okv z zz n pc pi = true) : x_zok z zz n ∧ zF zz < 1000 := by
  unfold x_okv at h
  rw [Bool.and_eq_true, decide_eq_true_eq] at h
  exact ⟨x_okz_in h.1, h.2⟩
def x_in32 (x : Int) : Bool := decide (-2147483648 ≤ x) && decide (x < 2147483648)
theorem x_in32_in {x : Int} (h : x_in32 x = true) : x_i32 x := by
  unfold x_in32 at h
  simp only [Bool.and_eq_true, decide_eq_true_eq] at h
  exact h
def x_own (z : xMD) : String := (zN z).cls
def x_tag (t : FieldType) : Nat := match t with
  | .int => 0
  | .long => 1
  | .object _ => 2
  | .array _ => 2
  | .byte => 3
  | _ => 9
def x_flk (z : xMD) (idx q i : Nat) : Jvm.Cond := Jvm.Cond.fieldLink (zN z).cls idx ((x_cl q).2.1 i).1 ((x_cl q).2.1 i).2.1 ((x_cl q).2.1 i).2.2.1
/-- the throws of ScoreParts: pool entries of class and constructor, the exception's number -/
def x_thl : List (Nat × Nat × Nat) := [(56, 58, 0), (63, 65, 1), (94, 96, 2), (196, 198, 3)]
def x_rcn (q : Nat) : String := if q = 50 then "java/lang/String" else (x_cl q).1
def x_aty (t : ArrayType) : Nat := match t with
  | .int => 20
  | .byte => 21
  | .long => 22
  | _ => 99
def x_rtc (t : Option FieldType) : Nat := match t with
  | none => 0
  | some .int => 1
  | some .boolean => 2
  | some .long => 3
  | some .byte => 5
  | some .char => 6
  | some (.object _) => 4
  | some (.array _) => 4
  | _ => 9
def x_ok1 (z : xMD) (pc len : Nat) (i : Instr) (k : List Nat) (zs : List xMD) : Bool := match i with
  | .iconst x => x_in32 x && len == 1
  | .bipush x => x_in32 x && (decide ((Int8.ofInt x).toInt32 = Int32.ofInt x) && len == 2)
  | .sipush x => x_in32 x && (decide ((Int16.ofInt x).toInt32 = Int32.ofInt x) && len == 3)
  | .lconst _ => len == 1
  | .aconst_null => len == 1
  | .ldc idx => (match k with
    | 1 :: v :: p :: _ => x_has p (.constant (zN z).cls idx (Int32.ofNat v)) && (decide (v < 2147483648) && len == 2)
    | 2 :: v :: _ => (match x_str[v]? with | some q => decide (q.1 = (zN z).cls) && (decide (q.2.1 = idx) && len == 2) | none => false)
    | _ => false)
  | .ldc2_w idx => (match k with
    | v :: p :: _ => x_has p (.constantLong (zN z).cls idx (Int64.ofNat v)) && (decide (v < 9223372036854775808) && len == 3)
    | _ => false)
  | .iload _ | .lload _ | .aload _ => len == 2
  | .iload_n _ | .lload_n _ | .aload_n _ => len == 1
  | .istore i => decide (i < zL z) && len == 2
  | .astore i => decide (i < zL z) && len == 2
  | .lstore i => decide (i + 1 < zL z) && len == 2
  | .istore_n i => decide (i.val < zL z) && len == 1
  | .astore_n i => decide (i.val < zL z) && len == 1
  | .lstore_n i => decide (i.val + 1 < zL z) && len == 1
  | .iinc _ _ => len == 3
  | .iadd | .isub | .imul | .idiv | .irem | .iand | .ior | .ixor | .ishl | .ishr | .i2l | .l2i | .i2b | .ladd | .lsub | .lmul | .land | .lshr | .lcmp | .dup | .dup2 | .pop | .ineg | .i2c | .iushr | .lor | .lshl | .dup_x1 => len == 1
  | .iaload | .baload | .aaload | .iastore | .bastore | .aastore | .arraylength => len == 1
  | .getstatic idx => (match k with | _ :: p :: _ => x_has p (.fieldLink (zN z).cls idx "java/lang/String" "COMPACT_STRINGS" "Z") && len == 3 | _ => false)
  | .ifCond _ o => (match k with | [t] => decide ((pc : Int) + o = t) && len == 3 | _ => false)
  | .if_icmp _ o => (match k with | [t] => decide ((pc : Int) + o = t) && len == 3 | _ => false)
  | .ifnull o => (match k with | [t] => decide ((pc : Int) + o = t) && len == 3 | _ => false)
  | .ifnonnull o => (match k with | [t] => decide ((pc : Int) + o = t) && len == 3 | _ => false)
  | .goto o => (match k with | [t] => decide ((pc : Int) + o = t) && len == 3 | _ => false)
  | .tableswitch d lo hi os => (match k with | t :: ts => decide ((pc : Int) + d = t) && (decide (os.toList.map (fun o => (pc : Int) + o) = ts.map (fun (x : Nat) => (x : Int))) && (decide (hi + 1 = lo + os.size) && (x_in32 lo && x_in32 hi))) | _ => false)
  | .lookupswitch d ps => (match k with | t :: ts => decide ((pc : Int) + d = t) && (decide (ps.toList.map (fun o => (pc : Int) + o.2) = ts.map (fun (x : Nat) => (x : Int))) && (ps.toList.zip (ps.toList.drop 1)).all (fun (a, next) => a.1 < next.1)) | _ => false)
  | .getfield idx => (match k with | q :: i :: t :: p :: _ => decide (q < 10) && (decide (i < x_N q) && (decide (x_tag (x_ty q i) = t) && (x_has p (x_flk z idx q i) && len == 3))) | _ => false)
  | .putfield idx => (match k with | q :: i :: t :: p :: _ => decide (q < 10) && (decide (i < x_N q) && (decide (x_tag (x_ty q i) = t) && (x_has p (x_flk z idx q i) && (decide (((x_cl q).2.1 i).2.2.2 = false ∨ (((x_cl q).2.1 i).2.2.2 = true ∧ (zN z).name = "<init>" ∧ ((x_cl q).2.1 i).1 = (zN z).cls)) && (decide (x_isl q i = (t == 1)) && len == 3))))) | _ => false)
  | .new idx => (match k with | q :: p1 :: p2 :: p3 :: _ => decide (q < 10) && (x_has p1 (.classLink (zN z).cls idx (x_cl q).1) && (x_has p2 (.instantiable (x_cl q).1 (x_N q)) && (x_has p3 (.initialized (x_cl q).1) && len == 3))) | _ => false)
  | .newarray t => (match k with | q :: p :: _ => decide (x_aty t = q) && (decide (q < 22) && (x_has p (.arrayClass (newarray.typeOf t)) && len == 2)) | _ => false)
  | .anewarray idx => (match k with
    | q :: p1 :: p2 :: _ => (decide (q = 23) && (x_has p1 (.classLink (zN z).cls idx RX1) && (x_hasO p2 (.arrayOver (.object RX1)) && len == 3))) || (decide (q = 24) && (x_has p1 (.classLink (zN z).cls idx RX4) && (x_hasO p2 (.arrayOver (.object RX4)) && len == 3)))
    | _ => false)
  | .invokevirtual idx => (match k, zs with
    | na :: mc :: ms :: q :: pl :: pi :: pe :: p1 :: p2 :: _, [zz] => decide (zC zz = mc) && (decide (zS zz = ms) && (decide (q < 10 ∨ q = 50) && (x_has pl (.methodLink (zN z).cls idx (zN zz)) && (x_has pi (.instanceMethod (zN zz)) && (x_has pe (.selects (x_rcn q) (zN zz) (zN zz)) && (x_okv z zz na p2 p1 && len == 3))))))
    | na :: mc :: ms :: q :: pl :: pi :: pe :: p1 :: p2 :: psm :: pix :: pcx :: _, [zz, zx] => decide (zC zz = mc) && (decide (zS zz = ms) && (decide (q < 10) && (x_has pl (.methodLink (zN z).cls idx (zN zx)) && (x_has pi (.instanceMethod (zN zz)) && (x_has pe (.selects (x_cl q).1 (zN zx) (zN zz)) && (x_has psm (.sameMethod (zN zx).cls (zN zx).cls (zN zx).name (zN zx).desc) && (x_has pix (.instanceMethod (zN zx)) && (x_has pcx (.code (zN zx) (zB zx) (zL zx) (zR zx)) && (decide ((zN zx).cls ≠ "java/lang/invoke/MethodHandle" ∧ (zN zx).cls ≠ "java/lang/invoke/VarHandle") && (decide ((parseMethodDescriptor (zN zx).desc).map (fun d => d.parameters.length) = some na) && (x_okv z zz na p2 p1 && len == 3)))))))))))
    | _, _ => false)
  | .invokespecial idx => (match k, zs with
    | 1003 :: pl :: pi :: p2 :: _, [] => x_has pl (.methodLink (zN z).cls idx Lib.objectInit) && (x_has pi (.instanceMethod Lib.objectInit) && (x_has p2 (.code Lib.objectInit ⟨#[0xb1]⟩ 1 none) && (decide (1 ≤ zF z % 1000) && (decide (20 ≤ zO z) && len == 3))))
    | na :: mc :: ms :: q :: nst :: pl :: pi :: p1 :: p2 :: _, [zz] => decide (zC zz = mc) && (decide (zS zz = ms) && (decide (q < 10) && (((decide (nst = 0) && x_has pl (.methodLink (zN z).cls idx (zN zz))) || (decide (nst = 1) && x_hasO pl (.methodLinkNest (zN z).cls idx (zN zz) RX7))) && (x_has pi (.instanceMethod (zN zz)) && (decide ((zN zz).name = "<init>") && (decide (zR zz = none) && (x_okv z zz na p2 p1 && len == 3)))))))
    | na :: mc :: ms :: q :: pl :: pi :: psm :: psu :: p1 :: p2 :: _, [zz, zx] => decide (zC zz = mc) && (decide (zS zz = ms) && (decide (q < 10) && (x_has pl (.methodLink (zN z).cls idx (zN zx)) && (x_has pi (.instanceMethod (zN zz)) && (x_has psm (.sameMethod (zN zz).cls (zN zz).cls (zN zz).name (zN zz).desc) && (x_has psu (.superclass (zN z).cls (zN zz).cls) && (decide (zN zx = zN zz) && (decide ((zN zz).name ≠ "<init>") && (x_okv z zz na p2 p1 && len == 3)))))))))
    | _, _ => false)
  | .invokestatic idx => (match k, zs with
    | 1000 :: pl :: pn :: ps :: pi :: _, [] => x_has pl (.methodLink (zN z).cls idx arraycopyName) && (x_has pn (.native arraycopyName) && (x_has ps (.static arraycopyName) && (x_has pi (.initialized "java/lang/System") && (decide (1 ≤ zF z % 1000) && (decide (8 + (nativeFrameWords "java/lang/System" "arraycopy" 5 + 11) ≤ zO z) && len == 3)))))
    | 1005 :: pl :: pn :: ps :: pi :: _, [] => x_has pl (.methodLink (zN z).cls idx arraycopyName) && (x_has pn (.native arraycopyName) && (x_has ps (.static arraycopyName) && (x_has pi (.initialized "java/lang/System") && (decide (1 ≤ zF z % 1000) && (decide (8 + (nativeFrameWords "java/lang/System" "arraycopy" 5 + 11) ≤ zO z) && len == 3)))))
    | 1001 :: pl :: ps :: pi :: p2 :: _, [] => x_has pl (.methodLink (zN z).cls idx Lib.Math.min.name) && (x_has ps (.static Lib.Math.min.name) && (x_has pi (.initialized "java/lang/Math") && (x_has p2 (.code Lib.Math.min.name Lib.Math.min.code 2 (some .int)) && (decide (1 ≤ zF z % 1000) && (decide (21 ≤ zO z) && len == 3)))))
    | 1002 :: pl :: ps :: pi :: p2 :: _, [] => x_has pl (.methodLink (zN z).cls idx Lib.Math.max.name) && (x_has ps (.static Lib.Math.max.name) && (x_has pi (.initialized "java/lang/Math") && (x_has p2 (.code Lib.Math.max.name Lib.Math.max.code 2 (some .int)) && (decide (1 ≤ zF z % 1000) && (decide (21 ≤ zO z) && len == 3)))))
    | na :: mc :: ms :: pl :: ps :: p1 :: p2 :: _, [zz] => decide (zC zz = mc) && (decide (zS zz = ms) && (x_has pl (.methodLink (zN z).cls idx (zN zz)) && (x_has ps (.static (zN zz)) && (x_okz z zz na p2 p1 && len == 3))))
    | _, _ => false)
  | .return_ => len == 1
  | .ireturn => len == 1
  | .areturn => len == 1
  | .lreturn => len == 1
  | _ => false
def x_chk (z : xMD) : Nat → List xPI → Bool
  | _, [] => true
  | pc, (.nop, k, zs) :: _ => (match k, zs with | [t], [] => t == pc | _, _ => false)
  | pc, (.athrow, k, zs) :: _ => (match k, zs with
    | [e, ik, ic], [] => decide (decode (zB z) pc = .ok (.new ik, 3)) && (decide (decode (zB z) (pc + 3) = .ok (.dup, 1)) && (decide (decode (zB z) (pc + 4) = .ok (.invokespecial ic, 3)) && (decide (decode (zB z) (pc + 7) = .ok (.athrow, 1)) && (decide ((zN z).cls = RX7) && (decide ((ik, ic, e) ∈ x_thl) && (decide (6 ≤ zF z % 1000) && decide (89 ≤ zO z)))))))
    | _, _ => false)
  | pc, (i, k, zs) :: is => (match decode (zB z) pc with | .ok (j, len) => decide (j = i) && (x_ok1 z pc len i k zs && x_chk z (pc + len) is) | .error _ => false)
def x_chkB (z : xMD) (B : xB) : Bool := B.all (fun b => x_chk z b.1 b.2.2) && (plainName (zN z).cls && (decide (x_rtc (zR z) < 9) && decide (zF z < 1000)))
