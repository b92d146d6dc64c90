section
-- ===== PART A: goes FIRST, ahead of the names: the tables' words, and 'selects' of the private methods out of them =====
/-- a private method of a class that the tables say can be made, by its rows of tables_1 -/
def lw_okq (q : MethodName × Nat) : Prop := (q.1.cls ≠ "java/lang/invoke/MethodHandle" ∧ q.1.cls ≠ "java/lang/invoke/VarHandle") ∧ Cond.instantiable q.1.cls q.2 ∈ tables_1 ∧ Cond.privateMethod q.1 ∈ tables_1 ∧ Cond.instanceMethod q.1 ∈ tables_1
theorem lw_p0 : lw_okq (⟨"java/lang/Throwable", "fillInStackTrace", "(I)Ljava/lang/Throwable;"⟩, 6) := ⟨⟨by decide +kernel, by decide +kernel⟩, List.mem_of_getElem? (i := 345) (by decide +kernel), List.mem_of_getElem? (i := 343) (by decide +kernel), List.mem_of_getElem? (i := 344) (by decide +kernel)⟩
theorem lw_p1 : lw_okq (⟨"ScoreParts", "requirePlace", "(I)I"⟩, 7) := ⟨⟨by decide +kernel, by decide +kernel⟩, List.mem_of_getElem? (i := 29) (by decide +kernel), List.mem_of_getElem? (i := 375) (by decide +kernel), List.mem_of_getElem? (i := 376) (by decide +kernel)⟩
theorem lw_p2 : lw_okq (⟨"ScoreParts", "requirePart", "(I)V"⟩, 7) := ⟨⟨by decide +kernel, by decide +kernel⟩, List.mem_of_getElem? (i := 29) (by decide +kernel), List.mem_of_getElem? (i := 410) (by decide +kernel), List.mem_of_getElem? (i := 411) (by decide +kernel)⟩
theorem lw_p3 : lw_okq (⟨"ScoreParts", "requirePrint", "(I)LScoreParts$Noted;"⟩, 7) := ⟨⟨by decide +kernel, by decide +kernel⟩, List.mem_of_getElem? (i := 29) (by decide +kernel), List.mem_of_getElem? (i := 430) (by decide +kernel), List.mem_of_getElem? (i := 431) (by decide +kernel)⟩
theorem lw_p4 : lw_okq (⟨"ScoreParts$Score", "moveBars", "(II)V"⟩, 13) := ⟨⟨by decide +kernel, by decide +kernel⟩, List.mem_of_getElem? (i := 43) (by decide +kernel), List.mem_of_getElem? (i := 492) (by decide +kernel), List.mem_of_getElem? (i := 493) (by decide +kernel)⟩
theorem lw_p5 : lw_okq (⟨"ScoreParts$View", "findLabels", "()V"⟩, 10) := ⟨⟨by decide +kernel, by decide +kernel⟩, List.mem_of_getElem? (i := 170) (by decide +kernel), List.mem_of_getElem? (i := 500) (by decide +kernel), List.mem_of_getElem? (i := 501) (by decide +kernel)⟩
theorem lw_p6 : lw_okq (⟨"ScoreParts$View", "countCovers", "()V"⟩, 10) := ⟨⟨by decide +kernel, by decide +kernel⟩, List.mem_of_getElem? (i := 170) (by decide +kernel), List.mem_of_getElem? (i := 504) (by decide +kernel), List.mem_of_getElem? (i := 505) (by decide +kernel)⟩
theorem lw_p7 : lw_okq (⟨"ScoreParts$View", "listPlayed", "()V"⟩, 10) := ⟨⟨by decide +kernel, by decide +kernel⟩, List.mem_of_getElem? (i := 170) (by decide +kernel), List.mem_of_getElem? (i := 511) (by decide +kernel), List.mem_of_getElem? (i := 512) (by decide +kernel)⟩
theorem lw_p8 : lw_okq (⟨"ScoreParts$View", "seatMarks", "()V"⟩, 10) := ⟨⟨by decide +kernel, by decide +kernel⟩, List.mem_of_getElem? (i := 170) (by decide +kernel), List.mem_of_getElem? (i := 515) (by decide +kernel), List.mem_of_getElem? (i := 516) (by decide +kernel)⟩
theorem lw_p9 : lw_okq (⟨"ScoreParts$View", "showLetters", "()V"⟩, 10) := ⟨⟨by decide +kernel, by decide +kernel⟩, List.mem_of_getElem? (i := 170) (by decide +kernel), List.mem_of_getElem? (i := 523) (by decide +kernel), List.mem_of_getElem? (i := 524) (by decide +kernel)⟩
theorem lw_p10 : lw_okq (⟨"ScoreParts$View", "firstPlayedFrom", "(I)I"⟩, 10) := ⟨⟨by decide +kernel, by decide +kernel⟩, List.mem_of_getElem? (i := 170) (by decide +kernel), List.mem_of_getElem? (i := 527) (by decide +kernel), List.mem_of_getElem? (i := 528) (by decide +kernel)⟩
theorem lw_p11 : lw_okq (⟨"ScoreParts$View", "findReasons", "()V"⟩, 10) := ⟨⟨by decide +kernel, by decide +kernel⟩, List.mem_of_getElem? (i := 170) (by decide +kernel), List.mem_of_getElem? (i := 531) (by decide +kernel), List.mem_of_getElem? (i := 532) (by decide +kernel)⟩
theorem lw_p12 : lw_okq (⟨"ScoreParts$View", "reasonBetween", "(II)I"⟩, 10) := ⟨⟨by decide +kernel, by decide +kernel⟩, List.mem_of_getElem? (i := 170) (by decide +kernel), List.mem_of_getElem? (i := 535) (by decide +kernel), List.mem_of_getElem? (i := 536) (by decide +kernel)⟩
theorem lw_p13 : lw_okq (⟨"ScoreParts$View", "sortById", "()V"⟩, 10) := ⟨⟨by decide +kernel, by decide +kernel⟩, List.mem_of_getElem? (i := 170) (by decide +kernel), List.mem_of_getElem? (i := 539) (by decide +kernel), List.mem_of_getElem? (i := 540) (by decide +kernel)⟩
theorem lw_p14 : lw_okq (⟨"ScoreParts$TextReader", "nextToken", "()V"⟩, 12) := ⟨⟨by decide +kernel, by decide +kernel⟩, List.mem_of_getElem? (i := 37) (by decide +kernel), List.mem_of_getElem? (i := 661) (by decide +kernel), List.mem_of_getElem? (i := 662) (by decide +kernel)⟩
theorem lw_p15 : lw_okq (⟨"ScoreParts$TextReader", "takeWord", "()V"⟩, 12) := ⟨⟨by decide +kernel, by decide +kernel⟩, List.mem_of_getElem? (i := 37) (by decide +kernel), List.mem_of_getElem? (i := 671) (by decide +kernel), List.mem_of_getElem? (i := 672) (by decide +kernel)⟩
def lw_privs_1 : List (MethodName × Nat) := [(⟨"java/lang/Throwable", "fillInStackTrace", "(I)Ljava/lang/Throwable;"⟩, 6), (⟨"ScoreParts", "requirePlace", "(I)I"⟩, 7), (⟨"ScoreParts", "requirePart", "(I)V"⟩, 7), (⟨"ScoreParts", "requirePrint", "(I)LScoreParts$Noted;"⟩, 7), (⟨"ScoreParts$Score", "moveBars", "(II)V"⟩, 13), (⟨"ScoreParts$View", "findLabels", "()V"⟩, 10), (⟨"ScoreParts$View", "countCovers", "()V"⟩, 10), (⟨"ScoreParts$View", "listPlayed", "()V"⟩, 10), (⟨"ScoreParts$View", "seatMarks", "()V"⟩, 10), (⟨"ScoreParts$View", "showLetters", "()V"⟩, 10), (⟨"ScoreParts$View", "firstPlayedFrom", "(I)I"⟩, 10), (⟨"ScoreParts$View", "findReasons", "()V"⟩, 10), (⟨"ScoreParts$View", "reasonBetween", "(II)I"⟩, 10), (⟨"ScoreParts$View", "sortById", "()V"⟩, 10), (⟨"ScoreParts$TextReader", "nextToken", "()V"⟩, 12), (⟨"ScoreParts$TextReader", "takeWord", "()V"⟩, 12)]
theorem lw_r1 : ∀ q ∈ lw_privs_1, lw_okq q := List.forall_mem_cons.mpr ⟨lw_p0, List.forall_mem_cons.mpr ⟨lw_p1, List.forall_mem_cons.mpr ⟨lw_p2, List.forall_mem_cons.mpr ⟨lw_p3, List.forall_mem_cons.mpr ⟨lw_p4, List.forall_mem_cons.mpr ⟨lw_p5, List.forall_mem_cons.mpr ⟨lw_p6, List.forall_mem_cons.mpr ⟨lw_p7, List.forall_mem_cons.mpr ⟨lw_p8, List.forall_mem_cons.mpr ⟨lw_p9, List.forall_mem_cons.mpr ⟨lw_p10, List.forall_mem_cons.mpr ⟨lw_p11, List.forall_mem_cons.mpr ⟨lw_p12, List.forall_mem_cons.mpr ⟨lw_p13, List.forall_mem_cons.mpr ⟨lw_p14, List.forall_mem_cons.mpr ⟨lw_p15, fun _ h => absurd h List.not_mem_nil⟩⟩⟩⟩⟩⟩⟩⟩⟩⟩⟩⟩⟩⟩⟩⟩
theorem lw_p16 : lw_okq (⟨"ScoreParts$TextReader", "takeNumber", "()V"⟩, 12) := ⟨⟨by decide +kernel, by decide +kernel⟩, List.mem_of_getElem? (i := 37) (by decide +kernel), List.mem_of_getElem? (i := 678) (by decide +kernel), List.mem_of_getElem? (i := 679) (by decide +kernel)⟩
theorem lw_p17 : lw_okq (⟨"ScoreParts$TextReader", "readStatement", "()Z"⟩, 12) := ⟨⟨by decide +kernel, by decide +kernel⟩, List.mem_of_getElem? (i := 37) (by decide +kernel), List.mem_of_getElem? (i := 682) (by decide +kernel), List.mem_of_getElem? (i := 683) (by decide +kernel)⟩
theorem lw_p18 : lw_okq (⟨"ScoreParts$TextReader", "isWord", "(Ljava/lang/String;)Z"⟩, 12) := ⟨⟨by decide +kernel, by decide +kernel⟩, List.mem_of_getElem? (i := 37) (by decide +kernel), List.mem_of_getElem? (i := 687) (by decide +kernel), List.mem_of_getElem? (i := 688) (by decide +kernel)⟩
theorem lw_p19 : lw_okq (⟨"ScoreParts$TextReader", "readBars", "()Z"⟩, 12) := ⟨⟨by decide +kernel, by decide +kernel⟩, List.mem_of_getElem? (i := 37) (by decide +kernel), List.mem_of_getElem? (i := 693) (by decide +kernel), List.mem_of_getElem? (i := 694) (by decide +kernel)⟩
theorem lw_p20 : lw_okq (⟨"ScoreParts$TextReader", "isNumberUpTo", "(I)Z"⟩, 12) := ⟨⟨by decide +kernel, by decide +kernel⟩, List.mem_of_getElem? (i := 37) (by decide +kernel), List.mem_of_getElem? (i := 697) (by decide +kernel), List.mem_of_getElem? (i := 698) (by decide +kernel)⟩
theorem lw_p21 : lw_okq (⟨"ScoreParts$TextReader", "fail", "(I)Z"⟩, 12) := ⟨⟨by decide +kernel, by decide +kernel⟩, List.mem_of_getElem? (i := 37) (by decide +kernel), List.mem_of_getElem? (i := 701) (by decide +kernel), List.mem_of_getElem? (i := 702) (by decide +kernel)⟩
theorem lw_p22 : lw_okq (⟨"ScoreParts$TextReader", "readMark", "()Z"⟩, 12) := ⟨⟨by decide +kernel, by decide +kernel⟩, List.mem_of_getElem? (i := 37) (by decide +kernel), List.mem_of_getElem? (i := 714) (by decide +kernel), List.mem_of_getElem? (i := 715) (by decide +kernel)⟩
theorem lw_p23 : lw_okq (⟨"ScoreParts$TextReader", "readFlag", "([I)Z"⟩, 12) := ⟨⟨by decide +kernel, by decide +kernel⟩, List.mem_of_getElem? (i := 37) (by decide +kernel), List.mem_of_getElem? (i := 724) (by decide +kernel), List.mem_of_getElem? (i := 725) (by decide +kernel)⟩
theorem lw_p24 : lw_okq (⟨"ScoreParts$TextReader", "readCut", "()Z"⟩, 12) := ⟨⟨by decide +kernel, by decide +kernel⟩, List.mem_of_getElem? (i := 37) (by decide +kernel), List.mem_of_getElem? (i := 730) (by decide +kernel), List.mem_of_getElem? (i := 731) (by decide +kernel)⟩
theorem lw_p25 : lw_okq (⟨"ScoreParts$TextReader", "readPart", "()Z"⟩, 12) := ⟨⟨by decide +kernel, by decide +kernel⟩, List.mem_of_getElem? (i := 37) (by decide +kernel), List.mem_of_getElem? (i := 739) (by decide +kernel), List.mem_of_getElem? (i := 740) (by decide +kernel)⟩
theorem lw_p26 : lw_okq (⟨"ScoreParts$TextReader", "nameInToken", "()I"⟩, 12) := ⟨⟨by decide +kernel, by decide +kernel⟩, List.mem_of_getElem? (i := 37) (by decide +kernel), List.mem_of_getElem? (i := 743) (by decide +kernel), List.mem_of_getElem? (i := 744) (by decide +kernel)⟩
theorem lw_p27 : lw_okq (⟨"ScoreParts$TextReader", "readGroup", "(I)Z"⟩, 12) := ⟨⟨by decide +kernel, by decide +kernel⟩, List.mem_of_getElem? (i := 37) (by decide +kernel), List.mem_of_getElem? (i := 747) (by decide +kernel), List.mem_of_getElem? (i := 748) (by decide +kernel)⟩
theorem lw_p28 : lw_okq (⟨"ScoreParts$TextReader", "contentInToken", "()I"⟩, 12) := ⟨⟨by decide +kernel, by decide +kernel⟩, List.mem_of_getElem? (i := 37) (by decide +kernel), List.mem_of_getElem? (i := 751) (by decide +kernel), List.mem_of_getElem? (i := 752) (by decide +kernel)⟩
theorem lw_p29 : lw_okq (⟨"ScoreParts$TextReader", "readSemicolon", "()Z"⟩, 12) := ⟨⟨by decide +kernel, by decide +kernel⟩, List.mem_of_getElem? (i := 37) (by decide +kernel), List.mem_of_getElem? (i := 759) (by decide +kernel), List.mem_of_getElem? (i := 760) (by decide +kernel)⟩
theorem lw_p30 : lw_okq (⟨"ScoreParts", "requireCut", "(I)V"⟩, 7) := ⟨⟨by decide +kernel, by decide +kernel⟩, List.mem_of_getElem? (i := 29) (by decide +kernel), List.mem_of_getElem? (i := 1074) (by decide +kernel), List.mem_of_getElem? (i := 1075) (by decide +kernel)⟩
theorem lw_p31 : lw_okq (⟨"ScoreParts", "requireMark", "(I)V"⟩, 7) := ⟨⟨by decide +kernel, by decide +kernel⟩, List.mem_of_getElem? (i := 29) (by decide +kernel), List.mem_of_getElem? (i := 1095) (by decide +kernel), List.mem_of_getElem? (i := 1096) (by decide +kernel)⟩
def lw_privs_2 : List (MethodName × Nat) := [(⟨"ScoreParts$TextReader", "takeNumber", "()V"⟩, 12), (⟨"ScoreParts$TextReader", "readStatement", "()Z"⟩, 12), (⟨"ScoreParts$TextReader", "isWord", "(Ljava/lang/String;)Z"⟩, 12), (⟨"ScoreParts$TextReader", "readBars", "()Z"⟩, 12), (⟨"ScoreParts$TextReader", "isNumberUpTo", "(I)Z"⟩, 12), (⟨"ScoreParts$TextReader", "fail", "(I)Z"⟩, 12), (⟨"ScoreParts$TextReader", "readMark", "()Z"⟩, 12), (⟨"ScoreParts$TextReader", "readFlag", "([I)Z"⟩, 12), (⟨"ScoreParts$TextReader", "readCut", "()Z"⟩, 12), (⟨"ScoreParts$TextReader", "readPart", "()Z"⟩, 12), (⟨"ScoreParts$TextReader", "nameInToken", "()I"⟩, 12), (⟨"ScoreParts$TextReader", "readGroup", "(I)Z"⟩, 12), (⟨"ScoreParts$TextReader", "contentInToken", "()I"⟩, 12), (⟨"ScoreParts$TextReader", "readSemicolon", "()Z"⟩, 12), (⟨"ScoreParts", "requireCut", "(I)V"⟩, 7), (⟨"ScoreParts", "requireMark", "(I)V"⟩, 7)]
theorem lw_r2 : ∀ q ∈ lw_privs_2, lw_okq q := List.forall_mem_cons.mpr ⟨lw_p16, List.forall_mem_cons.mpr ⟨lw_p17, List.forall_mem_cons.mpr ⟨lw_p18, List.forall_mem_cons.mpr ⟨lw_p19, List.forall_mem_cons.mpr ⟨lw_p20, List.forall_mem_cons.mpr ⟨lw_p21, List.forall_mem_cons.mpr ⟨lw_p22, List.forall_mem_cons.mpr ⟨lw_p23, List.forall_mem_cons.mpr ⟨lw_p24, List.forall_mem_cons.mpr ⟨lw_p25, List.forall_mem_cons.mpr ⟨lw_p26, List.forall_mem_cons.mpr ⟨lw_p27, List.forall_mem_cons.mpr ⟨lw_p28, List.forall_mem_cons.mpr ⟨lw_p29, List.forall_mem_cons.mpr ⟨lw_p30, List.forall_mem_cons.mpr ⟨lw_p31, fun _ h => absurd h List.not_mem_nil⟩⟩⟩⟩⟩⟩⟩⟩⟩⟩⟩⟩⟩⟩⟩⟩
theorem lw_p32 : lw_okq (⟨"ScoreParts", "requirePlayedIndex", "(I)I"⟩, 7) := ⟨⟨by decide +kernel, by decide +kernel⟩, List.mem_of_getElem? (i := 29) (by decide +kernel), List.mem_of_getElem? (i := 1187) (by decide +kernel), List.mem_of_getElem? (i := 1188) (by decide +kernel)⟩
def lw_privs_3 : List (MethodName × Nat) := [(⟨"ScoreParts", "requirePlayedIndex", "(I)I"⟩, 7)]
theorem lw_r3 : ∀ q ∈ lw_privs_3, lw_okq q := List.forall_mem_cons.mpr ⟨lw_p32, fun _ h => absurd h List.not_mem_nil⟩
def lw_privs : List (MethodName × Nat) := lw_privs_1 ++ (lw_privs_2 ++ (lw_privs_3))
def lw_tbl : List Cond := k2_sels lw_privs ++ tables_1
theorem lw_privs_ok : ∀ q ∈ lw_privs, lw_okq q := by
  show ∀ q ∈ lw_privs_1 ++ (lw_privs_2 ++ (lw_privs_3)), lw_okq q
  exact List.forall_mem_append.mpr ⟨lw_r1, List.forall_mem_append.mpr ⟨lw_r2, lw_r3⟩⟩
-- ===== end of PART A; then your names; then what follows =====
end
section
/-! ===== BEGIN words of one list among another's, by their places ===== -/
theorem goodIn_r {big : List Cond} (ws : List Cond) (ps : List Nat) (hp : ws = ps.filterMap (fun i => big[i]?)) (h : ws.all goodWord = true) : GoodIn big ws := by
  intro w hw
  have h1 := List.all_eq_true.mp h w hw
  rw [hp] at hw
  obtain ⟨i, -, hi⟩ := List.mem_filterMap.mp hw
  have hm : w ∈ big := by first | exact List.mem_of_getElem? hi | exact List.getElem?_mem hi
  exact ⟨hm, good_of_word h1⟩
theorem goodIn_app {big a b : List Cond} (ha : GoodIn big a) (hb : GoodIn big b) : GoodIn big (a ++ b) := fun w h => (List.mem_append.mp h).elim (ha w) (hb w)
theorem goodIn_ca {big a b : List Cond} {c : Cond} (ha : GoodIn big (c :: a)) (hb : GoodIn big b) : GoodIn big (c :: (a ++ b)) := fun w h => (List.mem_cons.mp h).elim (fun e => ha w (List.mem_cons.mpr (Or.inl e))) (fun h => (List.mem_append.mp h).elim (fun h => ha w (List.mem_cons.mpr (Or.inr h))) (hb w))
theorem goodIn_sub {big ws : List Cond} (hm : ∀ w ∈ ws, w ∈ big) (h : ws.all goodWord = true) : GoodIn big ws := fun w hw => ⟨hm w hw, good_of_word (List.all_eq_true.mp h w hw)⟩
/-! ===== END ===== -/

/-! ===== BEGIN exceptions that leave a method, and their catching by the caller (launches without stack traces) ===== -/
section VXA
/-! The laws vx_back, vx_callV, vx_callS, vx_callSW, vx_throw0, vx_throwS follow proofs of the library, with one case more: JvmDerived/Free/Laws.lean (Back.of_free), Shelf42/LK1.lean (callV, callS), Shelf/KitTraced.lean (throwNew0V, throwNewS). -/
/-- where a method has thrown q: the class by its name, the cell, what was written, the world -/
def vx_T (XC : String → State → State → Prop) (st : State) (q : Addr) (t : State) (mc ms : Nat) (free : Addr → Prop) : Prop :=
  ∃ (E : String) (ce : Cell) (L : List Loc), XC E st t ∧ t.heap[q]? = some ce ∧ ce.vm = .none ∧ st.vm.findClass E = some ce.cls ∧ st.WarmedH t.vm ∧ st.sameButNew ({ t with vm := st.vm } : State) L mc ms ∧ ∀ z ∈ L, free z.base
def vx_Q (Qc : Array Value → State → Outcome → State → Prop) (XC : String → State → State → Prop) (mc ms : Nat) (free : Addr → Prop) : Array Value → State → Outcome → State → Prop := fun a st o t =>
  (Qc a st o t ∧ ∃ L, FrameEnd st o t L mc ms ∧ ∀ q ∈ L, free q.base) ∨ ∃ q, o = .threw q ∧ vx_T XC st q t mc ms free
/-- a callee that returns or throws -/
def vx_Met (l : Launch) (y : MethodName) (ws : List Cond) (rm : Room) (Pc : Array Value → State → Prop) (Qc : Array Value → State → Outcome → State → Prop) (XC : String → State → State → Prop) (mc ms : Nat) (free : Addr → Prop) : Prop :=
  MetFree l y (headSpec ws rm) Pc (fun _ _ _ _ _ => True) (vx_Q Qc XC mc ms free)
def vx_Post (XC : String → State → State → Prop) (mc ms : Nat) (free : Addr → Prop) : Pt → Array Value → Addr → Pt → Prop := fun A a q B =>
  ∃ (g : JFrame) (mk : MethodId) (t : State) (L : List Loc) (E : String) (ce : Cell), B.U.heap = t.heap ∧ B.U.vm = t.vm ∧ XC E (A.U.calling g mk a) t ∧ t.heap[q]? = some ce ∧ ce.vm = .none ∧ A.U.vm.findClass E = some ce.cls ∧ B.locs = A.locs ++ L ∧ (∀ z ∈ L, free z.base) ∧ B.cells = A.cells + mc ∧ B.slots = A.slots + ms
def vx_Back (l : Launch) (R : Room) (p : Program) (e : Env) (below : List Frame) (s : State) (sargs : Array Value) (y : MethodName) (len W9 : Nat)
    (Pre : Pt → Array Value → Prop) (Post : Pt → Array Value → Option Value → Pt → Prop) (PostX : Pt → Array Value → Addr → Pt → Prop) : Prop :=
  ∀ (m : MethodId) (meth : Method) (c : Code) (A : Pt) (g : JFrame) (ig : Instr) (mk : MethodId) (a : Array Value),
    Stand p l e R s m sargs below meth c A.U A.locs A.cells A.slots → g.method = m → g.locals.size = c.maxLocals → decode c.code g.pc = .ok (ig, len) →
    2 * g.monitorRoom + (g.stack.map fun v => v.category).sum ≤ W9 → A.U.methodNamed? y = some mk → Pre A a →
    (∃ (v : Option Value) (B : Pt), Stand p l e R s m sargs below meth c B.U B.locs B.cells B.slots ∧ Post A a v B ∧
      Steps p.tables e below (doInvoke e (A.U.setTop g) [] mk a).1 (B.U.setTop { g with pc := g.pc + len, stack := v.toList ++ g.stack })) ∨
    (∃ (q : Addr) (B : Pt), Stand p l e R s m sargs below meth c B.U B.locs B.cells B.slots ∧ PostX A a q B ∧
      Steps p.tables e below (doInvoke e (A.U.setTop g) [] mk a).1 ((B.U.setTop g).pushFrame (.throwing q)))
section Payer
variable {l : Launch} {R : Room} {p : Program} {e : Env} {below : List Frame} {s : State} {sargs : Array Value} {y : MethodName} {len W9 : Nat}
theorem vx_back {ws : List Cond} {rm : Room} {Pc : Array Value → State → Prop} {Qc : Array Value → State → Outcome → State → Prop} {XC : String → State → State → Prop} {mc ms : Nat} {free : Addr → Prop} {bytes : ByteArray} {maxL : Nat} {ret : Option FieldType}
    (hM : vx_Met l y ws rm Pc Qc XC mc ms free) (hblind : FrameBlind Pc) (hrc : rm.cells = mc) (hrs : rm.slots = ms)
    (hframes : rm.frames + 1 ≤ R.frames) (hlocals : W9 + (maxL + 11) + rm.locals ≤ R.locals)
    (hws : ∀ w ∈ ws, ∀ a' U, s.WarmedH U.vm → w.before a' U = true) (hcode : Cond.code y bytes maxL ret ∈ ws) (hinit : ∀ a' U, s.WarmedH U.vm → (Cond.initialized y.cls).before a' U = true) :
    vx_Back l R p e below s sargs y len W9 (PreOf R mc ms Pc) (PostOf Qc mc ms free) (vx_Post XC mc ms free) := by
  intro m meth c A g ig mk a X hg hsize hdg hW hn hp
  have h1 : (headSpec ws rm).pre.before a A.U = true := atoms_intro fun w hw => hws w hw _ _ X.warmed
  have h2 : (Cond.code y bytes maxL ret).before a A.U = true := hws _ hcode _ _ X.warmed
  have h3 : (Cond.initialized y.cls).before a A.U = true := hinit _ _ X.warmed
  have h4 : A.cells + (headSpec ws rm).room.cells ≤ R.cells := by rw [show (headSpec ws rm).room.cells = mc from hrc]; exact hp.1
  have h5 : A.slots + (headSpec ws rm).room.slots ≤ R.slots := by rw [show (headSpec ws rm).room.slots = ms from hrs]; exact hp.2.1
  have hPc : Pc a (A.U.calling g mk a) := hblind _ _ _ _ hp.2.2
  obtain ⟨U, Ls, c0, s0⟩ := A
  dsimp only [Pt.U, Pt.locs, Pt.cells, Pt.slots] at h1 h2 h3 h4 h5 X hn hPc ⊢
  obtain ⟨methY, cY, hmY, hcY, -, hlY, -, -, -, -⟩ := Cond.code_spec hn h2
  obtain ⟨kY, hkY, -⟩ := className_of_methodNamed hn
  have hinitY : kY.init = .initialized := Cond.initialized_spec (findClass_of_methodNamed hn) hkY h3
  have h : At U g.method c below := by rw [hg]; exact X.here
  have hlocals9 : W9 + (maxL + 11) + (headSpec ws rm).room.locals ≤ R.locals := hlocals
  have happ : (headSpec ws rm).appliesLoose y e.platform (U.calling g mk a) = true :=
    Spec.appliesLoose_calling (g := g) h hdg hn hkY hinitY
      (X.room_calling (g := g) (R' := (headSpec ws rm).room) hsize hmY hcY hframes (by rw [hlY]; omega) h4 h5) h1
  obtain ⟨mid, hmid⟩ := h.above
  have hfr : (U.setTop g).frames = (.java g :: mid) ++ below := by rw [State.frames_setTop' g h.top, hmid]; rfl
  obtain ⟨o, s₂, hsteps, -, hend, hq⟩ := Steps.callFree hM p X.admits X.cas X.clock (acts := []) hfr happ hPc trivial
  have hq' : vx_Q Qc XC mc ms free a (U.calling g mk a) o s₂ := hq
  rw [State.frames_setTop' g h.top] at hend
  obtain ⟨g₀, hg0⟩ := Option.isSome_iff_exists.mp h.top
  obtain ⟨r, hr⟩ := State.topJava?_eq_some.mp hg0
  have hr' : (({ U with heap := s₂.heap, slotsUsed := s₂.slotsUsed } : State).setVm s₂.vm).frames = .java g₀ :: r := hr
  rcases hq' with ⟨hqc, L, hfe, hL⟩ | ⟨q, rfl, E, ce, L, hx, hce, hcv, hcl, hW₂, hsm, hL⟩
  · obtain ⟨⟨v, rfl⟩, hW₂, e2, q2, q3, q4, q5, q6⟩ := id hfe
    have e3 : s₂ = ({ (U.calling g mk a).setFrames s₂.frames with heap := s₂.heap, slotsUsed := s₂.slotsUsed } : State).setVm s₂.vm := by
      have : s₂ = ({ s₂ with vm := (U.calling g mk a).vm } : State).setVm s₂.vm := rfl
      rw [e2] at this
      exact this
    obtain ⟨c₂, i₂, len₂, hc₂, hd₂, hf₂⟩ := hend
    have hW' : U.WarmedH s₂.vm := hW₂
    have hcc : c₂ = c := by
      have h1 : s₂.code? g.method = U.code? g.method := by
        rw [State.code?_eq, State.code?_eq, hW'.alike.method?]
      exact Option.some.inj (hc₂.symm.trans (h1.trans h.code))
    subst hcc
    have hlen : len₂ = len := by rw [hdg] at hd₂; cases hd₂; rfl
    subst hlen
    have hs₂ : s₂ = (({ U with heap := s₂.heap, slotsUsed := s₂.slotsUsed } : State).setVm s₂.vm).setTop { g with pc := g.pc + len₂, stack := v.toList ++ g.stack } := by
      refine e3.trans ?_
      rw [hf₂, State.calling_eq h.top, State.setFrames_setFrames, State.setTop_of_frames _ hr', hr]
      rfl
    have hsame : U.sameButNew ({ U with heap := s₂.heap, slotsUsed := s₂.slotsUsed } : State) L mc ms := by
      refine ⟨?_, q2, q3, q4, q5, q6⟩
      obtain ⟨t, ht, -⟩ := State.frames_cons hr
      show ({ U with heap := s₂.heap, slotsUsed := s₂.slotsUsed } : State) = { U.setFrames U.frames with heap := s₂.heap, slotsUsed := s₂.slotsUsed }
      rw [State.setFrames_self ht]
    subst hg
    refine Or.inl ⟨v, ⟨(({ U with heap := s₂.heap, slotsUsed := s₂.slotsUsed } : State).setVm s₂.vm), Ls ++ L, c0 + mc, s0 + ms⟩,
      ⟨X.admits, X.cas, X.clock, X.frames, X.room, X.hears, X.method, X.code, (X.here.setHeapUsed s₂.heap s₂.slotsUsed).setVm hW'.alike, X.tail, State.WarmedH.trans X.warmed hW', X.limits, X.bytes, X.same.trans (hsame.setVm s.vm)⟩,
      ⟨g, mk, s₂, L, rfl, rfl, hqc, rfl, hL, rfl, rfl⟩, ?_⟩
    show Steps p.tables e below _ ((({ U with heap := s₂.heap, slotsUsed := s₂.slotsUsed } : State).setVm s₂.vm).setTop { g with pc := g.pc + len₂, stack := v.toList ++ g.stack })
    rw [← hs₂]
    exact hsteps
  · obtain ⟨e2, q2, q3, q4, q5, q6⟩ := id hsm
    have e3 : s₂ = ({ (U.calling g mk a).setFrames s₂.frames with heap := s₂.heap, slotsUsed := s₂.slotsUsed } : State).setVm s₂.vm := by
      have : s₂ = ({ s₂ with vm := (U.calling g mk a).vm } : State).setVm s₂.vm := rfl
      rw [e2] at this
      exact this
    have hf₂ : s₂.frames = .throwing q :: .java g :: U.frames.tail := hend
    have hW' : U.WarmedH s₂.vm := hW₂
    have hs₂ : s₂ = ((({ U with heap := s₂.heap, slotsUsed := s₂.slotsUsed } : State).setVm s₂.vm).setTop g).pushFrame (.throwing q) := by
      refine e3.trans ?_
      rw [hf₂, State.calling_eq h.top, State.setFrames_setFrames, State.pushFrame, State.frames_setTop _ hr', State.setTop_of_frames _ hr', State.setFrames_setFrames, hr]
      rfl
    have hsame : U.sameButNew ({ U with heap := s₂.heap, slotsUsed := s₂.slotsUsed } : State) L mc ms := by
      refine ⟨?_, q2, q3, q4, q5, q6⟩
      obtain ⟨t, ht, -⟩ := State.frames_cons hr
      show ({ U with heap := s₂.heap, slotsUsed := s₂.slotsUsed } : State) = { U.setFrames U.frames with heap := s₂.heap, slotsUsed := s₂.slotsUsed }
      rw [State.setFrames_self ht]
    subst hg
    refine Or.inr ⟨q, ⟨(({ U with heap := s₂.heap, slotsUsed := s₂.slotsUsed } : State).setVm s₂.vm), Ls ++ L, c0 + mc, s0 + ms⟩,
      ⟨X.admits, X.cas, X.clock, X.frames, X.room, X.hears, X.method, X.code, (X.here.setHeapUsed s₂.heap s₂.slotsUsed).setVm hW'.alike, X.tail, State.WarmedH.trans X.warmed hW', X.limits, X.bytes, X.same.trans (hsame.setVm s.vm)⟩,
      ⟨g, mk, s₂, L, E, ce, rfl, rfl, hx, hce, hcv, hcl, rfl, hL, rfl, rfl⟩, ?_⟩
    show Steps p.tables e below _ (((({ U with heap := s₂.heap, slotsUsed := s₂.slotsUsed } : State).setVm s₂.vm).setTop g).pushFrame (.throwing q))
    rw [← hs₂]
    exact hsteps
end Payer
section Calls
variable {p : Program} {l : Launch} {e : Env} {R : Room} {s : State} {m : MethodId} {args : Array Value} {below : List Frame} {meth : Method} {c : Code} {T : State} {locs : List Loc} {cells slots : Nat}
theorem vx_callV (X : Stand p l e R s m args below meth c T locs cells slots) (hexec : p.tables.exec = Jvm.exec) {own C : String} {index : Nat} {y : MethodName} {bytes : ByteArray} {maxL : Nat} {ret : Option FieldType}
    (hown : s.vm.findClass own = some m.cls) (hlink : (Cond.methodLink own index y).before args s = true) (hinst : (Cond.instanceMethod y).before args s = true) (hsel : (Cond.selects C y y).before args s = true)
    (hcode : (Cond.code y bytes maxL ret).before args s = true) (hy : y.cls ≠ "java/lang/invoke/MethodHandle" ∧ y.cls ≠ "java/lang/invoke/VarHandle")
    {W9 : Nat} {Pre : Pt → Array Value → Prop} {Post : Pt → Array Value → Option Value → Pt → Prop} {PostX : Pt → Array Value → Addr → Pt → Prop} (hK : vx_Back l R p e below s args y 3 W9 Pre Post PostX)
    {b : Addr} {cellB : Cell} (hcell : T.heap[b]? = some cellB) (hobj : cellB.vm.isStatics = false) (hcls : s.vm.findClass C = some cellB.cls)
    {g : JFrame} (hg : g.method = m) (hsize : g.locals.size = c.maxLocals) {argsL rest : List Value} (hlen : ∀ sig, parseMethodDescriptor y.desc = some sig → argsL.length = sig.parameters.length)
    (hstack : g.stack = argsL.reverse ++ .ref b :: rest) (hW : 2 * g.monitorRoom + (rest.map fun v => v.category).sum ≤ W9) (hdg : decode c.code g.pc = .ok (.invokevirtual index, 3))
    (hpre : ∀ vm₁, s.WarmedH vm₁ → Pre ⟨T.setVm vm₁, locs, cells, slots⟩ (Value.ref b :: argsL).toArray) :
    (∃ (v : Option Value) (vm₁ : Vm) (B : Pt), s.WarmedH vm₁ ∧ Stand p l e R s m args below meth c B.U B.locs B.cells B.slots ∧ Post ⟨T.setVm vm₁, locs, cells, slots⟩ (Value.ref b :: argsL).toArray v B ∧
      ∀ target, Steps p.tables e below (B.U.setTop { g with pc := g.pc + 3, stack := v.toList ++ rest }) target → Steps p.tables e below (T.setTop g) target) ∨
    (∃ (q : Addr) (vm₁ : Vm) (B : Pt), s.WarmedH vm₁ ∧ Stand p l e R s m args below meth c B.U B.locs B.cells B.slots ∧ PostX ⟨T.setVm vm₁, locs, cells, slots⟩ (Value.ref b :: argsL).toArray q B ∧
      Steps p.tables e below (T.setTop g) ((B.U.setTop { g with stack := rest }).pushFrame (.throwing q))) := by
  obtain ⟨mk, methM, hnamed, hmethM, hstM, habM⟩ := Cond.instanceMethod_spec hinst
  obtain ⟨methM', cM, hmethM', -, -, -, -, -, -, hsigM⟩ := Cond.code_spec hnamed hcode
  cases hmethM.symm.trans hmethM'
  obtain ⟨c2, r2, m2, q1, q2, q3, q4, kP, hkP, hkPi⟩ := Cond.selects_spec hsel
  cases hcls.symm.trans q1
  cases (State.methodFound?_of_named hnamed hy).symm.trans q2
  cases hnamed.symm.trans q3
  have hselP : selectMethod e.platform s.vm cellB.cls mk = .method mk := by rw [Launch.admits_selectMethod X.admits]; exact q4
  obtain ⟨vm₁, X₁, hstep₁⟩ := X.invokevirtual hexec hown hlink hnamed hmethM hstM hkP hkPi hy (a := b) (cell := cellB) hcell
    (fun z h => by rw [h] at hobj; cases hobj) hselP hmethM habM hkP hkPi (g := g) hg (argsL := argsL) (rest := rest) (hlen _ hsigM) hstack hdg
  rcases hK m meth c ⟨T.setVm vm₁, locs, cells, slots⟩ { g with stack := rest } (.invokevirtual index) mk (Value.ref b :: argsL).toArray X₁ hg hsize hdg hW (X₁.named hnamed) (hpre vm₁ X₁.warmed) with ⟨v, B, X', hpost, hsteps⟩ | ⟨q, B, X', hpost, hsteps⟩
  · exact Or.inl ⟨v, vm₁, B, X₁.warmed, X', hpost, fun target h => hstep₁ _ fun acts => by rw [doInvoke_state]; exact hsteps.trans h⟩
  · exact Or.inr ⟨q, vm₁, B, X₁.warmed, X', hpost, hstep₁ _ fun acts => by rw [doInvoke_state]; exact hsteps⟩
theorem vx_callS (X : Stand p l e R s m args below meth c T locs cells slots) (hexec : p.tables.exec = Jvm.exec) {own : String} {index : Nat} {y : MethodName} {bytes : ByteArray} {maxL : Nat} {ret : Option FieldType}
    (hown : s.vm.findClass own = some m.cls) (hlink : (Cond.methodLink own index y).before args s = true) (hstat : (Cond.static y).before args s = true) (hinit : (Cond.initialized y.cls).before args s = true)
    (hcode : (Cond.code y bytes maxL ret).before args s = true) (hy : y.cls ≠ "java/lang/invoke/MethodHandle" ∧ y.cls ≠ "java/lang/invoke/VarHandle")
    {W9 : Nat} {Pre : Pt → Array Value → Prop} {Post : Pt → Array Value → Option Value → Pt → Prop} {PostX : Pt → Array Value → Addr → Pt → Prop} (hK : vx_Back l R p e below s args y 3 W9 Pre Post PostX)
    {g : JFrame} (hg : g.method = m) (hsize : g.locals.size = c.maxLocals) {argsL rest : List Value} (hlen : ∀ sig, parseMethodDescriptor y.desc = some sig → argsL.length = sig.parameters.length)
    (hstack : g.stack = argsL.reverse ++ rest) (hW : 2 * g.monitorRoom + (rest.map fun v => v.category).sum ≤ W9) (hdg : decode c.code g.pc = .ok (.invokestatic index, 3))
    (hpre : ∀ vm₁, s.WarmedH vm₁ → Pre ⟨T.setVm vm₁, locs, cells, slots⟩ argsL.toArray) :
    (∃ (v : Option Value) (vm₁ : Vm) (B : Pt), s.WarmedH vm₁ ∧ Stand p l e R s m args below meth c B.U B.locs B.cells B.slots ∧ Post ⟨T.setVm vm₁, locs, cells, slots⟩ argsL.toArray v B ∧
      ∀ target, Steps p.tables e below (B.U.setTop { g with pc := g.pc + 3, stack := v.toList ++ rest }) target → Steps p.tables e below (T.setTop g) target) ∨
    (∃ (q : Addr) (vm₁ : Vm) (B : Pt), s.WarmedH vm₁ ∧ Stand p l e R s m args below meth c B.U B.locs B.cells B.slots ∧ PostX ⟨T.setVm vm₁, locs, cells, slots⟩ argsL.toArray q B ∧
      Steps p.tables e below (T.setTop g) ((B.U.setTop { g with stack := rest }).pushFrame (.throwing q))) := by
  obtain ⟨mk, hnamed⟩ := Cond.code_named hcode
  obtain ⟨methM, cM, hmethM, -, -, -, -, -, -, hsigM⟩ := Cond.code_spec hnamed hcode
  have hstatic : methM.isStatic = true := Cond.static_spec hnamed hmethM hstat
  obtain ⟨kP, hkP, -⟩ := className_of_methodNamed hnamed
  have hinitP : kP.init = .initialized := Cond.initialized_spec (findClass_of_methodNamed hnamed) hkP hinit
  obtain ⟨vm₁, X₁, hstep₁⟩ := X.invokestatic hexec hown hlink hnamed hmethM hstatic hkP hinitP hy (g := g) hg (argsL := argsL) (rest := rest) (hlen _ hsigM) hstack hdg
  rcases hK m meth c ⟨T.setVm vm₁, locs, cells, slots⟩ { g with stack := rest } (.invokestatic index) mk argsL.toArray X₁ hg hsize hdg hW (X₁.named hnamed) (hpre vm₁ X₁.warmed) with ⟨v, B, X', hpost, hsteps⟩ | ⟨q, B, X', hpost, hsteps⟩
  · exact Or.inl ⟨v, vm₁, B, X₁.warmed, X', hpost, fun target h => hstep₁ _ fun acts => by rw [doInvoke_state]; exact hsteps.trans h⟩
  · exact Or.inr ⟨q, vm₁, B, X₁.warmed, X', hpost, hstep₁ _ fun acts => by rw [doInvoke_state]; exact hsteps⟩
end Calls
theorem vx_cls {s : State} {T : State} {vm₁ : Vm} {E : String} {k : ClassId} (hW : s.WarmedH vm₁) (h : (T.setVm vm₁).vm.findClass E = some k) : s.vm.findClass E = some k := by
  have h1 : vm₁.findClass E = some k := h
  rw [hW.alike.findClass] at h1
  exact h1
/-- the method's frame g, with q thrown over it -/
def vx_W (p : Program) (l : Launch) (e : Env) (R : Room) (s : State) (m : MethodId) (args : Array Value) (below : List Frame) (meth : Method) (c : Code) (H : Heap) (locs : List Loc) (cells slots : Nat) (Q : State → Prop) (g : JFrame) (q : Addr) : Prop :=
  ∀ T : State, T.heap = H → Stand p l e R s m args below meth c T locs cells slots → ∃ t, Steps p.tables e below ((T.setTop g).pushFrame (.throwing q)) t ∧ Q t
def vx_Run (p : Program) (l : Launch) (e : Env) (R : Room) (s : State) (m : MethodId) (args : Array Value) (below : List Frame) (meth : Method) (c : Code) (H : Heap) (locs : List Loc) (cells slots mc ms : Nat) (g : JFrame) (rest : List Value) (Qa : State → Outcome → State → Prop) (XC : String → State → State → Prop) (free : Addr → Prop) : Prop :=
  ∀ T : State, T.heap = H → Stand p l e R s m args below meth c T locs cells slots →
    (∃ (v : Option Value) (st₀ t T' : State) (L : List Loc), st₀.heap = H ∧ Stand p l e R s m args below meth c T' (locs ++ L) (cells + mc) (slots + ms) ∧ (∀ q ∈ L, free q.base) ∧ T'.heap = t.heap ∧ T'.vm = t.vm ∧ Qa st₀ (.returned v) t ∧
      Goes p e below T g T' { g with pc := g.pc + 3, stack := v.toList ++ rest }) ∨
    (∃ (q : Addr) (st₀ t T' : State) (L : List Loc) (E : String) (ce : Cell), st₀.heap = H ∧ Stand p l e R s m args below meth c T' (locs ++ L) (cells + mc) (slots + ms) ∧ (∀ z ∈ L, free z.base) ∧ T'.heap = t.heap ∧ T'.vm = t.vm ∧ XC E st₀ t ∧ t.heap[q]? = some ce ∧ ce.vm = .none ∧ s.vm.findClass E = some ce.cls ∧
      Steps p.tables e below (T.setTop g) ((T'.setTop { g with stack := rest }).pushFrame (.throwing q)))
def vx_X {S : Type} (px : S → Prop) (B : String → S → State → Prop) (A : Nat → Prop) : String → State → State → Prop := fun E st t => ∃ u : S, px u ∧ B E u t ∧ va_F A st t
section Runs
variable {p : Program} {l : Launch} {e : Env} {R : Room} {s : State} {m : MethodId} {args : Array Value} {below : List Frame} {meth : Method} {c : Code} {H : Heap} {locs : List Loc} {cells slots : Nat}
variable {y : MethodName} {bytes cc : ByteArray} {maxL nL mc ms n index : Nat} {ret : Option FieldType} {ws : List Cond} {rm : Room} {Pc : Array Value → State → Prop} {Qc : Array Value → State → Outcome → State → Prop} {XC : String → State → State → Prop} {free : Addr → Prop} {Ts : List Cond} {own C : String} {b : Addr} {As rest : List Value} {g : JFrame}
theorem vx_callBack (cb : CallB R s args own index y bytes maxL ret ws rm mc ms n) (hM : vx_Met l y ws rm Pc Qc XC mc ms free) (hbl : FrameBlind Pc) : vx_Back l R p e below s args y 3 8 (PreOf R mc ms Pc) (PostOf Qc mc ms free) (vx_Post XC mc ms free) := by
  obtain ⟨hrc, hrs, hfr, hlo, hws, hcw, -, hini, -⟩ := cb
  exact vx_back (bytes := bytes) (maxL := maxL) (ret := ret) hM hbl hrc hrs hfr hlo hws hcw (fun a' U hW => word_at hW (Or.inl (by first | rfl | simp [Cond.onTables, Cond.keeps, Cond.steady])) hini)
theorem vx_runV (S : CallFix p m c cc nL s args Ts own) (hM : vx_Met l y ws rm Pc Qc XC mc ms free) (cw : CallW R s args own C index y bytes maxL ret ws rm mc ms n) (hp : PreV s H C b Pc As)
    (hg : g.method = m) (hn : As.length = n) (hsize : g.locals.size = nL) (hstack : g.stack = As.reverse ++ .ref b :: rest) (hW : 2 * g.monitorRoom + (rest.map fun v => v.category).sum ≤ 8) (hdg : decode cc g.pc = .ok (.invokevirtual index, 3)) (hf : cells + mc ≤ R.cells ∧ slots + ms ≤ R.slots) :
    vx_Run p l e R s m args below meth c H locs cells slots mc ms g rest (Qc (Value.ref b :: As).toArray) XC free := by
  have hK : vx_Back l R p e below s args y 3 8 (PreOf R mc ms Pc) (PostOf Qc mc ms free) (vx_Post XC mc ms free) := vx_callBack cw.1 hM hp.1
  obtain ⟨⟨-, -, -, -, -, -, hcode, -, hy, hlen, hl⟩, hin, hse⟩ := cw
  obtain ⟨hx, hb, hml, ho, -⟩ := S
  obtain ⟨-, ⟨cellB, hcB, hoB, hclB⟩, hPc⟩ := hp
  intro T hT X
  rcases vx_callV X hx (C := C) (bytes := bytes) (maxL := maxL) (ret := ret) ho hl hin hse hcode hy hK (by rw [hT]; exact hcB) hoB hclB hg (hsize.trans hml.symm) (argsL := As) (rest := rest) (fun sig h => hn.trans (hlen sig h)) hstack hW (by rw [hb]; exact hdg)
    (fun vm₁ hW₁ => ⟨hf.1, hf.2, hPc (T.setVm vm₁) hT hW₁⟩) with ⟨v, vm₁, ⟨U', l2, c2, s2⟩, hW₁, X', ⟨g', mk, t, L, e1, e2, hq, h1, hL, h2, h3⟩, st⟩ | ⟨q, vm₁, ⟨U', l2, c2, s2⟩, hW₁, X', ⟨g', mk, t, L, E, ce, e1, e2, hq, hce, hcv, hcl, h1, hL, h2, h3⟩, st⟩
  · dsimp only [Pt.U, Pt.locs, Pt.cells, Pt.slots] at X' e1 e2 h1 h2 h3 st
    subst h1; subst h2; subst h3
    exact Or.inl ⟨v, (T.setVm vm₁).calling g' mk (Value.ref b :: As).toArray, t, U', L, hT, X', hL, e1, e2, hq, st⟩
  · dsimp only [Pt.U, Pt.locs, Pt.cells, Pt.slots] at X' e1 e2 h1 h2 h3 st hcl
    subst h1; subst h2; subst h3
    exact Or.inr ⟨q, (T.setVm vm₁).calling g' mk (Value.ref b :: As).toArray, t, U', L, E, ce, hT, X', hL, e1, e2, hq, hce, hcv, vx_cls hW₁ hcl, st⟩
theorem vx_runS (S : CallFix p m c cc nL s args Ts own) (hM : vx_Met l y ws rm Pc Qc XC mc ms free) (cw : CallB R s args own index y bytes maxL ret ws rm mc ms n ∧ (Cond.static y).before args s = true) (hp : PreS s H Pc As)
    (hg : g.method = m) (hn : As.length = n) (hsize : g.locals.size = nL) (hstack : g.stack = As.reverse ++ rest) (hW : 2 * g.monitorRoom + (rest.map fun v => v.category).sum ≤ 8) (hdg : decode cc g.pc = .ok (.invokestatic index, 3)) (hf : cells + mc ≤ R.cells ∧ slots + ms ≤ R.slots) :
    vx_Run p l e R s m args below meth c H locs cells slots mc ms g rest (Qc As.toArray) XC free := by
  have hK : vx_Back l R p e below s args y 3 8 (PreOf R mc ms Pc) (PostOf Qc mc ms free) (vx_Post XC mc ms free) := vx_callBack cw.1 hM hp.1
  obtain ⟨⟨-, -, -, -, -, -, hcode, hini, hy, hlen, hl⟩, hstt⟩ := cw
  obtain ⟨hx, hb, hml, ho, -⟩ := S
  intro T hT X
  rcases vx_callS X hx (bytes := bytes) (maxL := maxL) (ret := ret) ho hl hstt hini hcode hy hK hg (hsize.trans hml.symm) (argsL := As) (rest := rest) (fun sig h => hn.trans (hlen sig h)) hstack hW (by rw [hb]; exact hdg)
    (fun vm₁ hW₁ => ⟨hf.1, hf.2, hp.2 (T.setVm vm₁) hT hW₁⟩) with ⟨v, vm₁, ⟨U', l2, c2, s2⟩, hW₁, X', ⟨g', mk, t, L, e1, e2, hq, h1, hL, h2, h3⟩, st⟩ | ⟨q, vm₁, ⟨U', l2, c2, s2⟩, hW₁, X', ⟨g', mk, t, L, E, ce, e1, e2, hq, hce, hcv, hcl, h1, hL, h2, h3⟩, st⟩
  · dsimp only [Pt.U, Pt.locs, Pt.cells, Pt.slots] at X' e1 e2 h1 h2 h3 st
    subst h1; subst h2; subst h3
    exact Or.inl ⟨v, (T.setVm vm₁).calling g' mk As.toArray, t, U', L, hT, X', hL, e1, e2, hq, st⟩
  · dsimp only [Pt.U, Pt.locs, Pt.cells, Pt.slots] at X' e1 e2 h1 h2 h3 st hcl
    subst h1; subst h2; subst h3
    exact Or.inr ⟨q, (T.setVm vm₁).calling g' mk As.toArray, t, U', L, E, ce, hT, X', hL, e1, e2, hq, hce, hcv, vx_cls hW₁ hcl, st⟩
end Runs
section Rows
variable {p : Program} {l : Launch} {e : Env} {R : Room} {s : State} {m : MethodId} {args : Array Value} {below : List Frame} {meth : Method} {c : Code} {H : Heap} {locs : List Loc} {cells slots : Nat} {Q : State → Prop}
variable {mc ms : Nat} {free : Addr → Prop} {A0 A1 : Nat → Prop} {H0 : Heap} {a : Array Value} {pc : Nat} {ls : Array Slot} {st0 rest : List Value}
theorem vx_keep {st₀ t T' : State} {L : List Loc} (h0 : st₀.heap = H) (e1 : T'.heap = t.heap) (hS : va_S A0 H0 H locs) (hA : ∀ q, q < H.size → A1 q → A0 q) (hf : ∀ q, free q → A0 q) (hL : ∀ q ∈ L, free q.base) (hF : va_F A1 st₀ t) :
    H.size ≤ T'.heap.size ∧ (∀ q : Nat, q < H.size → ¬ A1 q → T'.heap[q]? = H[q]?) ∧ va_S A0 H0 T'.heap (locs ++ L) := by
  obtain ⟨hz, hk⟩ := hF
  rw [h0] at hz hk
  exact ⟨by rw [e1]; exact hz, fun q h1 h2 => by rw [e1]; exact hk q h1 h2,
    ⟨Nat.le_trans hS.1 (by rw [e1]; exact hz), fun q h1 h2 => by rw [e1, hk q (Nat.lt_of_lt_of_le h1 hS.1) (fun z => h2 (hA q (Nat.lt_of_lt_of_le h1 hS.1) z))]; exact hS.2.1 q h1 h2, fun q hq => by
      rcases List.mem_append.mp hq with h | h
      · exact hS.2.2 q h
      · exact hf _ (hL q h)⟩⟩
theorem vx_calli {S SX : Type} {post : Int32 → S → Prop} {px : SX → Prop} {B : S → State → Prop} {BX : String → SX → State → Prop} {AX : Nat → Prop} (hr : vx_Run p l e R s m args below meth c H locs cells slots mc ms (F0 m pc ls st0) rest (va_Qi post B A1 a) (vx_X px BX AX) free) (hS : va_S A0 H0 H locs) (hA : ∀ q, q < H.size → A1 q → A0 q) (hf : ∀ q, free q → A0 q) (hAX : ∀ q, q < H.size → AX q → A0 q)
    (kx : ∀ (E : String) (ce : Cell) (q9 : Addr) (u : SX) (t : State) (H1 : Heap) (locs1 : List Loc), t.heap = H1 → s.vm.Alike t.vm → px u → BX E u t → H.size ≤ H1.size → (∀ q : Nat, q < H.size → ¬ AX q → H1[q]? = H[q]?) → va_S A0 H0 H1 locs1 → H1[q9]? = some ce → ce.vm = .none → s.vm.findClass E = some ce.cls → vx_W p l e R s m args below meth c H1 locs1 (cells + mc) (slots + ms) Q (F0 m pc ls rest) q9)
    (kk : ∀ (r : Int32) (u : S) (t : State) (H1 : Heap) (locs1 : List Loc), t.heap = H1 → s.vm.Alike t.vm → post r u → B u t → H.size ≤ H1.size → (∀ q : Nat, q < H.size → ¬ A1 q → H1[q]? = H[q]?) → va_S A0 H0 H1 locs1 → W p l e R s m args below meth c H1 locs1 (cells + mc) (slots + ms) Q (F0 m (pc + 3) ls (.int r :: rest))) : W p l e R s m args below meth c H locs cells slots Q (F0 m pc ls st0) := by
  intro T hT X
  rcases hr T hT X with ⟨v, st₀, t, T', L, h0, X', hL, e1, e2, ⟨⟨r, u, hv, hp, hb⟩, hF⟩, st⟩ | ⟨q, st₀, t, T', L, E, ce, h0, X', hL, e1, e2, ⟨u, hp, hb, hF⟩, hce, hcv, hcl, st⟩
  · cases hv
    obtain ⟨k1, k2, k3⟩ := vx_keep h0 e1 hS hA hf hL hF
    obtain ⟨t2, a1, b1⟩ := kk r u t T'.heap (locs ++ L) e1.symm (by rw [← e2]; exact X'.warmed.alike) hp hb k1 k2 k3 T' rfl X'
    exact ⟨t2, st t2 a1, b1⟩
  · obtain ⟨k1, k2, k3⟩ := vx_keep h0 e1 hS hAX hf hL hF
    obtain ⟨t2, a1, b1⟩ := kx E ce q u t T'.heap (locs ++ L) e1.symm (by rw [← e2]; exact X'.warmed.alike) hp hb k1 k2 k3 (by rw [e1]; exact hce) hcv hcl T' rfl X'
    exact ⟨t2, st.trans a1, b1⟩
theorem vx_calll {S SX : Type} {post : Int64 → S → Prop} {px : SX → Prop} {B : S → State → Prop} {BX : String → SX → State → Prop} {AX : Nat → Prop} (hr : vx_Run p l e R s m args below meth c H locs cells slots mc ms (F0 m pc ls st0) rest (va_Ql post B A1 a) (vx_X px BX AX) free) (hS : va_S A0 H0 H locs) (hA : ∀ q, q < H.size → A1 q → A0 q) (hf : ∀ q, free q → A0 q) (hAX : ∀ q, q < H.size → AX q → A0 q)
    (kx : ∀ (E : String) (ce : Cell) (q9 : Addr) (u : SX) (t : State) (H1 : Heap) (locs1 : List Loc), t.heap = H1 → s.vm.Alike t.vm → px u → BX E u t → H.size ≤ H1.size → (∀ q : Nat, q < H.size → ¬ AX q → H1[q]? = H[q]?) → va_S A0 H0 H1 locs1 → H1[q9]? = some ce → ce.vm = .none → s.vm.findClass E = some ce.cls → vx_W p l e R s m args below meth c H1 locs1 (cells + mc) (slots + ms) Q (F0 m pc ls rest) q9)
    (kk : ∀ (r : Int64) (u : S) (t : State) (H1 : Heap) (locs1 : List Loc), t.heap = H1 → s.vm.Alike t.vm → post r u → B u t → H.size ≤ H1.size → (∀ q : Nat, q < H.size → ¬ A1 q → H1[q]? = H[q]?) → va_S A0 H0 H1 locs1 → W p l e R s m args below meth c H1 locs1 (cells + mc) (slots + ms) Q (F0 m (pc + 3) ls (.long r :: rest))) : W p l e R s m args below meth c H locs cells slots Q (F0 m pc ls st0) := by
  intro T hT X
  rcases hr T hT X with ⟨v, st₀, t, T', L, h0, X', hL, e1, e2, ⟨⟨r, u, hv, hp, hb⟩, hF⟩, st⟩ | ⟨q, st₀, t, T', L, E, ce, h0, X', hL, e1, e2, ⟨u, hp, hb, hF⟩, hce, hcv, hcl, st⟩
  · cases hv
    obtain ⟨k1, k2, k3⟩ := vx_keep h0 e1 hS hA hf hL hF
    obtain ⟨t2, a1, b1⟩ := kk r u t T'.heap (locs ++ L) e1.symm (by rw [← e2]; exact X'.warmed.alike) hp hb k1 k2 k3 T' rfl X'
    exact ⟨t2, st t2 a1, b1⟩
  · obtain ⟨k1, k2, k3⟩ := vx_keep h0 e1 hS hAX hf hL hF
    obtain ⟨t2, a1, b1⟩ := kx E ce q u t T'.heap (locs ++ L) e1.symm (by rw [← e2]; exact X'.warmed.alike) hp hb k1 k2 k3 (by rw [e1]; exact hce) hcv hcl T' rfl X'
    exact ⟨t2, st.trans a1, b1⟩
theorem vx_callf {S SX : Type} {post : UInt32 → S → Prop} {px : SX → Prop} {B : S → State → Prop} {BX : String → SX → State → Prop} {AX : Nat → Prop} (hr : vx_Run p l e R s m args below meth c H locs cells slots mc ms (F0 m pc ls st0) rest (va_Qf post B A1 a) (vx_X px BX AX) free) (hS : va_S A0 H0 H locs) (hA : ∀ q, q < H.size → A1 q → A0 q) (hf : ∀ q, free q → A0 q) (hAX : ∀ q, q < H.size → AX q → A0 q)
    (kx : ∀ (E : String) (ce : Cell) (q9 : Addr) (u : SX) (t : State) (H1 : Heap) (locs1 : List Loc), t.heap = H1 → s.vm.Alike t.vm → px u → BX E u t → H.size ≤ H1.size → (∀ q : Nat, q < H.size → ¬ AX q → H1[q]? = H[q]?) → va_S A0 H0 H1 locs1 → H1[q9]? = some ce → ce.vm = .none → s.vm.findClass E = some ce.cls → vx_W p l e R s m args below meth c H1 locs1 (cells + mc) (slots + ms) Q (F0 m pc ls rest) q9)
    (kk : ∀ (r : UInt32) (u : S) (t : State) (H1 : Heap) (locs1 : List Loc), t.heap = H1 → s.vm.Alike t.vm → post r u → B u t → H.size ≤ H1.size → (∀ q : Nat, q < H.size → ¬ A1 q → H1[q]? = H[q]?) → va_S A0 H0 H1 locs1 → W p l e R s m args below meth c H1 locs1 (cells + mc) (slots + ms) Q (F0 m (pc + 3) ls (.float r :: rest))) : W p l e R s m args below meth c H locs cells slots Q (F0 m pc ls st0) := by
  intro T hT X
  rcases hr T hT X with ⟨v, st₀, t, T', L, h0, X', hL, e1, e2, ⟨⟨r, u, hv, hp, hb⟩, hF⟩, st⟩ | ⟨q, st₀, t, T', L, E, ce, h0, X', hL, e1, e2, ⟨u, hp, hb, hF⟩, hce, hcv, hcl, st⟩
  · cases hv
    obtain ⟨k1, k2, k3⟩ := vx_keep h0 e1 hS hA hf hL hF
    obtain ⟨t2, a1, b1⟩ := kk r u t T'.heap (locs ++ L) e1.symm (by rw [← e2]; exact X'.warmed.alike) hp hb k1 k2 k3 T' rfl X'
    exact ⟨t2, st t2 a1, b1⟩
  · obtain ⟨k1, k2, k3⟩ := vx_keep h0 e1 hS hAX hf hL hF
    obtain ⟨t2, a1, b1⟩ := kx E ce q u t T'.heap (locs ++ L) e1.symm (by rw [← e2]; exact X'.warmed.alike) hp hb k1 k2 k3 (by rw [e1]; exact hce) hcv hcl T' rfl X'
    exact ⟨t2, st.trans a1, b1⟩
theorem vx_calld {S SX : Type} {post : UInt64 → S → Prop} {px : SX → Prop} {B : S → State → Prop} {BX : String → SX → State → Prop} {AX : Nat → Prop} (hr : vx_Run p l e R s m args below meth c H locs cells slots mc ms (F0 m pc ls st0) rest (va_Qd post B A1 a) (vx_X px BX AX) free) (hS : va_S A0 H0 H locs) (hA : ∀ q, q < H.size → A1 q → A0 q) (hf : ∀ q, free q → A0 q) (hAX : ∀ q, q < H.size → AX q → A0 q)
    (kx : ∀ (E : String) (ce : Cell) (q9 : Addr) (u : SX) (t : State) (H1 : Heap) (locs1 : List Loc), t.heap = H1 → s.vm.Alike t.vm → px u → BX E u t → H.size ≤ H1.size → (∀ q : Nat, q < H.size → ¬ AX q → H1[q]? = H[q]?) → va_S A0 H0 H1 locs1 → H1[q9]? = some ce → ce.vm = .none → s.vm.findClass E = some ce.cls → vx_W p l e R s m args below meth c H1 locs1 (cells + mc) (slots + ms) Q (F0 m pc ls rest) q9)
    (kk : ∀ (r : UInt64) (u : S) (t : State) (H1 : Heap) (locs1 : List Loc), t.heap = H1 → s.vm.Alike t.vm → post r u → B u t → H.size ≤ H1.size → (∀ q : Nat, q < H.size → ¬ A1 q → H1[q]? = H[q]?) → va_S A0 H0 H1 locs1 → W p l e R s m args below meth c H1 locs1 (cells + mc) (slots + ms) Q (F0 m (pc + 3) ls (.double r :: rest))) : W p l e R s m args below meth c H locs cells slots Q (F0 m pc ls st0) := by
  intro T hT X
  rcases hr T hT X with ⟨v, st₀, t, T', L, h0, X', hL, e1, e2, ⟨⟨r, u, hv, hp, hb⟩, hF⟩, st⟩ | ⟨q, st₀, t, T', L, E, ce, h0, X', hL, e1, e2, ⟨u, hp, hb, hF⟩, hce, hcv, hcl, st⟩
  · cases hv
    obtain ⟨k1, k2, k3⟩ := vx_keep h0 e1 hS hA hf hL hF
    obtain ⟨t2, a1, b1⟩ := kk r u t T'.heap (locs ++ L) e1.symm (by rw [← e2]; exact X'.warmed.alike) hp hb k1 k2 k3 T' rfl X'
    exact ⟨t2, st t2 a1, b1⟩
  · obtain ⟨k1, k2, k3⟩ := vx_keep h0 e1 hS hAX hf hL hF
    obtain ⟨t2, a1, b1⟩ := kx E ce q u t T'.heap (locs ++ L) e1.symm (by rw [← e2]; exact X'.warmed.alike) hp hb k1 k2 k3 (by rw [e1]; exact hce) hcv hcl T' rfl X'
    exact ⟨t2, st.trans a1, b1⟩
theorem vx_callv {S SX : Type} {post : S → Prop} {px : SX → Prop} {B : S → State → Prop} {BX : String → SX → State → Prop} {AX : Nat → Prop} (hr : vx_Run p l e R s m args below meth c H locs cells slots mc ms (F0 m pc ls st0) rest (va_Qv post B A1 a) (vx_X px BX AX) free) (hS : va_S A0 H0 H locs) (hA : ∀ q, q < H.size → A1 q → A0 q) (hf : ∀ q, free q → A0 q) (hAX : ∀ q, q < H.size → AX q → A0 q)
    (kx : ∀ (E : String) (ce : Cell) (q9 : Addr) (u : SX) (t : State) (H1 : Heap) (locs1 : List Loc), t.heap = H1 → s.vm.Alike t.vm → px u → BX E u t → H.size ≤ H1.size → (∀ q : Nat, q < H.size → ¬ AX q → H1[q]? = H[q]?) → va_S A0 H0 H1 locs1 → H1[q9]? = some ce → ce.vm = .none → s.vm.findClass E = some ce.cls → vx_W p l e R s m args below meth c H1 locs1 (cells + mc) (slots + ms) Q (F0 m pc ls rest) q9)
    (kk : ∀ (u : S) (t : State) (H1 : Heap) (locs1 : List Loc), t.heap = H1 → s.vm.Alike t.vm → post u → B u t → H.size ≤ H1.size → (∀ q : Nat, q < H.size → ¬ A1 q → H1[q]? = H[q]?) → va_S A0 H0 H1 locs1 → W p l e R s m args below meth c H1 locs1 (cells + mc) (slots + ms) Q (F0 m (pc + 3) ls (rest))) : W p l e R s m args below meth c H locs cells slots Q (F0 m pc ls st0) := by
  intro T hT X
  rcases hr T hT X with ⟨v, st₀, t, T', L, h0, X', hL, e1, e2, ⟨⟨u, hv, hp, hb⟩, hF⟩, st⟩ | ⟨q, st₀, t, T', L, E, ce, h0, X', hL, e1, e2, ⟨u, hp, hb, hF⟩, hce, hcv, hcl, st⟩
  · cases hv
    obtain ⟨k1, k2, k3⟩ := vx_keep h0 e1 hS hA hf hL hF
    obtain ⟨t2, a1, b1⟩ := kk u t T'.heap (locs ++ L) e1.symm (by rw [← e2]; exact X'.warmed.alike) hp hb k1 k2 k3 T' rfl X'
    exact ⟨t2, st t2 a1, b1⟩
  · obtain ⟨k1, k2, k3⟩ := vx_keep h0 e1 hS hAX hf hL hF
    obtain ⟨t2, a1, b1⟩ := kx E ce q u t T'.heap (locs ++ L) e1.symm (by rw [← e2]; exact X'.warmed.alike) hp hb k1 k2 k3 (by rw [e1]; exact hce) hcv hcl T' rfl X'
    exact ⟨t2, st.trans a1, b1⟩
/-- caught by the row x of this method's table; the rows ahead don't take it -/
theorem vx_catch {own name : String} {E : String} {ce : Cell} {q : Addr} (hown : s.vm.findClass own = some m.cls) (pre : List ExceptionTableEntry) (x : ExceptionTableEntry) (suf : List ExceptionTableEntry) (hsplit : c.exceptionTable.toList = pre ++ x :: suf)
    (hpass : ∀ z ∈ pre, covers z pc = false ∨ (z.catchType ≠ 0 ∧ ∃ nm : String, (Cond.classLink own z.catchType nm).before args s = true ∧ va_Nc E nm s)) (hx : covers x pc = true) (h0 : x.catchType ≠ 0)
    (hlink : (Cond.classLink own x.catchType name).before args s = true) (hcast : (Cond.castable E name).before args s = true) (hcell : H[q]? = some ce) (hv : ce.vm = .none) (hcl : s.vm.findClass E = some ce.cls)
    (kk : W p l e R s m args below meth c H locs cells slots Q (F0 m x.handlerPc ls [.ref q])) : vx_W p l e R s m args below meth c H locs cells slots Q (F0 m pc ls rest) q := by
  intro T hT X
  have hpl : e.platform.magicAccessors = ({} : Platform).magicAccessors := by rw [X.admits.platform]
  obtain ⟨c3, c4, hc3, hc4, hasg⟩ := Cond.castable_spec hcast
  cases Option.some.inj (hc3.symm.trans hcl)
  obtain ⟨c5, hc5, hcl5⟩ := Cond.classLink_spec hown hlink e.platform hpl
  cases Option.some.inj (hc4.symm.trans hc5)
  obtain ⟨vm', X', st⟩ := X.thenCaughtThrough q (g := F0 m pc ls rest) rfl (Steps.refl _) (by rw [hT]; exact hcell) (by rw [hv]; rfl) (by obtain ⟨k9, h9, -⟩ := Vm.findClass_spec hcl; exact ⟨k9, h9⟩) pre x suf hsplit
    (fun z hz => by
      rcases hpass z hz with h | ⟨hz0, nm, hl1, hn1⟩
      · exact Or.inl h
      · obtain ⟨c6, hc6, hcl6⟩ := Cond.classLink_spec hown hl1 e.platform hpl
        obtain ⟨a8, b8, h1, h2, h3⟩ := hn1
        cases Option.some.inj (h1.symm.trans hcl)
        cases Option.some.inj (h2.symm.trans hc6)
        exact Or.inr ⟨hz0, _, hcl6, h3⟩) hx (Or.inr ⟨h0, c4, hcl5, hasg⟩)
  obtain ⟨t, a1, b1⟩ := kk (T.setVm vm') hT X'
  exact ⟨t, st.trans a1, b1⟩
end Rows
section Ends
variable {p : Program} {l : Launch} {e : Env} {R : Room} {s : State} {m : MethodId} {args : Array Value} {below : List Frame} {meth : Method} {c : Code} {H : Heap} {locs : List Loc} {cells slots : Nat} {Q : State → Prop}
variable {mc ms : Nat} {free : Addr → Prop} {A0 A1 : Nat → Prop} {H0 : Heap} {a : Array Value} {ls : Array Slot} {st0 rest : List Value}
variable {Qc : Array Value → State → Outcome → State → Prop} {XC : String → State → State → Prop}
/-- what a body that may throw owes at its end -/
def vx_MQ (below : List Frame) (Qc : Array Value → State → Outcome → State → Prop) (XC : String → State → State → Prop) (a : Array Value) (s : State) (mc ms : Nat) (free : Addr → Prop) : State → Prop := fun t =>
  ∃ o, t.status = .running ∧ Ended t below o ∧ vx_Q Qc XC mc ms free a s o t
theorem vx_ret {g : JFrame} {mc ms : Nat} (k : W p l e R s m args below meth c H locs cells slots (MQ below Qc args s mc ms free) g) : W p l e R s m args below meth c H locs cells slots (vx_MQ below Qc XC args s mc ms free) g := by
  intro T hT X
  obtain ⟨t, a1, o, b1, b2, b3, b4⟩ := k T hT X
  exact ⟨t, a1, o, b1, b2, Or.inl ⟨b3, b4⟩⟩
/-- not caught here: it goes on to the caller -/
theorem vx_widen {g : JFrame} {q : Addr} {k n : Nat} (h1 : cells ≤ k) (h2 : slots ≤ n) (kk : vx_W p l e R s m args below meth c H locs k n Q g q) : vx_W p l e R s m args below meth c H locs cells slots Q g q := fun T hT X => kk T hT (stand_widen X h1 h2)
theorem vx_out {pc : Nat} {E : String} {ce : Cell} {q : Addr} {mc ms : Nat} (hout : ∀ x ∈ c.exceptionTable.toList, covers x pc = false) (hlocks : meth.locks = false) (hcell : H[q]? = some ce) (hv : ce.vm = .none) (hcl : s.vm.findClass E = some ce.cls)
    (hx : ∀ t : State, t.heap = H → s.vm.Alike t.vm → XC E s t) (hf : ∀ z ∈ locs, free z.base) (hc : cells ≤ mc) (hs : slots ≤ ms) :
    vx_W p l e R s m args below meth c H locs cells slots (vx_MQ below Qc XC args s mc ms free) (F0 m pc ls rest) q := by
  intro T hT X
  obtain ⟨st1, hrun, hend, hW, hsm⟩ := X.leaveThrown q (g := F0 m pc ls rest) rfl rfl rfl hout hlocks
  have hcell9 : (T.setFrames (.throwing q :: below)).heap[q]? = some ce := by
    show T.heap[q]? = some ce
    rw [hT]; exact hcell
  exact ⟨_, st1, .threw q, hrun, hend, Or.inr ⟨q, rfl, E, ce, locs, hx _ hT hW.alike, hcell9, hv, hcl, hW, hsm.mono hc hs, hf⟩⟩
theorem vx_frame {U : State} {k n : Nat} (h : s.sameButNew ({ U with vm := s.vm } : State) locs k n) : s.heap.size ≤ U.heap.size ∧ ∀ q : Nat, q < s.heap.size → (∀ z ∈ locs, z.base ≠ q) → U.heap[q]? = s.heap[q]? := by
  obtain ⟨-, h2, -, -, -, h6⟩ := h
  refine ⟨h2, fun q hq hz => ?_⟩
  obtain ⟨c9, e1, e2, e3, e4⟩ := h6 q _ (Array.getElem?_eq_getElem hq)
  have hs : c9.slots = (s.heap[q]).slots := Array.ext_getElem? fun i => e4 i fun hm => hz _ hm rfl
  have h9 : c9 = s.heap[q] := by
    rw [hs] at e2
    exact e2
  have e5 : U.heap[q]? = some c9 := e1
  rw [e5, h9, Array.getElem?_eq_getElem hq]
/-- the words of a throw but the four that speak of the heap -/
def vx_no (w : Cond) : Bool := decide (w ≠ .isRef (.static Bundle.tN "UNASSIGNED_STACK" Bundle.steD)) && decide (w ≠ .isRef (.static Bundle.tN "SUPPRESSED_SENTINEL" Bundle.listD)) && decide (w ≠ .laysStatic Bundle.tN "UNASSIGNED_STACK" Bundle.steD) && decide (w ≠ .laysStatic Bundle.tN "SUPPRESSED_SENTINEL" Bundle.listD)
def vx_at0 (own : String) (ic : Nat) (X : String) (names : List String) : List Cond := (Bundle.ownAtoms0 own ic X names).filter vx_no
def vx_atS (own : String) (ic : Nat) (X : String) (names : List String) : List Cond := (Bundle.ownAtoms own ic X names).filter vx_no
/-- a word that the tables alone decide, or a good one -/
def vx_ot (w : Cond) : Bool := w.onTables || goodWord w
theorem vx_ot_at {args a' : Array Value} {s U : State} {w : Cond} (hW : s.WarmedH U.vm) (hvm : s.vm = U.vm) (hg : vx_ot w = true) (h : w.before args s = true) : w.before a' U = true := by
  simp only [vx_ot, Bool.or_eq_true] at hg
  rcases hg with hg | hg
  · exact va_tabs hg hvm h
  · exact word_at hW (good_of_word hg) h
/-- a list's words: the good ones out of the method's own list, the others by premises of their own -/
theorem vx_hat {args : Array Value} {s : State} {L B : List Cond} (h1 : ∀ w ∈ L.filter goodWord, w.before args s = true) (h2 : ∀ w ∈ L.filter (fun w => !goodWord w), w ∈ B) (h3 : ∀ w ∈ B, w.before args s = true) : ∀ w ∈ L, w.before args s = true := by
  intro w hw
  by_cases g : goodWord w = true
  · exact h1 w (List.mem_filter.mpr ⟨hw, g⟩)
  · refine h3 w (h2 w (List.mem_filter.mpr ⟨hw, ?_⟩))
    show (!goodWord w) = true
    cases hgw : goodWord w
    · rfl
    · exact absurd hgw g
theorem vx_c {args : Array Value} {s : State} {w : Cond} {B : List Cond} (h : w.before args s = true) (t : ∀ w ∈ B, w.before args s = true) : ∀ w' ∈ w :: B, w'.before args s = true := fun w' h' => (List.mem_cons.mp h').elim (fun e => by rw [e]; exact h) (t w')
theorem vx_n {args : Array Value} {s : State} : ∀ w ∈ ([] : List Cond), w.before args s = true := fun _ h => nomatch h
theorem vx_own {args : Array Value} {s : State} {L : List Cond} (h1 : ∀ w ∈ L.filter vx_no, w.before args s = true)
    (hU : (Cond.isRef (.static Bundle.tN "UNASSIGNED_STACK" Bundle.steD)).before args s = true) (hN : (Cond.isRef (.static Bundle.tN "SUPPRESSED_SENTINEL" Bundle.listD)).before args s = true)
    (lU : (Cond.laysStatic Bundle.tN "UNASSIGNED_STACK" Bundle.steD).before args s = true) (lN : (Cond.laysStatic Bundle.tN "SUPPRESSED_SENTINEL" Bundle.listD).before args s = true) : ∀ w ∈ L, w.before args s = true := by
  intro w hw
  by_cases e1 : w = .isRef (.static Bundle.tN "UNASSIGNED_STACK" Bundle.steD)
  · rw [e1]; exact hU
  · by_cases e2 : w = .isRef (.static Bundle.tN "SUPPRESSED_SENTINEL" Bundle.listD)
    · rw [e2]; exact hN
    · by_cases e3 : w = .laysStatic Bundle.tN "UNASSIGNED_STACK" Bundle.steD
      · rw [e3]; exact lU
      · by_cases e4 : w = .laysStatic Bundle.tN "SUPPRESSED_SENTINEL" Bundle.listD
        · rw [e4]; exact lN
        · exact h1 w (List.mem_filter.mpr ⟨hw, by unfold vx_no; rw [decide_eq_true e1, decide_eq_true e2, decide_eq_true e3, decide_eq_true e4]; rfl⟩)
/-- where a static field lies, its class's statics cell in H -/
def vx_L (C n d : String) (A : Nat → Prop) (U : State) (H : Heap) : Prop := ∃ (c : ClassId) (k : Class) (i : Nat) (f : Field) (a : Nat) (cell : Cell), U.vm.findClass C = some c ∧ U.fieldFound? C n d = some (c, k, i, f) ∧ f.isStatic = true ∧ k.statics = some a ∧ H[a]? = some cell ∧ cell.vm.isStatics = true ∧ cell.cls = c ∧ f.slot < cell.slots.size ∧ k.staticTypes[f.slot]? = some f.type ∧ ¬ A a
theorem vx_L.moved {C n d : String} {A : Nat → Prop} {u U : State} {H : Heap} (hvm : u.vm.Alike U.vm) (h : vx_L C n d A u H) : vx_L C n d A U H := by
  obtain ⟨c, k, i, f, a, cell, h1, h2, h3, h4, h5, h6, h7, h8, h9, h10⟩ := h
  obtain ⟨k', hi', he⟩ := State.fieldFound?_setVm hvm h2
  exact ⟨c, k', i, f, a, cell, by rw [hvm.findClass]; exact h1, hi', h3, by rw [he]; exact h4, h5, h6, h7, h8, by rw [he]; exact h9, h10⟩
theorem vx_L.kept {C n d : String} {A : Nat → Prop} {U : State} {H H1 : Heap} (h : vx_L C n d A U H) (hq : ∀ a : Nat, a < H.size → ¬ A a → H1[a]? = H[a]?) : vx_L C n d A U H1 := by
  obtain ⟨c, k, i, f, a, cell, h1, h2, h3, h4, h5, h6, h7, h8, h9, h10⟩ := h
  exact ⟨c, k, i, f, a, cell, h1, h2, h3, h4, by rw [hq a (Array.getElem?_eq_some_iff.mp h5).1 h10]; exact h5, h6, h7, h8, h9, h10⟩
theorem vx_L.narrow {C n d : String} {A B : Nat → Prop} {U : State} {H : Heap} (h : vx_L C n d A U H) (hAB : ∀ q, B q → A q) : vx_L C n d B U H := by
  obtain ⟨c, k, i, f, a, cell, h1, h2, h3, h4, h5, h6, h7, h8, h9, h10⟩ := h
  exact ⟨c, k, i, f, a, cell, h1, h2, h3, h4, h5, h6, h7, h8, h9, fun z => h10 (hAB _ z)⟩
theorem vx_L.word {C n d : String} {A : Nat → Prop} {s : State} {args : Array Value} (h : vx_L C n d A s s.heap) : (Cond.laysStatic C n d).before args s = true := by
  obtain ⟨c, k, i, f, a, cell, h1, h2, h3, h4, h5, h6, h7, h8, h9, -⟩ := h
  show (Cond.laysStatic C n d).holds args s none s [] = true
  exact Cond.laysStatic_of h1 h2 h3 h4 h5 h6 h7 h8 h9
/-- .. and what it holds: null or some reference -/
def vx_Zq (C n d : String) (A : Nat → Prop) (U : State) (H : Heap) : Prop := va_Zq C n d A U H ∧ vx_L C n d A U H
theorem vx_Zq.moved {C n d : String} {A : Nat → Prop} {u U : State} {H : Heap} (hvm : u.vm.Alike U.vm) (h : vx_Zq C n d A u H) : vx_Zq C n d A U H := ⟨va_Zq.moved hvm h.1, vx_L.moved hvm h.2⟩
theorem vx_Zq.kept {C n d : String} {A : Nat → Prop} {U : State} {H H1 : Heap} (h : vx_Zq C n d A U H) (hq : ∀ a : Nat, a < H.size → ¬ A a → H1[a]? = H[a]?) : vx_Zq C n d A U H1 := ⟨va_Zq.kept h.1 hq, vx_L.kept h.2 hq⟩
theorem vx_Zq.narrow {C n d : String} {A B : Nat → Prop} {U : State} {H : Heap} (h : vx_Zq C n d A U H) (hAB : ∀ q, B q → A q) : vx_Zq C n d B U H := ⟨va_Zq.narrow h.1 hAB, vx_L.narrow h.2 hAB⟩
theorem vx_Zqof {args : Array Value} {s : State} {C n d : String} {A : Nat → Prop} (hl : (Cond.laysStatic C n d).before args s = true) (hini : (Cond.initialized C).before args s = true) (h : (Cond.isRef (.static C n d)).before args s = true) (hA : ∀ a : Nat, a < s.heap.size → ¬ A a) : vx_Zq C n d A s s.heap := by
  refine ⟨va_Zqof hl hini h hA, ?_⟩
  obtain ⟨c, k, i, f, a, cell, h1, h2, h3, h4, h5, h6, h7, h8, h9⟩ := Cond.laysStatic_spec hl
  exact ⟨c, k, i, f, a, cell, h1, h2, h3, h4, h5, h6, h7, h8, h9, hA a (Array.getElem?_eq_some_iff.mp h5).1⟩
theorem vx_isRef {C n d : String} {v : Value} {A : Nat → Prop} {s : State} {args : Array Value} (h : va_Z C n d v A s s.heap) (hv : v.isRef = true) : (Cond.isRef (.static C n d)).before args s = true := by
  obtain ⟨cf, kf, fi, f, a, cell, h1, h2, h3, h4, h5, h6, h7, -⟩ := h
  have he : (Term.static C n d).eval args s none [] s = some v := by
    simp [Term.eval, State.fieldNamed?, h1, h2, h4, h5, h6, h7]
  simp only [Cond.before, Cond.holds, Cond.value, he]
  cases v <;> simp_all [Value.isRef]
theorem vx_isRefq {C n d : String} {A : Nat → Prop} {s : State} {args : Array Value} (h : va_Zq C n d A s s.heap) : (Cond.isRef (.static C n d)).before args s = true := by
  rcases h with h | ⟨t, h⟩
  · exact vx_isRef h rfl
  · exact vx_isRef h rfl
/-- the same frame, seen from here: as if the method were called anew in this heap -/
theorem vx_rebase {T : State} (X : Stand p l e R s m args below meth c T locs cells slots) {R' : Room} (hf : R'.frames ≤ R.frames) (hl : R'.locals ≤ R.locals) (hc : cells + R'.cells ≤ R.cells) (hs : slots + R'.slots ≤ R.slots) :
    Stand p l e R' ((T.setVm s.vm).setFrames (.invoking m args :: below)) m args below meth c T [] 0 0 := by
  have htop : (T.setVm s.vm).topJava?.isSome := X.here.top
  have hF : ((T.setVm s.vm).setFrames (.invoking m args :: below)).frames = .invoking m args :: below := State.frames_setFrames _ (State.cur_lt_of_top htop)
  obtain ⟨g₀, hg0⟩ := Option.isSome_iff_exists.mp htop
  obtain ⟨r, hr⟩ := State.topJava?_eq_some.mp hg0
  have hl9 : e.platform.stackLimits (T.setVm s.vm).me = e.platform.stackLimits s.me := X.limits
  have hb9 : (T.setVm s.vm).me.stackBytes = s.me.stackBytes := X.bytes
  refine ⟨X.admits, X.cas, X.clock, hF, ?_, X.hears, X.method, X.code, X.here, X.tail, X.warmed, ?_, ?_, ?_⟩
  · have h := X.room
    have hU : ((T.setVm s.vm).setFrames (.invoking m args :: below)).localsInUse = s.localsInUse := by
      rw [State.localsInUse_invoking hF (meth := meth) (c := c) X.method X.code, State.localsInUse_invoking X.frames X.method X.code]
    simp only [State.hasRoom, Bool.and_eq_true, decide_eq_true_eq] at h ⊢
    obtain ⟨⟨⟨⟨h1, h2, h3, h4, h5, h6⟩, h7⟩, h8⟩, h9⟩ := h
    rw [X.frames, List.length_cons] at h2 h3
    have q1 := X.heapSize
    have q2 := X.used
    simp only [hF, hU, List.length_cons, State.stackLimits_setFrames, State.stackBytes_setFrames, hl9, hb9]
    refine ⟨⟨⟨⟨by omega, by omega, by omega, by omega, by omega, h6⟩, ?_⟩, ?_⟩, X.book⟩
    · show T.heap.size + R'.cells ≤ e.platform.maxCells
      omega
    · show T.slotsUsed + R'.slots ≤ e.platform.maxSlots
      omega
  · rw [State.stackLimits_setFrames]; rfl
  · rw [State.stackBytes_setFrames]; rfl
  · refine ⟨?_, Nat.le_refl _, Nat.le_refl _, ?_, ?_, fun a c9 h9 => ⟨c9, h9, rfl, rfl, fun _ _ => rfl⟩⟩
    · obtain ⟨t, ht, -⟩ := State.frames_cons hr
      show T.setVm s.vm = { ((T.setVm s.vm).setFrames (.invoking m args :: below)).setFrames (T.setVm s.vm).frames with heap := T.heap, slotsUsed := T.slotsUsed }
      rw [State.setFrames_setFrames, State.setFrames_self ht]
      rfl
    · show T.slotsUsed = T.slotsUsed + ((T.heap.toList.drop T.heap.size).map (·.slots.size)).sum
      rw [List.drop_eq_nil_of_le (Nat.le_of_eq Array.length_toList)]
      rfl
    · show ((T.heap.toList.drop T.heap.size).map (·.slots.size)).sum ≤ 0
      rw [List.drop_eq_nil_of_le (Nat.le_of_eq Array.length_toList)]
      exact Nat.le_refl _
/-- 'throw new E()': new; dup; invokespecial; athrow -/
theorem vx_throw0 {cc : ByteArray} {pc : Nat} (hexec : p.tables.exec = Jvm.exec) (hb : c.code = cc) (hl : l.stackTraces = false) {own cls : String} {names : List String} {ik ic mc ms : Nat} {A : Nat → Prop}
    (hown : s.vm.findClass own = some m.cls) (hcls : Bundle.fit cls = true) (hnames : ∀ n ∈ names, Bundle.fit n = true)
    (hk : (Cond.classLink own ik cls).before args s = true) (hini : (Cond.initialized cls).before args s = true) (hat : ∀ w ∈ vx_at0 own ic cls names, w.before args s = true)
    (hgood : ∀ w ∈ Cond.classLink own ik cls :: Cond.initialized cls :: vx_at0 own ic cls names, vx_ot w = true)
    (hU : vx_Zq Bundle.tN "UNASSIGNED_STACK" Bundle.steD A s s.heap) (hN : vx_Zq Bundle.tN "SUPPRESSED_SENTINEL" Bundle.listD A s s.heap) (hS : va_S A s.heap H locs) (hsize : ls.size = c.maxLocals)
    (d0 : decode cc pc = .ok (.new ik, 3)) (d3 : decode cc (pc + 3) = .ok (.dup, 1)) (d4 : decode cc (pc + 4) = .ok (.invokespecial ic, 3)) (d7 : decode cc (pc + 7) = .ok (.athrow, 1))
    (hout : ∀ x ∈ c.exceptionTable.toList, covers x (pc + 7) = false)
    (hRframes : names.length + 3 < R.frames) (hRlocals : (rest.map fun v => v.category).sum + (13 * (names.length + 1) + 42) ≤ R.locals) (hRcells : cells + 1 ≤ R.cells) (hRslots : slots + 6 ≤ R.slots) (hlocks : meth.locks = false)
    (hx : ∀ t : State, s.vm.Alike t.vm → H.size ≤ t.heap.size → (∀ q : Nat, q < H.size → t.heap[q]? = H[q]?) → XC cls s t)
    (hf : ∀ z ∈ locs, free z.base) (hc : cells + 1 ≤ mc) (hs : slots + 6 ≤ ms) :
    W p l e R s m args below meth c H locs cells slots (vx_MQ below Qc XC args s mc ms free) (F0 m pc ls rest) := by
  intro T hT X
  have htr : e.platform.stackTraces = false := (show e.platform.stackTraces = l.stackTraces by rw [X.admits.platform]).trans hl
  have Y := vx_rebase X (R' := { frames := R.frames, locals := R.locals, cells := 1, slots := 6 }) (Nat.le_refl _) (Nat.le_refl _) hRcells hRslots
  obtain ⟨s', hA⟩ : ∃ z, z = (T.setVm s.vm).setFrames (.invoking m args :: below) := ⟨_, rfl⟩
  rw [← hA] at Y
  have hvm : s'.vm = s.vm := by rw [hA]; rfl
  have hhp : s'.heap = H := by rw [hA]; exact hT
  have hW0 : s.WarmedH s'.vm := by rw [hvm]; exact State.WarmedH.refl s
  have hat' : ∀ w ∈ vx_at0 own ic cls names, w.before args s' = true := fun w hw => vx_ot_at hW0 hvm.symm (hgood w (List.mem_cons_of_mem _ (List.mem_cons_of_mem _ hw))) (hat w hw)
  have hk' : (Cond.classLink own ik cls).before args s' = true := vx_ot_at hW0 hvm.symm (hgood _ List.mem_cons_self) hk
  have hini' : (Cond.initialized cls).before args s' = true := vx_ot_at hW0 hvm.symm (hgood _ (List.mem_cons_of_mem _ List.mem_cons_self)) hini
  have hU' : vx_Zq Bundle.tN "UNASSIGNED_STACK" Bundle.steD A s' s'.heap := by rw [hhp]; exact vx_Zq.moved hW0.alike (hU.kept hS.2.1)
  have hN' : vx_Zq Bundle.tN "SUPPRESSED_SENTINEL" Bundle.listD A s' s'.heap := by rw [hhp]; exact vx_Zq.moved hW0.alike (hN.kept hS.2.1)
  have h : ∀ w ∈ Bundle.ownAtoms0 own ic cls names, w.before args s' = true := vx_own hat' (vx_isRefq hU'.1) (vx_isRefq hN'.1) hU'.2.word hN'.2.word
  have hown' : s'.vm.findClass own = some m.cls := by rw [hvm]; exact hown
  have hins : (Cond.instantiable cls 6).before args s' = true := h _ (by simp [Bundle.ownAtoms0])
  obtain ⟨vm₁, cX, kX, hfX, hkX, -, -, X₁, st1⟩ := Y.newCold hexec (own := own) (C := cls) (index := ik) (n := 6) hown' hk' hins hini'
    (g := F0 m pc ls rest) rfl (by rw [hb]; exact d0) (Nat.le_refl _) (Nat.le_refl _)
  generalize hT1 : (T.setVm vm₁).pushCell { cls := cX, slots := kX.instanceTypes.map defaultValue, vm := .none } = T1 at X₁ st1
  have hcat : (Value.ref T.heap.size).category = 1 := rfl
  have hcellA : T1.heap[T.heap.size]? = some (freshCell cX kX) := by rw [← hT1]; exact State.heap_pushCell_size _ _
  have d3' : decode c.code (pc + 3) = .ok (.dup, 1) := by rw [hb]; exact d3
  obtain ⟨U, hsteps, hrun, hend, hW, hsame, ce, hce, hO⟩ := X₁.ctorThrow0 hexec htr (own := own) (cls := cls) (names := names) (ic := ic) hown' hcls hnames h (fun x hx => nomatch hx) hfX hkX hcellA (by rw [hhp, hT]; exact Nat.le_refl _)
    (g := { method := m, pc := pc + 4, locals := ls, stack := .ref T.heap.size :: .ref T.heap.size :: rest, locked := none }) rfl hsize rfl rfl (rest := rest) rfl
    (by rw [hb]; exact d4) (by rw [hb]; exact d7) hout hRframes (by simp only [List.map_cons, List.sum_cons, hcat]; omega) hlocks
  obtain ⟨f1, f2⟩ := vx_frame hsame
  rw [hhp] at f1 f2
  have hWs : s.WarmedH U.vm := State.WarmedH.trans hW0 hW
  have hcl : s.vm.findClass cls = some ce.cls := by
    have h9 := hO.cls
    rw [hvm] at h9
    exact h9
  have hall : s.sameButNew ({ U with vm := s.vm } : State) locs mc ms := by
    subst hA
    obtain ⟨e1, e2⟩ := hsame
    rw [State.setFrames_setFrames] at e1
    have h2 : (T.setVm s.vm).sameButNew ({ U with vm := s.vm } : State) [] (0 + 1) (0 + 6) := ⟨e1, e2⟩
    have h3 := X.same.trans h2
    rw [List.append_nil] at h3
    exact h3.mono hc hs
  refine ⟨U, ?_, .threw T.heap.size, hrun, hend, Or.inr ⟨T.heap.size, rfl, cls, ce, locs, hx U hWs.alike f1 (fun q hq => f2 q hq (fun z hz => nomatch hz)), hce, hO.vm, hcl, hWs, hall, hf⟩⟩
  refine st1 _ ?_
  show Steps p.tables e below (T1.setTop { method := m, pc := pc + 3, locals := ls, stack := .ref T.heap.size :: rest, locked := none }) _
  jvm_step X₁.here [X₁.here.top, hexec, d3', Value.category]
  exact hsteps
/-- 'throw new E("text")': new; dup; ldc; invokespecial; athrow -/
theorem vx_throwS {cc : ByteArray} {pc : Nat} (hexec : p.tables.exec = Jvm.exec) (hb : c.code = cc) (hl : l.stackTraces = false) {own cls text : String} {names : List String} {ik is ic mc ms sa : Nat} {A : Nat → Prop}
    (hown : s.vm.findClass own = some m.cls) (hcls : Bundle.fit cls = true) (hnames : ∀ n ∈ names, Bundle.fit n = true)
    (hk : (Cond.classLink own ik cls).before args s = true) (hini : (Cond.initialized cls).before args s = true) (hstr : vk_R own is text sa s) (hat : ∀ w ∈ vx_atS own ic cls names, w.before args s = true)
    (hgood : ∀ w ∈ Cond.classLink own ik cls :: Cond.initialized cls :: vx_atS own ic cls names, vx_ot w = true)
    (hU : vx_Zq Bundle.tN "UNASSIGNED_STACK" Bundle.steD A s s.heap) (hN : vx_Zq Bundle.tN "SUPPRESSED_SENTINEL" Bundle.listD A s s.heap) (hS : va_S A s.heap H locs) (hsize : ls.size = c.maxLocals)
    (d0 : decode cc pc = .ok (.new ik, 3)) (d3 : decode cc (pc + 3) = .ok (.dup, 1)) (d4 : decode cc (pc + 4) = .ok (.ldc is, 2)) (d6 : decode cc (pc + 6) = .ok (.invokespecial ic, 3)) (d9 : decode cc (pc + 9) = .ok (.athrow, 1))
    (hout : ∀ x ∈ c.exceptionTable.toList, covers x (pc + 9) = false)
    (hRframes : names.length + 3 < R.frames) (hRlocals : (rest.map fun v => v.category).sum + (13 * (names.length + 1) + 43) ≤ R.locals) (hRcells : cells + 1 ≤ R.cells) (hRslots : slots + 6 ≤ R.slots) (hlocks : meth.locks = false)
    (hx : ∀ t : State, s.vm.Alike t.vm → H.size ≤ t.heap.size → (∀ q : Nat, q < H.size → t.heap[q]? = H[q]?) → XC cls s t)
    (hf : ∀ z ∈ locs, free z.base) (hc : cells + 1 ≤ mc) (hs : slots + 6 ≤ ms) :
    W p l e R s m args below meth c H locs cells slots (vx_MQ below Qc XC args s mc ms free) (F0 m pc ls rest) := by
  intro T hT X
  have htr : e.platform.stackTraces = false := (show e.platform.stackTraces = l.stackTraces by rw [X.admits.platform]).trans hl
  have Y := vx_rebase X (R' := { frames := R.frames, locals := R.locals, cells := 1, slots := 6 }) (Nat.le_refl _) (Nat.le_refl _) hRcells hRslots
  obtain ⟨s', hA⟩ : ∃ z, z = (T.setVm s.vm).setFrames (.invoking m args :: below) := ⟨_, rfl⟩
  rw [← hA] at Y
  have hvm : s'.vm = s.vm := by rw [hA]; rfl
  have hhp : s'.heap = H := by rw [hA]; exact hT
  have hW0 : s.WarmedH s'.vm := by rw [hvm]; exact State.WarmedH.refl s
  have hat' : ∀ w ∈ vx_atS own ic cls names, w.before args s' = true := fun w hw => vx_ot_at hW0 hvm.symm (hgood w (List.mem_cons_of_mem _ (List.mem_cons_of_mem _ hw))) (hat w hw)
  have hk' : (Cond.classLink own ik cls).before args s' = true := vx_ot_at hW0 hvm.symm (hgood _ List.mem_cons_self) hk
  have hini' : (Cond.initialized cls).before args s' = true := vx_ot_at hW0 hvm.symm (hgood _ (List.mem_cons_of_mem _ List.mem_cons_self)) hini
  have hU' : vx_Zq Bundle.tN "UNASSIGNED_STACK" Bundle.steD A s' s'.heap := by rw [hhp]; exact vx_Zq.moved hW0.alike (hU.kept hS.2.1)
  have hN' : vx_Zq Bundle.tN "SUPPRESSED_SENTINEL" Bundle.listD A s' s'.heap := by rw [hhp]; exact vx_Zq.moved hW0.alike (hN.kept hS.2.1)
  have h : ∀ w ∈ Bundle.ownAtoms own ic cls names, w.before args s' = true := vx_own hat' (vx_isRefq hU'.1) (vx_isRefq hN'.1) hU'.2.word hN'.2.word
  have hown' : s'.vm.findClass own = some m.cls := by rw [hvm]; exact hown
  have hins : (Cond.instantiable cls 6).before args s' = true := h _ (by simp [Bundle.ownAtoms])
  obtain ⟨vm₁, cX, kX, hfX, hkX, -, -, X₁, st1⟩ := Y.newCold hexec (own := own) (C := cls) (index := ik) (n := 6) hown' hk' hins hini'
    (g := F0 m pc ls rest) rfl (by rw [hb]; exact d0) (Nat.le_refl _) (Nat.le_refl _)
  generalize hT1 : (T.setVm vm₁).pushCell { cls := cX, slots := kX.instanceTypes.map defaultValue, vm := .none } = T1 at X₁ st1
  have hcat : (Value.ref T.heap.size).category = 1 := rfl
  have hcellA : T1.heap[T.heap.size]? = some (freshCell cX kX) := by rw [← hT1]; exact State.heap_pushCell_size _ _
  have d3' : decode c.code (pc + 3) = .ok (.dup, 1) := by rw [hb]; exact d3
  have d4' : decode c.code (pc + 4) = .ok (.ldc is, 2) := by rw [hb]; exact d4
  have hstr' : vk_R own is text sa s' := vk_R.warm hW0 hstr
  obtain ⟨U, hsteps, hrun, hend, hW, hsame, ce, hce, hO⟩ := X₁.ctorThrowS hexec htr (own := own) (cls := cls) (names := names) (ic := ic) hown' hcls hnames h (fun x hx => nomatch hx) hfX hkX hcellA (by rw [hhp, hT]; exact Nat.le_refl _) (msg := .ref sa) rfl
    (g := { method := m, pc := pc + 6, locals := ls, stack := .ref sa :: .ref T.heap.size :: .ref T.heap.size :: rest, locked := none }) rfl hsize rfl rfl (rest := rest) rfl
    (by rw [hb]; exact d6) (by rw [hb]; exact d9) hout hRframes (by simp only [List.map_cons, List.sum_cons, hcat]; omega) hlocks
  obtain ⟨f1, f2⟩ := vx_frame hsame
  rw [hhp] at f1 f2
  have hWs : s.WarmedH U.vm := State.WarmedH.trans hW0 hW
  have hcl : s.vm.findClass cls = some ce.cls := by
    have h9 := hO.cls
    rw [hvm] at h9
    exact h9
  have hall : s.sameButNew ({ U with vm := s.vm } : State) locs mc ms := by
    subst hA
    obtain ⟨e1, e2⟩ := hsame
    rw [State.setFrames_setFrames] at e1
    have h2 : (T.setVm s.vm).sameButNew ({ U with vm := s.vm } : State) [] (0 + 1) (0 + 6) := ⟨e1, e2⟩
    have h3 := X.same.trans h2
    rw [List.append_nil] at h3
    exact h3.mono hc hs
  refine ⟨U, ?_, .threw T.heap.size, hrun, hend, Or.inr ⟨T.heap.size, rfl, cls, ce, locs, hx U hWs.alike f1 (fun q hq => f2 q hq (fun z hz => nomatch hz)), hce, hO.vm, hcl, hWs, hall, hf⟩⟩
  refine st1 _ ?_
  show Steps p.tables e below (T1.setTop { method := m, pc := pc + 3, locals := ls, stack := .ref T.heap.size :: rest, locked := none }) _
  jvm_step X₁.here [X₁.here.top, hexec, d3', Value.category]
  exact X₁.ldcString hexec (own := own) (text := text) (index := is) (a := sa) hown' hstr'.1 hstr'.2
    (g := { method := m, pc := pc + 4, locals := ls, stack := .ref T.heap.size :: .ref T.heap.size :: rest, locked := none }) rfl d4' _ hsteps
/-- 'throw new E("text")', the text by a wide index -/
theorem vx_throwSW {cc : ByteArray} {pc : Nat} (hexec : p.tables.exec = Jvm.exec) (hb : c.code = cc) (hl : l.stackTraces = false) {own cls text : String} {names : List String} {ik is ic mc ms sa : Nat} {A : Nat → Prop}
    (hown : s.vm.findClass own = some m.cls) (hcls : Bundle.fit cls = true) (hnames : ∀ n ∈ names, Bundle.fit n = true)
    (hk : (Cond.classLink own ik cls).before args s = true) (hini : (Cond.initialized cls).before args s = true) (hstr : vk_R own is text sa s) (hat : ∀ w ∈ vx_atS own ic cls names, w.before args s = true)
    (hgood : ∀ w ∈ Cond.classLink own ik cls :: Cond.initialized cls :: vx_atS own ic cls names, vx_ot w = true)
    (hU : vx_Zq Bundle.tN "UNASSIGNED_STACK" Bundle.steD A s s.heap) (hN : vx_Zq Bundle.tN "SUPPRESSED_SENTINEL" Bundle.listD A s s.heap) (hS : va_S A s.heap H locs) (hsize : ls.size = c.maxLocals)
    (d0 : decode cc pc = .ok (.new ik, 3)) (d3 : decode cc (pc + 3) = .ok (.dup, 1)) (d4 : decode cc (pc + 4) = .ok (.ldc_w is, 3)) (d7 : decode cc (pc + 7) = .ok (.invokespecial ic, 3)) (d10 : decode cc (pc + 10) = .ok (.athrow, 1))
    (hout : ∀ x ∈ c.exceptionTable.toList, covers x (pc + 10) = false)
    (hRframes : names.length + 3 < R.frames) (hRlocals : (rest.map fun v => v.category).sum + (13 * (names.length + 1) + 43) ≤ R.locals) (hRcells : cells + 1 ≤ R.cells) (hRslots : slots + 6 ≤ R.slots) (hlocks : meth.locks = false)
    (hx : ∀ t : State, s.vm.Alike t.vm → H.size ≤ t.heap.size → (∀ q : Nat, q < H.size → t.heap[q]? = H[q]?) → XC cls s t)
    (hf : ∀ z ∈ locs, free z.base) (hc : cells + 1 ≤ mc) (hs : slots + 6 ≤ ms) :
    W p l e R s m args below meth c H locs cells slots (vx_MQ below Qc XC args s mc ms free) (F0 m pc ls rest) := by
  intro T hT X
  have htr : e.platform.stackTraces = false := (show e.platform.stackTraces = l.stackTraces by rw [X.admits.platform]).trans hl
  have Y := vx_rebase X (R' := { frames := R.frames, locals := R.locals, cells := 1, slots := 6 }) (Nat.le_refl _) (Nat.le_refl _) hRcells hRslots
  obtain ⟨s', hA⟩ : ∃ z, z = (T.setVm s.vm).setFrames (.invoking m args :: below) := ⟨_, rfl⟩
  rw [← hA] at Y
  have hvm : s'.vm = s.vm := by rw [hA]; rfl
  have hhp : s'.heap = H := by rw [hA]; exact hT
  have hW0 : s.WarmedH s'.vm := by rw [hvm]; exact State.WarmedH.refl s
  have hat' : ∀ w ∈ vx_atS own ic cls names, w.before args s' = true := fun w hw => vx_ot_at hW0 hvm.symm (hgood w (List.mem_cons_of_mem _ (List.mem_cons_of_mem _ hw))) (hat w hw)
  have hk' : (Cond.classLink own ik cls).before args s' = true := vx_ot_at hW0 hvm.symm (hgood _ List.mem_cons_self) hk
  have hini' : (Cond.initialized cls).before args s' = true := vx_ot_at hW0 hvm.symm (hgood _ (List.mem_cons_of_mem _ List.mem_cons_self)) hini
  have hU' : vx_Zq Bundle.tN "UNASSIGNED_STACK" Bundle.steD A s' s'.heap := by rw [hhp]; exact vx_Zq.moved hW0.alike (hU.kept hS.2.1)
  have hN' : vx_Zq Bundle.tN "SUPPRESSED_SENTINEL" Bundle.listD A s' s'.heap := by rw [hhp]; exact vx_Zq.moved hW0.alike (hN.kept hS.2.1)
  have h : ∀ w ∈ Bundle.ownAtoms own ic cls names, w.before args s' = true := vx_own hat' (vx_isRefq hU'.1) (vx_isRefq hN'.1) hU'.2.word hN'.2.word
  have hown' : s'.vm.findClass own = some m.cls := by rw [hvm]; exact hown
  have hins : (Cond.instantiable cls 6).before args s' = true := h _ (by simp [Bundle.ownAtoms])
  obtain ⟨vm₁, cX, kX, hfX, hkX, -, -, X₁, st1⟩ := Y.newCold hexec (own := own) (C := cls) (index := ik) (n := 6) hown' hk' hins hini'
    (g := F0 m pc ls rest) rfl (by rw [hb]; exact d0) (Nat.le_refl _) (Nat.le_refl _)
  generalize hT1 : (T.setVm vm₁).pushCell { cls := cX, slots := kX.instanceTypes.map defaultValue, vm := .none } = T1 at X₁ st1
  have hcat : (Value.ref T.heap.size).category = 1 := rfl
  have hcellA : T1.heap[T.heap.size]? = some (freshCell cX kX) := by rw [← hT1]; exact State.heap_pushCell_size _ _
  have d3' : decode c.code (pc + 3) = .ok (.dup, 1) := by rw [hb]; exact d3
  have d4' : decode c.code (pc + 4) = .ok (.ldc_w is, 3) := by rw [hb]; exact d4
  have hstr' : vk_R own is text sa s' := vk_R.warm hW0 hstr
  obtain ⟨U, hsteps, hrun, hend, hW, hsame, ce, hce, hO⟩ := X₁.ctorThrowS hexec htr (own := own) (cls := cls) (names := names) (ic := ic) hown' hcls hnames h (fun x hx => nomatch hx) hfX hkX hcellA (by rw [hhp, hT]; exact Nat.le_refl _) (msg := .ref sa) rfl
    (g := { method := m, pc := pc + 7, locals := ls, stack := .ref sa :: .ref T.heap.size :: .ref T.heap.size :: rest, locked := none }) rfl hsize rfl rfl (rest := rest) rfl
    (by rw [hb]; exact d7) (by rw [hb]; exact d10) hout hRframes (by simp only [List.map_cons, List.sum_cons, hcat]; omega) hlocks
  obtain ⟨f1, f2⟩ := vx_frame hsame
  rw [hhp] at f1 f2
  have hWs : s.WarmedH U.vm := State.WarmedH.trans hW0 hW
  have hcl : s.vm.findClass cls = some ce.cls := by
    have h9 := hO.cls
    rw [hvm] at h9
    exact h9
  have hall : s.sameButNew ({ U with vm := s.vm } : State) locs mc ms := by
    subst hA
    obtain ⟨e1, e2⟩ := hsame
    rw [State.setFrames_setFrames] at e1
    have h2 : (T.setVm s.vm).sameButNew ({ U with vm := s.vm } : State) [] (0 + 1) (0 + 6) := ⟨e1, e2⟩
    have h3 := X.same.trans h2
    rw [List.append_nil] at h3
    exact h3.mono hc hs
  refine ⟨U, ?_, .threw T.heap.size, hrun, hend, Or.inr ⟨T.heap.size, rfl, cls, ce, locs, hx U hWs.alike f1 (fun q hq => f2 q hq (fun z hz => nomatch hz)), hce, hO.vm, hcl, hWs, hall, hf⟩⟩
  refine st1 _ ?_
  show Steps p.tables e below (T1.setTop { method := m, pc := pc + 3, locals := ls, stack := .ref T.heap.size :: rest, locked := none }) _
  jvm_step X₁.here [X₁.here.top, hexec, d3', Value.category]
  exact X₁.ldcStringW hexec (own := own) (text := text) (index := is) (a := sa) hown' hstr'.1 hstr'.2
    (g := { method := m, pc := pc + 4, locals := ls, stack := .ref T.heap.size :: .ref T.heap.size :: rest, locked := none }) rfl d4' _ hsteps
end Ends
section Bodies
variable {l : Launch}
theorem vx_ofW {y : MethodName} {ws ws' : List Cond} {rm : Room} {Pc : Array Value → State → Prop} {Qc : Array Value → State → Outcome → State → Prop} {XC : String → State → State → Prop} {mc ms : Nat} {free : Addr → Prop} {cc : ByteArray} {maxL : Nat} {ret : Option FieldType}
    (hy : plainName y.cls = true) (hw : ws = Cond.code y cc maxL ret :: ws')
    (body : ∀ p e s m args below meth c s₁, BodyLoose p l y (headSpec ws rm) cc maxL ret e s m args below meth c s₁ → c.maxLocals = maxL → (∀ x ∈ c.exceptionTable.toList, False) → Pc args s →
      W p l e (headSpec ws rm).room s m args below meth c s.heap [] 0 0 (vx_MQ below Qc XC args s mc ms free) (entryFrame m args maxL)) : vx_Met l y ws rm Pc Qc XC mc ms free := by
  refine MetFree.of_bodyS (code := cc) (maxLocals := maxL) (ret := ret) hy ?_ ?_
  · intro args s m h hn
    obtain ⟨meth, c, h1, h2, h3, h4, h5, h6, -, -⟩ := Cond.code_spec hn (atoms_spec (ws := ws) h _ (by rw [hw]; exact List.mem_cons_self))
    exact ⟨meth, c, h1, h2, h3, h4, h5, h6⟩
  · intro p e s m args below meth c s₁ B hml hP _
    have hh0 : s₁.heap = s.heap := by rw [B.state]; rfl
    have ht : ∀ x ∈ c.exceptionTable.toList, False := by
      obtain ⟨meth9, c9, h1, h2, -, -, -, -, h7, -⟩ := Cond.code_spec B.named (atoms_spec (ws := ws) B.pre _ (by rw [hw]; exact List.mem_cons_self))
      cases Option.some.inj (h1.symm.trans B.method)
      cases Option.some.inj (h2.symm.trans (Stand.of_body B).code)
      intro x hx
      rw [Array.isEmpty_iff.mp h7] at hx
      cases hx
    obtain ⟨t, a1, o, b1, b2, b3⟩ := body p e s m args below meth c s₁ B hml ht hP s₁ hh0 (Stand.of_body B)
    exact ⟨t, o, a1, b1, b2, b3⟩
/-- the table of a body with handlers -/
theorem vx_table {p : Program} {x y : MethodName} {S : Spec} {cc bytes : ByteArray} {maxL maxL' : Nat} {ret ret' : Option FieldType} {e : Env} {s s₁ : State} {m : MethodId} {args : Array Value} {below : List Frame} {meth : Method} {c : Code} {hh : List (Nat × Nat × Nat × Nat)}
    (B : BodyLoose p l y S cc maxL ret e s m args below meth c s₁) (h : (Cond.codeWith y bytes maxL' ret' hh).before args s = true) : c.exceptionTable.toList = tableOf hh := by
  obtain ⟨m9, meth9, c9, hn9, h1, h2, -, -, h6, -⟩ := Cond.codeWith_spec h
  cases Option.some.inj (hn9.symm.trans B.named)
  cases Option.some.inj (h1.symm.trans B.method)
  cases Option.some.inj (h2.symm.trans (Stand.of_body B).code)
  rw [← h6, table_eq]
end Bodies
end VXA
/-! ===== END ===== -/
/-! ===== BEGIN a static call of a method with an exception table ===== -/
section VXS
variable {p : Program} {l : Launch} {e : Env} {R : Room} {s : State} {m : MethodId} {args : Array Value} {below : List Frame} {meth : Method} {c : Code} {T : State} {H : Heap} {locs : List Loc} {cells slots : Nat}
abbrev vx_CSW (R : Room) (s : State) (args : Array Value) (own : String) (index : Nat) (y : MethodName) (bytes : ByteArray) (maxL : Nat) (ret : Option FieldType) (hh : List (Nat × Nat × Nat × Nat)) (ws : List Cond) (rm : Room) (mc ms n : Nat) : Prop :=
  (rm.cells = mc ∧ rm.slots = ms ∧ rm.frames + 1 ≤ R.frames ∧ 8 + (maxL + 11) + rm.locals ≤ R.locals ∧ (∀ w ∈ ws, ∀ (a' : Array Value) (U : State), s.WarmedH U.vm → w.before a' U = true) ∧ Cond.codeWith y bytes maxL ret hh ∈ ws) ∧
  (Cond.codeWith y bytes maxL ret hh).before args s = true ∧ (Cond.initialized y.cls).before args s = true ∧ (y.cls ≠ "java/lang/invoke/MethodHandle" ∧ y.cls ≠ "java/lang/invoke/VarHandle") ∧
  (∀ sig, parseMethodDescriptor y.desc = some sig → n = sig.parameters.length) ∧ (Cond.methodLink own index y).before args s = true ∧ (Cond.static y).before args s = true
theorem vx_cwSW {own : String} {index maxL mc ms : Nat} {y : MethodName} {bytes : ByteArray} {ret : Option FieldType} {hh : List (Nat × Nat × Nat × Nat)} {Ts ws ws' : List Cond} {rm : Room} (n : Nat) (ht : ∀ w ∈ Ts, w.before args s = true) (hT : GoodIn Ts (va_wsS own index y ws)) (hw : ws = Cond.codeWith y bytes maxL ret hh :: ws') (hrc : rm.cells = mc) (hrs : rm.slots = ms)
    (hd : y.cls ≠ "java/lang/invoke/MethodHandle" ∧ y.cls ≠ "java/lang/invoke/VarHandle" ∧ (parseMethodDescriptor y.desc).map (fun d => d.parameters.length) = some n) (hR : rm.frames + 1 ≤ R.frames ∧ 8 + (maxL + 11) + rm.locals ≤ R.locals) :
    vx_CSW R s args own index y bytes maxL ret hh ws rm mc ms n := by
  have ok : ∀ w ∈ va_wsS own index y ws, w.before args s = true := fun w h => ht w (hT w h).1
  have hG : GoodIn Ts ws := fun w h => hT w (by unfold va_wsS; exact List.mem_append_right _ h)
  have hc : Cond.codeWith y bytes maxL ret hh ∈ ws := by rw [hw]; exact List.mem_cons_self
  refine ⟨⟨hrc, hrs, hR.1, hR.2, pay_in ht hG, hc⟩, ht _ (hG _ hc).1, ok _ (by simp [va_wsS]), ⟨hd.1, hd.2.1⟩, fun sig h => ?_, ok _ (by simp [va_wsS]), ok _ (by simp [va_wsS])⟩
  have h2 := hd.2.2
  rw [h] at h2
  exact (Option.some.inj h2).symm
theorem vx_callSW (X : Stand p l e R s m args below meth c T locs cells slots) (hexec : p.tables.exec = Jvm.exec) {own : String} {index : Nat} {y : MethodName} {bytes : ByteArray} {maxL : Nat} {ret : Option FieldType} {hh : List (Nat × Nat × Nat × Nat)}
    (hown : s.vm.findClass own = some m.cls) (hlink : (Cond.methodLink own index y).before args s = true) (hstat : (Cond.static y).before args s = true) (hinit : (Cond.initialized y.cls).before args s = true)
    (hcode : (Cond.codeWith y bytes maxL ret hh).before args s = true) (hy : y.cls ≠ "java/lang/invoke/MethodHandle" ∧ y.cls ≠ "java/lang/invoke/VarHandle")
    {W9 : Nat} {Pre : Pt → Array Value → Prop} {Post : Pt → Array Value → Option Value → Pt → Prop} (hK : Back l R p e below s args y 3 W9 Pre Post)
    {g : JFrame} (hg : g.method = m) (hsize : g.locals.size = c.maxLocals) {argsL rest : List Value} (hlen : ∀ sig, parseMethodDescriptor y.desc = some sig → argsL.length = sig.parameters.length)
    (hstack : g.stack = argsL.reverse ++ rest) (hW : 2 * g.monitorRoom + (rest.map fun v => v.category).sum ≤ W9) (hdg : decode c.code g.pc = .ok (.invokestatic index, 3))
    (hpre : ∀ vm₁, s.WarmedH vm₁ → Pre ⟨T.setVm vm₁, locs, cells, slots⟩ argsL.toArray) :
    ∃ (v : Option Value) (vm₁ : Vm) (B : Pt), s.WarmedH vm₁ ∧ Stand p l e R s m args below meth c B.U B.locs B.cells B.slots ∧ Post ⟨T.setVm vm₁, locs, cells, slots⟩ argsL.toArray v B ∧
      ∀ target, Steps p.tables e below (B.U.setTop { g with pc := g.pc + 3, stack := v.toList ++ rest }) target → Steps p.tables e below (T.setTop g) target := by
  obtain ⟨mk, methM, cM, hnamed, hmethM, -, -, -, -, -, -, hsigM⟩ := Cond.codeWith_spec hcode
  have hstatic : methM.isStatic = true := Cond.static_spec hnamed hmethM hstat
  obtain ⟨kP, hkP, -⟩ := className_of_methodNamed hnamed
  have hinitP : kP.init = .initialized := Cond.initialized_spec (findClass_of_methodNamed hnamed) hkP hinit
  obtain ⟨vm₁, X₁, hstep₁⟩ := X.invokestatic hexec hown hlink hnamed hmethM hstatic hkP hinitP hy (g := g) hg (argsL := argsL) (rest := rest) (hlen _ hsigM) hstack hdg
  obtain ⟨v, B, X', hpost, hsteps⟩ := hK m meth c ⟨T.setVm vm₁, locs, cells, slots⟩ { g with stack := rest } (.invokestatic index) mk argsL.toArray X₁ hg hsize hdg hW (X₁.named hnamed) (hpre vm₁ X₁.warmed)
  exact ⟨v, vm₁, B, X₁.warmed, X', hpost, fun target h => hstep₁ _ fun acts => by rw [doInvoke_state]; exact hsteps.trans h⟩
theorem vx_runSW {y : MethodName} {bytes cc : ByteArray} {maxL nL mc ms n index : Nat} {ret : Option FieldType} {hh : List (Nat × Nat × Nat × Nat)} {ws : List Cond} {rm : Room} {Pc : Array Value → State → Prop} {Qc : Array Value → State → Outcome → State → Prop} {free : Addr → Prop} {Ts : List Cond} {own : String} {As rest : List Value} {g : JFrame}
    (S : CallFix p m c cc nL s args Ts own) (hM : Met l y ws rm Pc Qc mc ms free) (cw : vx_CSW R s args own index y bytes maxL ret hh ws rm mc ms n) (hp : PreS s H Pc As)
    (hg : g.method = m) (hn : As.length = n) (hsize : g.locals.size = nL) (hstack : g.stack = As.reverse ++ rest) (hW : 2 * g.monitorRoom + (rest.map fun v => v.category).sum ≤ 8) (hdg : decode cc g.pc = .ok (.invokestatic index, 3)) (hf : cells + mc ≤ R.cells ∧ slots + ms ≤ R.slots) :
    va_Run p l e R s m args below meth c H locs cells slots mc ms g rest (Qc As.toArray) (free) := by
  obtain ⟨⟨hrc, hrs, hfr, hlo, hws, hcw⟩, hcode, hini, hy, hlen, hl, hstt⟩ := cw
  have hK : Back l R p e below s args y 3 8 (PreOf R mc ms Pc) (PostOf Qc mc ms free) := va_backW (hh := hh) (bytes := bytes) (maxL := maxL) (ret := ret) hM hp.1 hrc hrs hfr hlo hws hcw (fun a' U hW => word_at hW (Or.inl (by first | rfl | simp [Cond.onTables, Cond.keeps, Cond.steady])) hini)
  obtain ⟨hx, hb, hml, ho, -⟩ := S
  intro T hT X
  obtain ⟨v, vm₁, ⟨U', l2, c2, s2⟩, hW₁, X', ⟨g', mk, t, L, e1, e2, hq, h1, hL, h2, h3⟩, st⟩ := vx_callSW X hx (hh := hh) (bytes := bytes) (maxL := maxL) (ret := ret) ho hl hstt hini hcode hy hK hg (hsize.trans hml.symm) (argsL := As) (rest := rest) (fun sig h => hn.trans (hlen sig h)) hstack hW (by rw [hb]; exact hdg)
    (fun vm₁ hW₁ => ⟨hf.1, hf.2, hp.2 (T.setVm vm₁) hT hW₁⟩)
  dsimp only [Pt.U, Pt.locs, Pt.cells, Pt.slots] at X' e1 e2 h1 h2 h3 st
  subst h1; subst h2; subst h3
  exact ⟨v, (T.setVm vm₁).calling g' mk As.toArray, t, U', L, hT, X', hL, e1, e2, hq, st⟩
/-- not caught here, past rows that name other classes: it goes on to the caller -/
theorem vx_outP {p : Program} {l : Launch} {e : Env} {R : Room} {s : State} {m : MethodId} {args : Array Value} {below : List Frame} {meth : Method} {c : Code} {H : Heap} {locs : List Loc} {cells slots : Nat} {free : Addr → Prop} {ls : Array Slot} {rest : List Value} {Qc : Array Value → State → Outcome → State → Prop} {XC : String → State → State → Prop}
    {pc : Nat} {own E : String} {ce : Cell} {q : Addr} {mc ms : Nat} (hown : s.vm.findClass own = some m.cls) (hlocks : meth.locks = false)
    (hpass : ∀ z ∈ c.exceptionTable.toList, covers z pc = false ∨ (z.catchType ≠ 0 ∧ ∃ nm : String, (Cond.classLink own z.catchType nm).before args s = true ∧ va_Nc E nm s)) (hcell : H[q]? = some ce) (hv : ce.vm = .none) (hcl : s.vm.findClass E = some ce.cls)
    (hx : ∀ t : State, t.heap = H → s.vm.Alike t.vm → XC E s t) (hf : ∀ z ∈ locs, free z.base) (hc : cells ≤ mc) (hs : slots ≤ ms) :
    vx_W p l e R s m args below meth c H locs cells slots (vx_MQ below Qc XC args s mc ms free) (F0 m pc ls rest) q := by
  intro T hT X
  have hpl : e.platform.magicAccessors = ({} : Platform).magicAccessors := by rw [X.admits.platform]
  obtain ⟨vm', hW', X', st⟩ := X.outThrough hlocks q (g := F0 m pc ls rest) rfl rfl rfl (cell := ce) (by rw [hT]; exact hcell) (by rw [hv]; rfl)
    (by obtain ⟨k9, h9, -⟩ := Vm.findClass_spec hcl; exact ⟨k9, h9⟩) (fun z hz => by
      rcases hpass z hz with h | ⟨hz0, nm, hl1, hn1⟩
      · exact Or.inl h
      · obtain ⟨c6, hc6, hcl6⟩ := Cond.classLink_spec hown hl1 e.platform hpl
        obtain ⟨a8, b8, h1, h2, h3⟩ := hn1
        cases Option.some.inj (h1.symm.trans hcl)
        cases Option.some.inj (h2.symm.trans hc6)
        exact Or.inr ⟨hz0, _, hcl6, h3⟩)
  obtain ⟨g₀, hfr⟩ := X'.frames_eq
  have hcell9 : ((T.setVm vm').setFrames (.throwing q :: below)).heap[q]? = some ce := by
    show T.heap[q]? = some ce
    rw [hT]; exact hcell
  have hend : Ended ((T.setVm vm').setFrames (.throwing q :: below)) below (.threw q) := State.frames_setFrames _ (State.cur_lt_of_frames hfr)
  refine ⟨(T.setVm vm').setFrames (.throwing q :: below), ?_, .threw q, X'.here.running, hend, Or.inr ⟨q, rfl, E, ce, locs, hx _ hT (X'.ends _).1.alike, hcell9, hv, hcl, (X'.ends _).1, (X'.ends _).2.mono hc hs, hf⟩⟩
  rw [X.pushThrowing_eq]
  exact st
/-- a thing of a world lies in the heap -/
theorem vx_lt {D : va_G} {cl : List vw_C} {ws : va_W} {H1 : Heap} (h : va_P D cl ws H1) {k : Nat} {q : Nat × va_E} (hk : ws[k]? = some q) : q.1 < H1.size := (h k q hk).lt
end VXS
/-! ===== END ===== -/
/-! ===== BEGIN methods with a table of their own: called by a name, returning or throwing ===== -/
section VXH
/-! vx_backW, vx_callVX, vx_callSX, vx_callVW, vx_runVW, vx_runVX, vx_runSX, vx_ofWH follow the same proofs as their sisters above (Free/Laws.lean, Shelf42/LK1.lean); vx_outP calls Shelf42/NT130.lean (outThrough). -/
section
variable {l : Launch} {R : Room} {p : Program} {e : Env} {below : List Frame} {s : State} {sargs : Array Value} {y : MethodName} {len W9 : Nat}
theorem vx_backW {ws : List Cond} {rm : Room} {Pc : Array Value → State → Prop} {Qc : Array Value → State → Outcome → State → Prop} {XC : String → State → State → Prop} {mc ms : Nat} {free : Addr → Prop} {bytes : ByteArray} {maxL : Nat} {ret : Option FieldType} {hh : List (Nat × Nat × Nat × Nat)}
    (hM : vx_Met l y ws rm Pc Qc XC mc ms free) (hblind : FrameBlind Pc) (hrc : rm.cells = mc) (hrs : rm.slots = ms)
    (hframes : rm.frames + 1 ≤ R.frames) (hlocals : W9 + (maxL + 11) + rm.locals ≤ R.locals)
    (hws : ∀ w ∈ ws, ∀ a' U, s.WarmedH U.vm → w.before a' U = true) (hcode : Cond.codeWith y bytes maxL ret hh ∈ ws) (hinit : ∀ a' U, s.WarmedH U.vm → (Cond.initialized y.cls).before a' U = true) :
    vx_Back l R p e below s sargs y len W9 (PreOf R mc ms Pc) (PostOf Qc mc ms free) (vx_Post XC mc ms free) := by
  intro m meth c A g ig mk a X hg hsize hdg hW hn hp
  have h1 : (headSpec ws rm).pre.before a A.U = true := atoms_intro fun w hw => hws w hw _ _ X.warmed
  have h2 : (Cond.codeWith y bytes maxL ret hh).before a A.U = true := hws _ hcode _ _ X.warmed
  have h3 : (Cond.initialized y.cls).before a A.U = true := hinit _ _ X.warmed
  have h4 : A.cells + (headSpec ws rm).room.cells ≤ R.cells := by rw [show (headSpec ws rm).room.cells = mc from hrc]; exact hp.1
  have h5 : A.slots + (headSpec ws rm).room.slots ≤ R.slots := by rw [show (headSpec ws rm).room.slots = ms from hrs]; exact hp.2.1
  have hPc : Pc a (A.U.calling g mk a) := hblind _ _ _ _ hp.2.2
  obtain ⟨U, Ls, c0, s0⟩ := A
  dsimp only [Pt.U, Pt.locs, Pt.cells, Pt.slots] at h1 h2 h3 h4 h5 X hn hPc ⊢
  obtain ⟨m9, methY, cY, hn9, hmY, hcY, -, hlY, -⟩ := Cond.codeWith_spec h2
  cases Option.some.inj (hn9.symm.trans hn)
  obtain ⟨kY, hkY, -⟩ := className_of_methodNamed hn
  have hinitY : kY.init = .initialized := Cond.initialized_spec (findClass_of_methodNamed hn) hkY h3
  have h : At U g.method c below := by rw [hg]; exact X.here
  have hlocals9 : W9 + (maxL + 11) + (headSpec ws rm).room.locals ≤ R.locals := hlocals
  have happ : (headSpec ws rm).appliesLoose y e.platform (U.calling g mk a) = true :=
    Spec.appliesLoose_calling (g := g) h hdg hn hkY hinitY
      (X.room_calling (g := g) (R' := (headSpec ws rm).room) hsize hmY hcY hframes (by rw [hlY]; omega) h4 h5) h1
  obtain ⟨mid, hmid⟩ := h.above
  have hfr : (U.setTop g).frames = (.java g :: mid) ++ below := by rw [State.frames_setTop' g h.top, hmid]; rfl
  obtain ⟨o, s₂, hsteps, -, hend, hq⟩ := Steps.callFree hM p X.admits X.cas X.clock (acts := []) hfr happ hPc trivial
  have hq' : vx_Q Qc XC mc ms free a (U.calling g mk a) o s₂ := hq
  rw [State.frames_setTop' g h.top] at hend
  obtain ⟨g₀, hg0⟩ := Option.isSome_iff_exists.mp h.top
  obtain ⟨r, hr⟩ := State.topJava?_eq_some.mp hg0
  have hr' : (({ U with heap := s₂.heap, slotsUsed := s₂.slotsUsed } : State).setVm s₂.vm).frames = .java g₀ :: r := hr
  rcases hq' with ⟨hqc, L, hfe, hL⟩ | ⟨q, rfl, E, ce, L, hx, hce, hcv, hcl, hW₂, hsm, hL⟩
  · obtain ⟨⟨v, rfl⟩, hW₂, e2, q2, q3, q4, q5, q6⟩ := id hfe
    have e3 : s₂ = ({ (U.calling g mk a).setFrames s₂.frames with heap := s₂.heap, slotsUsed := s₂.slotsUsed } : State).setVm s₂.vm := by
      have : s₂ = ({ s₂ with vm := (U.calling g mk a).vm } : State).setVm s₂.vm := rfl
      rw [e2] at this
      exact this
    obtain ⟨c₂, i₂, len₂, hc₂, hd₂, hf₂⟩ := hend
    have hW' : U.WarmedH s₂.vm := hW₂
    have hcc : c₂ = c := by
      have h1 : s₂.code? g.method = U.code? g.method := by
        rw [State.code?_eq, State.code?_eq, hW'.alike.method?]
      exact Option.some.inj (hc₂.symm.trans (h1.trans h.code))
    subst hcc
    have hlen : len₂ = len := by rw [hdg] at hd₂; cases hd₂; rfl
    subst hlen
    have hs₂ : s₂ = (({ U with heap := s₂.heap, slotsUsed := s₂.slotsUsed } : State).setVm s₂.vm).setTop { g with pc := g.pc + len₂, stack := v.toList ++ g.stack } := by
      refine e3.trans ?_
      rw [hf₂, State.calling_eq h.top, State.setFrames_setFrames, State.setTop_of_frames _ hr', hr]
      rfl
    have hsame : U.sameButNew ({ U with heap := s₂.heap, slotsUsed := s₂.slotsUsed } : State) L mc ms := by
      refine ⟨?_, q2, q3, q4, q5, q6⟩
      obtain ⟨t, ht, -⟩ := State.frames_cons hr
      show ({ U with heap := s₂.heap, slotsUsed := s₂.slotsUsed } : State) = { U.setFrames U.frames with heap := s₂.heap, slotsUsed := s₂.slotsUsed }
      rw [State.setFrames_self ht]
    subst hg
    refine Or.inl ⟨v, ⟨(({ U with heap := s₂.heap, slotsUsed := s₂.slotsUsed } : State).setVm s₂.vm), Ls ++ L, c0 + mc, s0 + ms⟩,
      ⟨X.admits, X.cas, X.clock, X.frames, X.room, X.hears, X.method, X.code, (X.here.setHeapUsed s₂.heap s₂.slotsUsed).setVm hW'.alike, X.tail, State.WarmedH.trans X.warmed hW', X.limits, X.bytes, X.same.trans (hsame.setVm s.vm)⟩,
      ⟨g, mk, s₂, L, rfl, rfl, hqc, rfl, hL, rfl, rfl⟩, ?_⟩
    show Steps p.tables e below _ ((({ U with heap := s₂.heap, slotsUsed := s₂.slotsUsed } : State).setVm s₂.vm).setTop { g with pc := g.pc + len₂, stack := v.toList ++ g.stack })
    rw [← hs₂]
    exact hsteps
  · obtain ⟨e2, q2, q3, q4, q5, q6⟩ := id hsm
    have e3 : s₂ = ({ (U.calling g mk a).setFrames s₂.frames with heap := s₂.heap, slotsUsed := s₂.slotsUsed } : State).setVm s₂.vm := by
      have : s₂ = ({ s₂ with vm := (U.calling g mk a).vm } : State).setVm s₂.vm := rfl
      rw [e2] at this
      exact this
    have hf₂ : s₂.frames = .throwing q :: .java g :: U.frames.tail := hend
    have hW' : U.WarmedH s₂.vm := hW₂
    have hs₂ : s₂ = ((({ U with heap := s₂.heap, slotsUsed := s₂.slotsUsed } : State).setVm s₂.vm).setTop g).pushFrame (.throwing q) := by
      refine e3.trans ?_
      rw [hf₂, State.calling_eq h.top, State.setFrames_setFrames, State.pushFrame, State.frames_setTop _ hr', State.setTop_of_frames _ hr', State.setFrames_setFrames, hr]
      rfl
    have hsame : U.sameButNew ({ U with heap := s₂.heap, slotsUsed := s₂.slotsUsed } : State) L mc ms := by
      refine ⟨?_, q2, q3, q4, q5, q6⟩
      obtain ⟨t, ht, -⟩ := State.frames_cons hr
      show ({ U with heap := s₂.heap, slotsUsed := s₂.slotsUsed } : State) = { U.setFrames U.frames with heap := s₂.heap, slotsUsed := s₂.slotsUsed }
      rw [State.setFrames_self ht]
    subst hg
    refine Or.inr ⟨q, ⟨(({ U with heap := s₂.heap, slotsUsed := s₂.slotsUsed } : State).setVm s₂.vm), Ls ++ L, c0 + mc, s0 + ms⟩,
      ⟨X.admits, X.cas, X.clock, X.frames, X.room, X.hears, X.method, X.code, (X.here.setHeapUsed s₂.heap s₂.slotsUsed).setVm hW'.alike, X.tail, State.WarmedH.trans X.warmed hW', X.limits, X.bytes, X.same.trans (hsame.setVm s.vm)⟩,
      ⟨g, mk, s₂, L, E, ce, rfl, rfl, hx, hce, hcv, hcl, rfl, hL, rfl, rfl⟩, ?_⟩
    show Steps p.tables e below _ (((({ U with heap := s₂.heap, slotsUsed := s₂.slotsUsed } : State).setVm s₂.vm).setTop g).pushFrame (.throwing q))
    rw [← hs₂]
    exact hsteps
end
variable {p : Program} {l : Launch} {e : Env} {R : Room} {s : State} {m : MethodId} {args : Array Value} {below : List Frame} {meth : Method} {c : Code} {T : State} {H : Heap} {locs : List Loc} {cells slots : Nat}
theorem vx_callVX (X : Stand p l e R s m args below meth c T locs cells slots) (hexec : p.tables.exec = Jvm.exec) {own C : String} {index : Nat} {y : MethodName} {bytes : ByteArray} {maxL : Nat} {ret : Option FieldType} {hh : List (Nat × Nat × Nat × Nat)}
    (hown : s.vm.findClass own = some m.cls) (hlink : (Cond.methodLink own index y).before args s = true) (hinst : (Cond.instanceMethod y).before args s = true) (hsel : (Cond.selects C y y).before args s = true)
    (hcode : (Cond.codeWith y bytes maxL ret hh).before args s = true) (hy : y.cls ≠ "java/lang/invoke/MethodHandle" ∧ y.cls ≠ "java/lang/invoke/VarHandle")
    {W9 : Nat} {Pre : Pt → Array Value → Prop} {Post : Pt → Array Value → Option Value → Pt → Prop} {PostX : Pt → Array Value → Addr → Pt → Prop} (hK : vx_Back l R p e below s args y 3 W9 Pre Post PostX)
    {b : Addr} {cellB : Cell} (hcell : T.heap[b]? = some cellB) (hobj : cellB.vm.isStatics = false) (hcls : s.vm.findClass C = some cellB.cls)
    {g : JFrame} (hg : g.method = m) (hsize : g.locals.size = c.maxLocals) {argsL rest : List Value} (hlen : ∀ sig, parseMethodDescriptor y.desc = some sig → argsL.length = sig.parameters.length)
    (hstack : g.stack = argsL.reverse ++ .ref b :: rest) (hW : 2 * g.monitorRoom + (rest.map fun v => v.category).sum ≤ W9) (hdg : decode c.code g.pc = .ok (.invokevirtual index, 3))
    (hpre : ∀ vm₁, s.WarmedH vm₁ → Pre ⟨T.setVm vm₁, locs, cells, slots⟩ (Value.ref b :: argsL).toArray) :
    (∃ (v : Option Value) (vm₁ : Vm) (B : Pt), s.WarmedH vm₁ ∧ Stand p l e R s m args below meth c B.U B.locs B.cells B.slots ∧ Post ⟨T.setVm vm₁, locs, cells, slots⟩ (Value.ref b :: argsL).toArray v B ∧
      ∀ target, Steps p.tables e below (B.U.setTop { g with pc := g.pc + 3, stack := v.toList ++ rest }) target → Steps p.tables e below (T.setTop g) target) ∨
    (∃ (q : Addr) (vm₁ : Vm) (B : Pt), s.WarmedH vm₁ ∧ Stand p l e R s m args below meth c B.U B.locs B.cells B.slots ∧ PostX ⟨T.setVm vm₁, locs, cells, slots⟩ (Value.ref b :: argsL).toArray q B ∧
      Steps p.tables e below (T.setTop g) ((B.U.setTop { g with stack := rest }).pushFrame (.throwing q))) := by
  obtain ⟨mk, methM, hnamed, hmethM, hstM, habM⟩ := Cond.instanceMethod_spec hinst
  obtain ⟨m8, methM', cM, hn8, hmethM', -, -, -, -, -, -, hsigM⟩ := Cond.codeWith_spec hcode
  cases Option.some.inj (hn8.symm.trans hnamed)
  cases hmethM.symm.trans hmethM'
  obtain ⟨c2, r2, m2, q1, q2, q3, q4, kP, hkP, hkPi⟩ := Cond.selects_spec hsel
  cases hcls.symm.trans q1
  cases (State.methodFound?_of_named hnamed hy).symm.trans q2
  cases hnamed.symm.trans q3
  have hselP : selectMethod e.platform s.vm cellB.cls mk = .method mk := by rw [Launch.admits_selectMethod X.admits]; exact q4
  obtain ⟨vm₁, X₁, hstep₁⟩ := X.invokevirtual hexec hown hlink hnamed hmethM hstM hkP hkPi hy (a := b) (cell := cellB) hcell
    (fun z h => by rw [h] at hobj; cases hobj) hselP hmethM habM hkP hkPi (g := g) hg (argsL := argsL) (rest := rest) (hlen _ hsigM) hstack hdg
  rcases hK m meth c ⟨T.setVm vm₁, locs, cells, slots⟩ { g with stack := rest } (.invokevirtual index) mk (Value.ref b :: argsL).toArray X₁ hg hsize hdg hW (X₁.named hnamed) (hpre vm₁ X₁.warmed) with ⟨v, B, X', hpost, hsteps⟩ | ⟨q, B, X', hpost, hsteps⟩
  · exact Or.inl ⟨v, vm₁, B, X₁.warmed, X', hpost, fun target h => hstep₁ _ fun acts => by rw [doInvoke_state]; exact hsteps.trans h⟩
  · exact Or.inr ⟨q, vm₁, B, X₁.warmed, X', hpost, hstep₁ _ fun acts => by rw [doInvoke_state]; exact hsteps⟩
theorem vx_callSX (X : Stand p l e R s m args below meth c T locs cells slots) (hexec : p.tables.exec = Jvm.exec) {own : String} {index : Nat} {y : MethodName} {bytes : ByteArray} {maxL : Nat} {ret : Option FieldType} {hh : List (Nat × Nat × Nat × Nat)}
    (hown : s.vm.findClass own = some m.cls) (hlink : (Cond.methodLink own index y).before args s = true) (hstat : (Cond.static y).before args s = true) (hinit : (Cond.initialized y.cls).before args s = true)
    (hcode : (Cond.codeWith y bytes maxL ret hh).before args s = true) (hy : y.cls ≠ "java/lang/invoke/MethodHandle" ∧ y.cls ≠ "java/lang/invoke/VarHandle")
    {W9 : Nat} {Pre : Pt → Array Value → Prop} {Post : Pt → Array Value → Option Value → Pt → Prop} {PostX : Pt → Array Value → Addr → Pt → Prop} (hK : vx_Back l R p e below s args y 3 W9 Pre Post PostX)
    {g : JFrame} (hg : g.method = m) (hsize : g.locals.size = c.maxLocals) {argsL rest : List Value} (hlen : ∀ sig, parseMethodDescriptor y.desc = some sig → argsL.length = sig.parameters.length)
    (hstack : g.stack = argsL.reverse ++ rest) (hW : 2 * g.monitorRoom + (rest.map fun v => v.category).sum ≤ W9) (hdg : decode c.code g.pc = .ok (.invokestatic index, 3))
    (hpre : ∀ vm₁, s.WarmedH vm₁ → Pre ⟨T.setVm vm₁, locs, cells, slots⟩ argsL.toArray) :
    (∃ (v : Option Value) (vm₁ : Vm) (B : Pt), s.WarmedH vm₁ ∧ Stand p l e R s m args below meth c B.U B.locs B.cells B.slots ∧ Post ⟨T.setVm vm₁, locs, cells, slots⟩ argsL.toArray v B ∧
      ∀ target, Steps p.tables e below (B.U.setTop { g with pc := g.pc + 3, stack := v.toList ++ rest }) target → Steps p.tables e below (T.setTop g) target) ∨
    (∃ (q : Addr) (vm₁ : Vm) (B : Pt), s.WarmedH vm₁ ∧ Stand p l e R s m args below meth c B.U B.locs B.cells B.slots ∧ PostX ⟨T.setVm vm₁, locs, cells, slots⟩ argsL.toArray q B ∧
      Steps p.tables e below (T.setTop g) ((B.U.setTop { g with stack := rest }).pushFrame (.throwing q))) := by
  obtain ⟨mk, methM, cM, hnamed, hmethM, -, -, -, -, -, -, hsigM⟩ := Cond.codeWith_spec hcode
  have hstatic : methM.isStatic = true := Cond.static_spec hnamed hmethM hstat
  obtain ⟨kP, hkP, -⟩ := className_of_methodNamed hnamed
  have hinitP : kP.init = .initialized := Cond.initialized_spec (findClass_of_methodNamed hnamed) hkP hinit
  obtain ⟨vm₁, X₁, hstep₁⟩ := X.invokestatic hexec hown hlink hnamed hmethM hstatic hkP hinitP hy (g := g) hg (argsL := argsL) (rest := rest) (hlen _ hsigM) hstack hdg
  rcases hK m meth c ⟨T.setVm vm₁, locs, cells, slots⟩ { g with stack := rest } (.invokestatic index) mk argsL.toArray X₁ hg hsize hdg hW (X₁.named hnamed) (hpre vm₁ X₁.warmed) with ⟨v, B, X', hpost, hsteps⟩ | ⟨q, B, X', hpost, hsteps⟩
  · exact Or.inl ⟨v, vm₁, B, X₁.warmed, X', hpost, fun target h => hstep₁ _ fun acts => by rw [doInvoke_state]; exact hsteps.trans h⟩
  · exact Or.inr ⟨q, vm₁, B, X₁.warmed, X', hpost, hstep₁ _ fun acts => by rw [doInvoke_state]; exact hsteps⟩
theorem vx_callVW (X : Stand p l e R s m args below meth c T locs cells slots) (hexec : p.tables.exec = Jvm.exec) {own C : String} {index : Nat} {y : MethodName} {bytes : ByteArray} {maxL : Nat} {ret : Option FieldType} {hh : List (Nat × Nat × Nat × Nat)}
    (hown : s.vm.findClass own = some m.cls) (hlink : (Cond.methodLink own index y).before args s = true) (hinst : (Cond.instanceMethod y).before args s = true) (hsel : (Cond.selects C y y).before args s = true)
    (hcode : (Cond.codeWith y bytes maxL ret hh).before args s = true) (hy : y.cls ≠ "java/lang/invoke/MethodHandle" ∧ y.cls ≠ "java/lang/invoke/VarHandle")
    {W9 : Nat} {Pre : Pt → Array Value → Prop} {Post : Pt → Array Value → Option Value → Pt → Prop} (hK : Back l R p e below s args y 3 W9 Pre Post)
    {b : Addr} {cellB : Cell} (hcell : T.heap[b]? = some cellB) (hobj : cellB.vm.isStatics = false) (hcls : s.vm.findClass C = some cellB.cls)
    {g : JFrame} (hg : g.method = m) (hsize : g.locals.size = c.maxLocals) {argsL rest : List Value} (hlen : ∀ sig, parseMethodDescriptor y.desc = some sig → argsL.length = sig.parameters.length)
    (hstack : g.stack = argsL.reverse ++ .ref b :: rest) (hW : 2 * g.monitorRoom + (rest.map fun v => v.category).sum ≤ W9) (hdg : decode c.code g.pc = .ok (.invokevirtual index, 3))
    (hpre : ∀ vm₁, s.WarmedH vm₁ → Pre ⟨T.setVm vm₁, locs, cells, slots⟩ (Value.ref b :: argsL).toArray) :
    ∃ (v : Option Value) (vm₁ : Vm) (B : Pt), s.WarmedH vm₁ ∧ Stand p l e R s m args below meth c B.U B.locs B.cells B.slots ∧ Post ⟨T.setVm vm₁, locs, cells, slots⟩ (Value.ref b :: argsL).toArray v B ∧
      ∀ target, Steps p.tables e below (B.U.setTop { g with pc := g.pc + 3, stack := v.toList ++ rest }) target → Steps p.tables e below (T.setTop g) target := by
  obtain ⟨mk, methM, hnamed, hmethM, hstM, habM⟩ := Cond.instanceMethod_spec hinst
  obtain ⟨m8, methM', cM, hn8, hmethM', -, -, -, -, -, -, hsigM⟩ := Cond.codeWith_spec hcode
  cases Option.some.inj (hn8.symm.trans hnamed)
  cases hmethM.symm.trans hmethM'
  obtain ⟨c2, r2, m2, q1, q2, q3, q4, kP, hkP, hkPi⟩ := Cond.selects_spec hsel
  cases hcls.symm.trans q1
  cases (State.methodFound?_of_named hnamed hy).symm.trans q2
  cases hnamed.symm.trans q3
  have hselP : selectMethod e.platform s.vm cellB.cls mk = .method mk := by rw [Launch.admits_selectMethod X.admits]; exact q4
  obtain ⟨vm₁, X₁, hstep₁⟩ := X.invokevirtual hexec hown hlink hnamed hmethM hstM hkP hkPi hy (a := b) (cell := cellB) hcell
    (fun z h => by rw [h] at hobj; cases hobj) hselP hmethM habM hkP hkPi (g := g) hg (argsL := argsL) (rest := rest) (hlen _ hsigM) hstack hdg
  obtain ⟨v, B, X', hpost, hsteps⟩ := hK m meth c ⟨T.setVm vm₁, locs, cells, slots⟩ { g with stack := rest } (.invokevirtual index) mk (Value.ref b :: argsL).toArray X₁ hg hsize hdg hW (X₁.named hnamed) (hpre vm₁ X₁.warmed)
  exact ⟨v, vm₁, B, X₁.warmed, X', hpost, fun target h => hstep₁ _ fun acts => by rw [doInvoke_state]; exact hsteps.trans h⟩
abbrev vx_CVW (R : Room) (s : State) (args : Array Value) (own C : String) (index : Nat) (y : MethodName) (bytes : ByteArray) (maxL : Nat) (ret : Option FieldType) (hh : List (Nat × Nat × Nat × Nat)) (ws : List Cond) (rm : Room) (mc ms n : Nat) : Prop :=
  (rm.cells = mc ∧ rm.slots = ms ∧ rm.frames + 1 ≤ R.frames ∧ 8 + (maxL + 11) + rm.locals ≤ R.locals ∧ (∀ w ∈ ws, ∀ (a' : Array Value) (U : State), s.WarmedH U.vm → w.before a' U = true) ∧ Cond.codeWith y bytes maxL ret hh ∈ ws) ∧
  (Cond.codeWith y bytes maxL ret hh).before args s = true ∧ (Cond.initialized y.cls).before args s = true ∧ (y.cls ≠ "java/lang/invoke/MethodHandle" ∧ y.cls ≠ "java/lang/invoke/VarHandle") ∧
  (∀ sig, parseMethodDescriptor y.desc = some sig → n = sig.parameters.length) ∧ (Cond.methodLink own index y).before args s = true ∧ (Cond.instanceMethod y).before args s = true ∧ (Cond.selects C y y).before args s = true
theorem vx_cwVW {own C : String} {index maxL mc ms : Nat} {y : MethodName} {bytes : ByteArray} {ret : Option FieldType} {hh : List (Nat × Nat × Nat × Nat)} {Ts ws ws' : List Cond} {rm : Room} (n : Nat) (ht : ∀ w ∈ Ts, w.before args s = true) (hT : GoodIn Ts (wsV own index C y ws)) (hw : ws = Cond.codeWith y bytes maxL ret hh :: ws') (hrc : rm.cells = mc) (hrs : rm.slots = ms)
    (hd : y.cls = C ∧ y.cls ≠ "java/lang/invoke/MethodHandle" ∧ y.cls ≠ "java/lang/invoke/VarHandle" ∧ (parseMethodDescriptor y.desc).map (fun d => d.parameters.length) = some n) (hR : rm.frames + 1 ≤ R.frames ∧ 8 + (maxL + 11) + rm.locals ≤ R.locals) :
    vx_CVW R s args own C index y bytes maxL ret hh ws rm mc ms n := by
  obtain ⟨hC, hd⟩ := hd
  subst hC
  have ok : ∀ w ∈ wsV own index y.cls y ws, w.before args s = true := fun w h => ht w (hT w h).1
  have hG : GoodIn Ts ws := fun w h => hT w (by unfold wsV; exact List.mem_append_right _ h)
  have hc : Cond.codeWith y bytes maxL ret hh ∈ ws := by rw [hw]; exact List.mem_cons_self
  refine ⟨⟨hrc, hrs, hR.1, hR.2, pay_in ht hG, hc⟩, ht _ (hG _ hc).1, ok _ (by simp [wsV]), ⟨hd.1, hd.2.1⟩, fun sig h => ?_, ok _ (by simp [wsV]), ok _ (by simp [wsV]), ok _ (by simp [wsV])⟩
  have h2 := hd.2.2
  rw [h] at h2
  exact (Option.some.inj h2).symm
theorem vx_runVW {y : MethodName} {bytes cc : ByteArray} {maxL nL mc ms n index : Nat} {ret : Option FieldType} {hh : List (Nat × Nat × Nat × Nat)} {ws : List Cond} {rm : Room} {Pc : Array Value → State → Prop} {Qc : Array Value → State → Outcome → State → Prop} {free : Addr → Prop} {Ts : List Cond} {own C : String} {b : Addr} {As rest : List Value} {g : JFrame}
    (S : CallFix p m c cc nL s args Ts own) (hM : Met l y ws rm Pc Qc mc ms free) (cw : vx_CVW R s args own C index y bytes maxL ret hh ws rm mc ms n) (hp : PreV s H C b Pc As)
    (hg : g.method = m) (hn : As.length = n) (hsize : g.locals.size = nL) (hstack : g.stack = As.reverse ++ .ref b :: rest) (hW : 2 * g.monitorRoom + (rest.map fun v => v.category).sum ≤ 8) (hdg : decode cc g.pc = .ok (.invokevirtual index, 3)) (hf : cells + mc ≤ R.cells ∧ slots + ms ≤ R.slots) :
    va_Run p l e R s m args below meth c H locs cells slots mc ms g rest (Qc (Value.ref b :: As).toArray) free := by
  obtain ⟨⟨hrc, hrs, hfr, hlo, hws, hcw⟩, hcode, hini, hy, hlen, hl, hin, hse⟩ := cw
  have hK : Back l R p e below s args y 3 8 (PreOf R mc ms Pc) (PostOf Qc mc ms free) := va_backW (hh := hh) (bytes := bytes) (maxL := maxL) (ret := ret) hM hp.1 hrc hrs hfr hlo hws hcw (fun a' U hW => word_at hW (Or.inl (by first | rfl | simp [Cond.onTables, Cond.keeps, Cond.steady])) hini)
  obtain ⟨hx, hb, hml, ho, -⟩ := S
  obtain ⟨-, ⟨cellB, hcB, hoB, hclB⟩, hPc⟩ := hp
  intro T hT X
  obtain ⟨v, vm₁, ⟨U', l2, c2, s2⟩, hW₁, X', ⟨g', mk, t, L, e1, e2, hq, h1, hL, h2, h3⟩, st⟩ := vx_callVW X hx (C := C) (hh := hh) (bytes := bytes) (maxL := maxL) (ret := ret) ho hl hin hse hcode hy hK (by rw [hT]; exact hcB) hoB hclB hg (hsize.trans hml.symm) (argsL := As) (rest := rest) (fun sig h => hn.trans (hlen sig h)) hstack hW (by rw [hb]; exact hdg)
    (fun vm₁ hW₁ => ⟨hf.1, hf.2, hPc (T.setVm vm₁) hT hW₁⟩)
  dsimp only [Pt.U, Pt.locs, Pt.cells, Pt.slots] at X' e1 e2 h1 h2 h3 st
  subst h1; subst h2; subst h3
  exact ⟨v, (T.setVm vm₁).calling g' mk (Value.ref b :: As).toArray, t, U', L, hT, X', hL, e1, e2, hq, st⟩
section
variable {y : MethodName} {bytes cc : ByteArray} {maxL nL mc ms n index : Nat} {ret : Option FieldType} {ws : List Cond} {rm : Room} {Pc : Array Value → State → Prop} {Qc : Array Value → State → Outcome → State → Prop} {XC : String → State → State → Prop} {free : Addr → Prop} {Ts : List Cond} {own C : String} {b : Addr} {As rest : List Value} {g : JFrame}
theorem vx_runVX {hh : List (Nat × Nat × Nat × Nat)} (S : CallFix p m c cc nL s args Ts own) (hM : vx_Met l y ws rm Pc Qc XC mc ms free) (cw : vx_CVW R s args own C index y bytes maxL ret hh ws rm mc ms n) (hp : PreV s H C b Pc As)
    (hg : g.method = m) (hn : As.length = n) (hsize : g.locals.size = nL) (hstack : g.stack = As.reverse ++ .ref b :: rest) (hW : 2 * g.monitorRoom + (rest.map fun v => v.category).sum ≤ 8) (hdg : decode cc g.pc = .ok (.invokevirtual index, 3)) (hf : cells + mc ≤ R.cells ∧ slots + ms ≤ R.slots) :
    vx_Run p l e R s m args below meth c H locs cells slots mc ms g rest (Qc (Value.ref b :: As).toArray) XC free := by
  obtain ⟨⟨hrc, hrs, hfr, hlo, hws, hcw⟩, hcode, hini, hy, hlen, hl, hin, hse⟩ := cw
  have hK : vx_Back l R p e below s args y 3 8 (PreOf R mc ms Pc) (PostOf Qc mc ms free) (vx_Post XC mc ms free) := vx_backW (hh := hh) (bytes := bytes) (maxL := maxL) (ret := ret) hM hp.1 hrc hrs hfr hlo hws hcw (fun a' U hW => word_at hW (Or.inl (by first | rfl | simp [Cond.onTables, Cond.keeps, Cond.steady])) hini)
  obtain ⟨hx, hb, hml, ho, -⟩ := S
  obtain ⟨-, ⟨cellB, hcB, hoB, hclB⟩, hPc⟩ := hp
  intro T hT X
  rcases vx_callVX X hx (C := C) (hh := hh) (bytes := bytes) (maxL := maxL) (ret := ret) ho hl hin hse hcode hy hK (by rw [hT]; exact hcB) hoB hclB hg (hsize.trans hml.symm) (argsL := As) (rest := rest) (fun sig h => hn.trans (hlen sig h)) hstack hW (by rw [hb]; exact hdg)
    (fun vm₁ hW₁ => ⟨hf.1, hf.2, hPc (T.setVm vm₁) hT hW₁⟩) with ⟨v, vm₁, ⟨U', l2, c2, s2⟩, hW₁, X', ⟨g', mk, t, L, e1, e2, hq, h1, hL, h2, h3⟩, st⟩ | ⟨q, vm₁, ⟨U', l2, c2, s2⟩, hW₁, X', ⟨g', mk, t, L, E, ce, e1, e2, hq, hce, hcv, hcl, h1, hL, h2, h3⟩, st⟩
  · dsimp only [Pt.U, Pt.locs, Pt.cells, Pt.slots] at X' e1 e2 h1 h2 h3 st
    subst h1; subst h2; subst h3
    exact Or.inl ⟨v, (T.setVm vm₁).calling g' mk (Value.ref b :: As).toArray, t, U', L, hT, X', hL, e1, e2, hq, st⟩
  · dsimp only [Pt.U, Pt.locs, Pt.cells, Pt.slots] at X' e1 e2 h1 h2 h3 st hcl
    subst h1; subst h2; subst h3
    exact Or.inr ⟨q, (T.setVm vm₁).calling g' mk (Value.ref b :: As).toArray, t, U', L, E, ce, hT, X', hL, e1, e2, hq, hce, hcv, vx_cls hW₁ hcl, st⟩
theorem vx_runSX {hh : List (Nat × Nat × Nat × Nat)} (S : CallFix p m c cc nL s args Ts own) (hM : vx_Met l y ws rm Pc Qc XC mc ms free) (cw : vx_CSW R s args own index y bytes maxL ret hh ws rm mc ms n) (hp : PreS s H Pc As)
    (hg : g.method = m) (hn : As.length = n) (hsize : g.locals.size = nL) (hstack : g.stack = As.reverse ++ rest) (hW : 2 * g.monitorRoom + (rest.map fun v => v.category).sum ≤ 8) (hdg : decode cc g.pc = .ok (.invokestatic index, 3)) (hf : cells + mc ≤ R.cells ∧ slots + ms ≤ R.slots) :
    vx_Run p l e R s m args below meth c H locs cells slots mc ms g rest (Qc As.toArray) XC free := by
  obtain ⟨⟨hrc, hrs, hfr, hlo, hws, hcw⟩, hcode, hini, hy, hlen, hl, hstt⟩ := cw
  have hK : vx_Back l R p e below s args y 3 8 (PreOf R mc ms Pc) (PostOf Qc mc ms free) (vx_Post XC mc ms free) := vx_backW (hh := hh) (bytes := bytes) (maxL := maxL) (ret := ret) hM hp.1 hrc hrs hfr hlo hws hcw (fun a' U hW => word_at hW (Or.inl (by first | rfl | simp [Cond.onTables, Cond.keeps, Cond.steady])) hini)
  obtain ⟨hx, hb, hml, ho, -⟩ := S
  intro T hT X
  rcases vx_callSX X hx (hh := hh) (bytes := bytes) (maxL := maxL) (ret := ret) ho hl hstt hini hcode hy hK hg (hsize.trans hml.symm) (argsL := As) (rest := rest) (fun sig h => hn.trans (hlen sig h)) hstack hW (by rw [hb]; exact hdg)
    (fun vm₁ hW₁ => ⟨hf.1, hf.2, hp.2 (T.setVm vm₁) hT hW₁⟩) with ⟨v, vm₁, ⟨U', l2, c2, s2⟩, hW₁, X', ⟨g', mk, t, L, e1, e2, hq, h1, hL, h2, h3⟩, st⟩ | ⟨q, vm₁, ⟨U', l2, c2, s2⟩, hW₁, X', ⟨g', mk, t, L, E, ce, e1, e2, hq, hce, hcv, hcl, h1, hL, h2, h3⟩, st⟩
  · dsimp only [Pt.U, Pt.locs, Pt.cells, Pt.slots] at X' e1 e2 h1 h2 h3 st
    subst h1; subst h2; subst h3
    exact Or.inl ⟨v, (T.setVm vm₁).calling g' mk As.toArray, t, U', L, hT, X', hL, e1, e2, hq, st⟩
  · dsimp only [Pt.U, Pt.locs, Pt.cells, Pt.slots] at X' e1 e2 h1 h2 h3 st hcl
    subst h1; subst h2; subst h3
    exact Or.inr ⟨q, (T.setVm vm₁).calling g' mk As.toArray, t, U', L, E, ce, hT, X', hL, e1, e2, hq, hce, hcv, vx_cls hW₁ hcl, st⟩
end
end VXH
theorem vx_ofWH {l : Launch} {y : MethodName} {ws ws' : List Cond} {rm : Room} {Pc : Array Value → State → Prop} {Qc : Array Value → State → Outcome → State → Prop} {XC : String → State → State → Prop} {mc ms : Nat} {free : Addr → Prop} {cc : ByteArray} {maxL : Nat} {ret : Option FieldType} {hh : List (Nat × Nat × Nat × Nat)}
    (hy : plainName y.cls = true) (hw : ws = Cond.codeWith y cc maxL ret hh :: ws')
    (body : ∀ p e s m args below meth c s₁, BodyLoose p l y (headSpec ws rm) cc maxL ret e s m args below meth c s₁ → c.maxLocals = maxL → Pc args s →
      W p l e (headSpec ws rm).room s m args below meth c s.heap [] 0 0 (vx_MQ below Qc XC args s mc ms free) (entryFrame m args maxL)) : vx_Met l y ws rm Pc Qc XC mc ms free := by
  refine MetFree.of_bodyS (code := cc) (maxLocals := maxL) (ret := ret) hy ?_ ?_
  · intro args s m h hn
    obtain ⟨m9, meth, c, hn9, h1, h2, h3, h4, -, h5, h6, -⟩ := Cond.codeWith_spec (atoms_spec (ws := ws) h _ (by rw [hw]; exact List.mem_cons_self))
    cases hn.symm.trans hn9
    exact ⟨meth, c, h1, h2, h3, h4, h5, h6⟩
  · intro p e s m args below meth c s₁ B hml hP _
    have hh0 : s₁.heap = s.heap := by rw [B.state]; rfl
    obtain ⟨t, a1, o, b1, b2, b3⟩ := body p e s m args below meth c s₁ B hml hP s₁ hh0 (Stand.of_body B)
    exact ⟨t, o, a1, b1, b2, b3⟩
/-! ===== END ===== -/

/-! ===== BEGIN printed: names, fields, word lists, decode rows ===== -/
def RX0 : String := "ScoreParts$History"
def TX0 : u_T := fun k => match k with
  | 0 => ("ScoreParts$History", "kept", "[LScoreParts$Score;", true)
  | 1 => ("ScoreParts$History", "next", "I", false)
  | _ => ("ScoreParts$History", "count", "I", false)
def tyX0 : Nat → FieldType := fun k => match k with
  | 0 => .array (.object "ScoreParts$Score")
  | 1 => .int
  | _ => .int
abbrev wsX00 : List Cond := u_ws RX0 TX0 3
theorem nmX0 : ∀ a, a < 3 → ∀ b, b < 3 → a ≠ b → (TX0 a).2.1 ≠ (TX0 b).2.1 := by decide +kernel
theorem tyX0_ok : ∀ k, k < 3 → parseFieldDescriptor (TX0 k).2.2.1 = some (tyX0 k) := by decide +kernel
abbrev cX0_init : ByteArray := prog_2_method_1_code
def yX0_init : MethodName := ⟨RX0, "<init>", "()V"⟩
abbrev cX0_keep : ByteArray := prog_2_method_2_code
def yX0_keep : MethodName := ⟨RX0, "keep", "(LScoreParts$Score;)V"⟩
abbrev cX0_bringBack : ByteArray := prog_2_method_3_code
def yX0_bringBack : MethodName := ⟨RX0, "bringBack", "(LScoreParts$Score;)V"⟩
abbrev cX0_forget : ByteArray := prog_2_method_4_code
def yX0_forget : MethodName := ⟨RX0, "forget", "()V"⟩
def RX1 : String := "ScoreParts$Noted"
def TX1 : u_T := fun k => match k with
  | 0 => ("ScoreParts$Noted", "count", "I", true)
  | 1 => ("ScoreParts$Noted", "ids", "[I", true)
  | 2 => ("ScoreParts$Noted", "labels", "[I", true)
  | 3 => ("ScoreParts$Noted", "letters", "[I", true)
  | 4 => ("ScoreParts$Noted", "beatCounts", "[I", true)
  | _ => ("ScoreParts$Noted", "contents", "[I", true)
def tyX1 : Nat → FieldType := fun k => match k with
  | 0 => .int
  | 1 => .array .int
  | 2 => .array .int
  | 3 => .array .int
  | 4 => .array .int
  | _ => .array .int
abbrev wsX10 : List Cond := u_ws RX1 TX1 6
theorem nmX1 : ∀ a, a < 6 → ∀ b, b < 6 → a ≠ b → (TX1 a).2.1 ≠ (TX1 b).2.1 := by decide +kernel
theorem tyX1_ok : ∀ k, k < 6 → parseFieldDescriptor (TX1 k).2.2.1 = some (tyX1 k) := by decide +kernel
abbrev cX1_init : ByteArray := prog_3_method_1_code
def yX1_init : MethodName := ⟨RX1, "<init>", "(LScoreParts$View;I)V"⟩
def RX2 : String := "ScoreParts$PartWriter"
def TX2 : u_T := fun k => match k with
  | 0 => ("ScoreParts$PartWriter", "bytes", "[B", true)
  | _ => ("ScoreParts$PartWriter", "length", "I", false)
def tyX2 : Nat → FieldType := fun k => match k with
  | 0 => .array .byte
  | _ => .int
abbrev wsX20 : List Cond := u_ws RX2 TX2 2
theorem nmX2 : ∀ a, a < 2 → ∀ b, b < 2 → a ≠ b → (TX2 a).2.1 ≠ (TX2 b).2.1 := by decide +kernel
theorem tyX2_ok : ∀ k, k < 2 → parseFieldDescriptor (TX2 k).2.2.1 = some (tyX2 k) := by decide +kernel
abbrev cX2_init : ByteArray := prog_4_method_1_code
def yX2_init : MethodName := ⟨RX2, "<init>", "()V"⟩
def RX3 : String := "ScoreParts$Proofreader"
def TX3 : u_T := fun k => match k with
  | 0 => ("ScoreParts$Proofreader", "id", "I", false)
  | 1 => ("ScoreParts$Proofreader", "kind", "I", false)
  | _ => ("ScoreParts$Proofreader", "noted", "I", false)
def tyX3 : Nat → FieldType := fun k => match k with
  | 0 => .int
  | 1 => .int
  | _ => .int
abbrev wsX30 : List Cond := u_ws RX3 TX3 3
theorem nmX3 : ∀ a, a < 3 → ∀ b, b < 3 → a ≠ b → (TX3 a).2.1 ≠ (TX3 b).2.1 := by decide +kernel
theorem tyX3_ok : ∀ k, k < 3 → parseFieldDescriptor (TX3 k).2.2.1 = some (tyX3 k) := by decide +kernel
abbrev cX3_init : ByteArray := prog_5_method_1_code
def yX3_init : MethodName := ⟨RX3, "<init>", "()V"⟩
abbrev cX3_walk : ByteArray := prog_5_method_2_code
def yX3_walk : MethodName := ⟨RX3, "walk", "(LScoreParts$View;ILScoreParts$Noted;I)I"⟩
abbrev cX3_compare : ByteArray := prog_5_method_3_code
def yX3_compare : MethodName := ⟨RX3, "compare", "(LScoreParts$View;IILScoreParts$Noted;I)I"⟩
abbrev cX3_notedFor : ByteArray := prog_5_method_4_code
def yX3_notedFor : MethodName := ⟨RX3, "notedFor", "(ILScoreParts$Noted;I)I"⟩
def RX4 : String := "ScoreParts$Score"
def TX4 : u_T := fun k => match k with
  | 0 => ("ScoreParts$Score", "barCount", "I", false)
  | 1 => ("ScoreParts$Score", "partCount", "I", false)
  | 2 => ("ScoreParts$Score", "markCount", "I", false)
  | 3 => ("ScoreParts$Score", "ids", "[I", true)
  | 4 => ("ScoreParts$Score", "beatCounts", "[I", true)
  | 5 => ("ScoreParts$Score", "inserted", "[I", true)
  | 6 => ("ScoreParts$Score", "texts", "[I", true)
  | 7 => ("ScoreParts$Score", "doubles", "[I", true)
  | 8 => ("ScoreParts$Score", "contents", "[I", true)
  | 9 => ("ScoreParts$Score", "markedBars", "[I", true)
  | 10 => ("ScoreParts$Score", "cutFirsts", "[I", true)
  | 11 => ("ScoreParts$Score", "cutLasts", "[I", true)
  | _ => ("ScoreParts$Score", "prints", "[LScoreParts$Noted;", true)
def tyX4 : Nat → FieldType := fun k => match k with
  | 0 => .int
  | 1 => .int
  | 2 => .int
  | 3 => .array .int
  | 4 => .array .int
  | 5 => .array .int
  | 6 => .array .int
  | 7 => .array .int
  | 8 => .array .int
  | 9 => .array .int
  | 10 => .array .int
  | 11 => .array .int
  | _ => .array (.object "ScoreParts$Noted")
abbrev wsX40 : List Cond := u_ws RX4 TX4 13
theorem nmX4 : ∀ a, a < 13 → ∀ b, b < 13 → a ≠ b → (TX4 a).2.1 ≠ (TX4 b).2.1 := by decide +kernel
theorem tyX4_ok : ∀ k, k < 13 → parseFieldDescriptor (TX4 k).2.2.1 = some (tyX4 k) := by decide +kernel
abbrev cX4_init : ByteArray := prog_6_method_1_code
def yX4_init : MethodName := ⟨RX4, "<init>", "()V"⟩
abbrev cX4_clear : ByteArray := prog_6_method_2_code
def yX4_clear : MethodName := ⟨RX4, "clear", "()V"⟩
abbrev cX4_copyFrom : ByteArray := prog_6_method_3_code
def yX4_copyFrom : MethodName := ⟨RX4, "copyFrom", "(LScoreParts$Score;)V"⟩
abbrev cX4_placeOf : ByteArray := prog_6_method_4_code
def yX4_placeOf : MethodName := ⟨RX4, "placeOf", "(I)I"⟩
abbrev cX4_idAt : ByteArray := prog_6_method_5_code
def yX4_idAt : MethodName := ⟨RX4, "idAt", "(I)I"⟩
abbrev cX4_addBars : ByteArray := prog_6_method_6_code
def yX4_addBars : MethodName := ⟨RX4, "addBars", "(IIIII)V"⟩
abbrev cX4_removeBar : ByteArray := prog_6_method_7_code
def yX4_removeBar : MethodName := ⟨RX4, "removeBar", "(I)V"⟩
abbrev cX4_moveBars : ByteArray := prog_6_method_8_code
def yX4_moveBars : MethodName := ⟨RX4, "moveBars", "(II)V"⟩
abbrev cX4_contentAt : ByteArray := prog_6_method_9_code
def yX4_contentAt : MethodName := ⟨RX4, "contentAt", "(II)I"⟩
abbrev cX4_putContent : ByteArray := prog_6_method_10_code
def yX4_putContent : MethodName := ⟨RX4, "putContent", "(III)V"⟩
abbrev cX4_hasCut : ByteArray := prog_6_method_11_code
def yX4_hasCut : MethodName := ⟨RX4, "hasCut", "(I)Z"⟩
abbrev cX4_firstFreeCut : ByteArray := prog_6_method_12_code
def yX4_firstFreeCut : MethodName := ⟨RX4, "firstFreeCut", "()I"⟩
abbrev cX4_setCut : ByteArray := prog_6_method_13_code
def yX4_setCut : MethodName := ⟨RX4, "setCut", "(III)V"⟩
abbrev cX4_isEndOfCut : ByteArray := prog_6_method_14_code
def yX4_isEndOfCut : MethodName := ⟨RX4, "isEndOfCut", "(I)Z"⟩
abbrev cX4_hasMark : ByteArray := prog_6_method_15_code
def yX4_hasMark : MethodName := ⟨RX4, "hasMark", "(I)Z"⟩
abbrev cX4_setMark : ByteArray := prog_6_method_16_code
def yX4_setMark : MethodName := ⟨RX4, "setMark", "(II)V"⟩
def RX5 : String := "ScoreParts$TextReader"
def TX5 : u_T := fun k => match k with
  | 0 => ("ScoreParts$TextReader", "draft", "LScoreParts$Score;", true)
  | 1 => ("ScoreParts$TextReader", "code", "I", false)
  | 2 => ("ScoreParts$TextReader", "position", "I", false)
  | 3 => ("ScoreParts$TextReader", "inputLength", "I", false)
  | 4 => ("ScoreParts$TextReader", "text", "[B", true)
  | 5 => ("ScoreParts$TextReader", "textLength", "I", false)
  | 6 => ("ScoreParts$TextReader", "cutCount", "I", false)
  | 7 => ("ScoreParts$TextReader", "names", "[I", true)
  | 8 => ("ScoreParts$TextReader", "tokenKind", "I", false)
  | 9 => ("ScoreParts$TextReader", "tokenStart", "I", false)
  | 10 => ("ScoreParts$TextReader", "tokenEnd", "I", false)
  | _ => ("ScoreParts$TextReader", "number", "I", false)
def tyX5 : Nat → FieldType := fun k => match k with
  | 0 => .object "ScoreParts$Score"
  | 1 => .int
  | 2 => .int
  | 3 => .int
  | 4 => .array .byte
  | 5 => .int
  | 6 => .int
  | 7 => .array .int
  | 8 => .int
  | 9 => .int
  | 10 => .int
  | _ => .int
abbrev wsX50 : List Cond := u_ws RX5 TX5 12
theorem nmX5 : ∀ a, a < 12 → ∀ b, b < 12 → a ≠ b → (TX5 a).2.1 ≠ (TX5 b).2.1 := by decide +kernel
theorem tyX5_ok : ∀ k, k < 12 → parseFieldDescriptor (TX5 k).2.2.1 = some (tyX5 k) := by decide +kernel
abbrev cX5_init : ByteArray := prog_7_method_1_code
def yX5_init : MethodName := ⟨RX5, "<init>", "()V"⟩
abbrev cX5_appendBytes : ByteArray := prog_7_method_2_code
def yX5_appendBytes : MethodName := ⟨RX5, "appendBytes", "(I)V"⟩
abbrev cX5_readScore : ByteArray := prog_7_method_3_code
def yX5_readScore : MethodName := ⟨RX5, "readScore", "(I)Z"⟩
abbrev cX5_fail : ByteArray := prog_7_method_4_code
def yX5_fail : MethodName := ⟨RX5, "fail", "(I)Z"⟩
abbrev cX5_readStatement : ByteArray := prog_7_method_5_code
def yX5_readStatement : MethodName := ⟨RX5, "readStatement", "()Z"⟩
abbrev cX5_readSemicolon : ByteArray := prog_7_method_6_code
def yX5_readSemicolon : MethodName := ⟨RX5, "readSemicolon", "()Z"⟩
abbrev cX5_readBars : ByteArray := prog_7_method_7_code
def yX5_readBars : MethodName := ⟨RX5, "readBars", "()Z"⟩
abbrev cX5_readMark : ByteArray := prog_7_method_8_code
def yX5_readMark : MethodName := ⟨RX5, "readMark", "()Z"⟩
abbrev cX5_readFlag : ByteArray := prog_7_method_9_code
def yX5_readFlag : MethodName := ⟨RX5, "readFlag", "([I)Z"⟩
abbrev cX5_readCut : ByteArray := prog_7_method_10_code
def yX5_readCut : MethodName := ⟨RX5, "readCut", "()Z"⟩
abbrev cX5_readPart : ByteArray := prog_7_method_11_code
def yX5_readPart : MethodName := ⟨RX5, "readPart", "()Z"⟩
abbrev cX5_readGroup : ByteArray := prog_7_method_12_code
def yX5_readGroup : MethodName := ⟨RX5, "readGroup", "(I)Z"⟩
abbrev cX5_contentInToken : ByteArray := prog_7_method_13_code
def yX5_contentInToken : MethodName := ⟨RX5, "contentInToken", "()I"⟩
abbrev cX5_isNumberUpTo : ByteArray := prog_7_method_14_code
def yX5_isNumberUpTo : MethodName := ⟨RX5, "isNumberUpTo", "(I)Z"⟩
abbrev cX5_isWord : ByteArray := prog_7_method_15_code
def yX5_isWord : MethodName := ⟨RX5, "isWord", "(Ljava/lang/String;)Z"⟩
abbrev cX5_nameInToken : ByteArray := prog_7_method_16_code
def yX5_nameInToken : MethodName := ⟨RX5, "nameInToken", "()I"⟩
abbrev cX5_nextToken : ByteArray := prog_7_method_17_code
def yX5_nextToken : MethodName := ⟨RX5, "nextToken", "()V"⟩
abbrev cX5_takeWord : ByteArray := prog_7_method_18_code
def yX5_takeWord : MethodName := ⟨RX5, "takeWord", "()V"⟩
abbrev cX5_takeNumber : ByteArray := prog_7_method_19_code
def yX5_takeNumber : MethodName := ⟨RX5, "takeNumber", "()V"⟩
abbrev cX5_isSpace : ByteArray := prog_7_method_20_code
def yX5_isSpace : MethodName := ⟨RX5, "isSpace", "(B)Z"⟩
abbrev cX5_isLetter : ByteArray := prog_7_method_21_code
def yX5_isLetter : MethodName := ⟨RX5, "isLetter", "(B)Z"⟩
abbrev cX5_isDigit : ByteArray := prog_7_method_22_code
def yX5_isDigit : MethodName := ⟨RX5, "isDigit", "(B)Z"⟩
def RX6 : String := "ScoreParts$View"
def TX6 : u_T := fun k => match k with
  | 0 => ("ScoreParts$View", "score", "LScoreParts$Score;", true)
  | 1 => ("ScoreParts$View", "playedCount", "I", false)
  | 2 => ("ScoreParts$View", "playedPlaces", "[I", true)
  | 3 => ("ScoreParts$View", "playedBefore", "[I", true)
  | 4 => ("ScoreParts$View", "labels", "[I", true)
  | 5 => ("ScoreParts$View", "covers", "[I", true)
  | 6 => ("ScoreParts$View", "sitting", "[I", true)
  | 7 => ("ScoreParts$View", "letters", "[I", true)
  | 8 => ("ScoreParts$View", "reasons", "[I", true)
  | _ => ("ScoreParts$View", "placesById", "[I", true)
def tyX6 : Nat → FieldType := fun k => match k with
  | 0 => .object "ScoreParts$Score"
  | 1 => .int
  | 2 => .array .int
  | 3 => .array .int
  | 4 => .array .int
  | 5 => .array .int
  | 6 => .array .int
  | 7 => .array .int
  | 8 => .array .int
  | _ => .array .int
abbrev wsX60 : List Cond := u_ws RX6 TX6 10
theorem nmX6 : ∀ a, a < 10 → ∀ b, b < 10 → a ≠ b → (TX6 a).2.1 ≠ (TX6 b).2.1 := by decide +kernel
theorem tyX6_ok : ∀ k, k < 10 → parseFieldDescriptor (TX6 k).2.2.1 = some (tyX6 k) := by decide +kernel
abbrev cX6_init : ByteArray := prog_8_method_1_code
def yX6_init : MethodName := ⟨RX6, "<init>", "()V"⟩
abbrev cX6_refresh : ByteArray := prog_8_method_2_code
def yX6_refresh : MethodName := ⟨RX6, "refresh", "()V"⟩
abbrev cX6_findLabels : ByteArray := prog_8_method_3_code
def yX6_findLabels : MethodName := ⟨RX6, "findLabels", "()V"⟩
abbrev cX6_countCovers : ByteArray := prog_8_method_4_code
def yX6_countCovers : MethodName := ⟨RX6, "countCovers", "()V"⟩
abbrev cX6_listPlayed : ByteArray := prog_8_method_5_code
def yX6_listPlayed : MethodName := ⟨RX6, "listPlayed", "()V"⟩
abbrev cX6_seatMarks : ByteArray := prog_8_method_6_code
def yX6_seatMarks : MethodName := ⟨RX6, "seatMarks", "()V"⟩
abbrev cX6_showLetters : ByteArray := prog_8_method_7_code
def yX6_showLetters : MethodName := ⟨RX6, "showLetters", "()V"⟩
abbrev cX6_findReasons : ByteArray := prog_8_method_8_code
def yX6_findReasons : MethodName := ⟨RX6, "findReasons", "()V"⟩
abbrev cX6_reasonBetween : ByteArray := prog_8_method_9_code
def yX6_reasonBetween : MethodName := ⟨RX6, "reasonBetween", "(II)I"⟩
abbrev cX6_sortById : ByteArray := prog_8_method_10_code
def yX6_sortById : MethodName := ⟨RX6, "sortById", "()V"⟩
abbrev cX6_isPlayed : ByteArray := prog_8_method_11_code
def yX6_isPlayed : MethodName := ⟨RX6, "isPlayed", "(I)Z"⟩
abbrev cX6_firstPlayedFrom : ByteArray := prog_8_method_12_code
def yX6_firstPlayedFrom : MethodName := ⟨RX6, "firstPlayedFrom", "(I)I"⟩
abbrev cX6_placeShown : ByteArray := prog_8_method_13_code
def yX6_placeShown : MethodName := ⟨RX6, "placeShown", "(I)I"⟩
abbrev cX6_placeOfLetter : ByteArray := prog_8_method_14_code
def yX6_placeOfLetter : MethodName := ⟨RX6, "placeOfLetter", "(I)I"⟩
abbrev cX6_sumBeats : ByteArray := prog_8_method_16_code
def yX6_sumBeats : MethodName := ⟨RX6, "sumBeats", "(II)I"⟩
abbrev cX6_startsItem : ByteArray := prog_8_method_17_code
def yX6_startsItem : MethodName := ⟨RX6, "startsItem", "(II)Z"⟩
abbrev cX6_countItems : ByteArray := prog_8_method_18_code
def yX6_countItems : MethodName := ⟨RX6, "countItems", "(II)I"⟩
abbrev cX6_startOfItem : ByteArray := prog_8_method_19_code
def yX6_startOfItem : MethodName := ⟨RX6, "startOfItem", "(II)I"⟩
abbrev cX6_endOfItem : ByteArray := prog_8_method_20_code
def yX6_endOfItem : MethodName := ⟨RX6, "endOfItem", "(II)I"⟩
abbrev cX6_longestRestOf : ByteArray := prog_8_method_21_code
def yX6_longestRestOf : MethodName := ⟨RX6, "longestRestOf", "(I)I"⟩
def RX7 : String := "ScoreParts"
def TX7 : u_T := fun k => match k with
  | 0 => ("ScoreParts", "reader", "LScoreParts$TextReader;", true)
  | 1 => ("ScoreParts", "view", "LScoreParts$View;", true)
  | 2 => ("ScoreParts", "score", "LScoreParts$Score;", true)
  | 3 => ("ScoreParts", "proofreader", "LScoreParts$Proofreader;", true)
  | 4 => ("ScoreParts", "history", "LScoreParts$History;", true)
  | 5 => ("ScoreParts", "writer", "LScoreParts$PartWriter;", true)
  | _ => ("ScoreParts", "nextId", "I", false)
def tyX7 : Nat → FieldType := fun k => match k with
  | 0 => .object "ScoreParts$TextReader"
  | 1 => .object "ScoreParts$View"
  | 2 => .object "ScoreParts$Score"
  | 3 => .object "ScoreParts$Proofreader"
  | 4 => .object "ScoreParts$History"
  | 5 => .object "ScoreParts$PartWriter"
  | _ => .int
abbrev wsX70 : List Cond := u_ws RX7 TX7 7
theorem nmX7 : ∀ a, a < 7 → ∀ b, b < 7 → a ≠ b → (TX7 a).2.1 ≠ (TX7 b).2.1 := by decide +kernel
theorem tyX7_ok : ∀ k, k < 7 → parseFieldDescriptor (TX7 k).2.2.1 = some (tyX7 k) := by decide +kernel
abbrev cX7_init : ByteArray := prog_1_method_1_code
def yX7_init : MethodName := ⟨RX7, "<init>", "()V"⟩
abbrev cX7_feed : ByteArray := prog_1_method_2_code
def yX7_feed : MethodName := ⟨RX7, "feed", "(IIIII)I"⟩
abbrev cX7_load : ByteArray := prog_1_method_3_code
def yX7_load : MethodName := ⟨RX7, "load", "(I)I"⟩
abbrev cX7_bars : ByteArray := prog_1_method_6_code
def yX7_bars : MethodName := ⟨RX7, "bars", "()I"⟩
abbrev cX7_barAt : ByteArray := prog_1_method_7_code
def yX7_barAt : MethodName := ⟨RX7, "barAt", "(I)I"⟩
abbrev cX7_bar : ByteArray := prog_1_method_8_code
def yX7_bar : MethodName := ⟨RX7, "bar", "(II)I"⟩
abbrev cX7_labelled : ByteArray := prog_1_method_9_code
def yX7_labelled : MethodName := ⟨RX7, "labelled", "(I)I"⟩
abbrev cX7_played : ByteArray := prog_1_method_10_code
def yX7_played : MethodName := ⟨RX7, "played", "()I"⟩
abbrev cX7_beats : ByteArray := prog_1_method_11_code
def yX7_beats : MethodName := ⟨RX7, "beats", "()I"⟩
abbrev cX7_cuts : ByteArray := prog_1_method_12_code
def yX7_cuts : MethodName := ⟨RX7, "cuts", "()I"⟩
abbrev cX7_marks : ByteArray := prog_1_method_15_code
def yX7_marks : MethodName := ⟨RX7, "marks", "()I"⟩
abbrev cX7_mark : ByteArray := prog_1_method_16_code
def yX7_mark : MethodName := ⟨RX7, "mark", "(II)I"⟩
abbrev cX7_from : ByteArray := prog_1_method_17_code
def yX7_from : MethodName := ⟨RX7, "from", "(II)I"⟩
abbrev cX7_called : ByteArray := prog_1_method_18_code
def yX7_called : MethodName := ⟨RX7, "called", "(I)I"⟩
abbrev cX7_parts : ByteArray := prog_1_method_19_code
def yX7_parts : MethodName := ⟨RX7, "parts", "()I"⟩
abbrev cX7_content : ByteArray := prog_1_method_20_code
def yX7_content : MethodName := ⟨RX7, "content", "(II)I"⟩
abbrev cX7_reason : ByteArray := prog_1_method_21_code
def yX7_reason : MethodName := ⟨RX7, "reason", "(I)I"⟩
abbrev cX7_items : ByteArray := prog_1_method_22_code
def yX7_items : MethodName := ⟨RX7, "items", "(I)I"⟩
abbrev cX7_item : ByteArray := prog_1_method_23_code
def yX7_item : MethodName := ⟨RX7, "item", "(III)I"⟩
abbrev cX7_itemOf : ByteArray := prog_1_method_24_code
def yX7_itemOf : MethodName := ⟨RX7, "itemOf", "(II)I"⟩
abbrev cX7_longestRest : ByteArray := prog_1_method_25_code
def yX7_longestRest : MethodName := ⟨RX7, "longestRest", "(I)I"⟩
abbrev cX7_isPrinted : ByteArray := prog_1_method_28_code
def yX7_isPrinted : MethodName := ⟨RX7, "isPrinted", "(I)Z"⟩
abbrev cX7_errata : ByteArray := prog_1_method_29_code
def yX7_errata : MethodName := ⟨RX7, "errata", "(I)I"⟩
abbrev cX7_erratum : ByteArray := prog_1_method_30_code
def yX7_erratum : MethodName := ⟨RX7, "erratum", "(III)I"⟩
abbrev cX7_insert : ByteArray := prog_1_method_32_code
def yX7_insert : MethodName := ⟨RX7, "insert", "(III)I"⟩
abbrev cX7_erase : ByteArray := prog_1_method_33_code
def yX7_erase : MethodName := ⟨RX7, "erase", "(I)I"⟩
abbrev cX7_makeCut : ByteArray := prog_1_method_34_code
def yX7_makeCut : MethodName := ⟨RX7, "makeCut", "(II)I"⟩
abbrev cX7_openCut : ByteArray := prog_1_method_35_code
def yX7_openCut : MethodName := ⟨RX7, "openCut", "(I)I"⟩
abbrev cX7_putMark : ByteArray := prog_1_method_36_code
def yX7_putMark : MethodName := ⟨RX7, "putMark", "(II)I"⟩
abbrev cX7_removeMark : ByteArray := prog_1_method_37_code
def yX7_removeMark : MethodName := ⟨RX7, "removeMark", "(I)I"⟩
abbrev cX7_reletter : ByteArray := prog_1_method_38_code
def yX7_reletter : MethodName := ⟨RX7, "reletter", "()I"⟩
abbrev cX7_renumber : ByteArray := prog_1_method_39_code
def yX7_renumber : MethodName := ⟨RX7, "renumber", "()I"⟩
abbrev cX7_setBar : ByteArray := prog_1_method_40_code
def yX7_setBar : MethodName := ⟨RX7, "setBar", "(III)I"⟩
abbrev cX7_setContent : ByteArray := prog_1_method_41_code
def yX7_setContent : MethodName := ⟨RX7, "setContent", "(III)I"⟩
abbrev cX7_print : ByteArray := prog_1_method_42_code
def yX7_print : MethodName := ⟨RX7, "print", "(I)I"⟩
abbrev cX7_undo : ByteArray := prog_1_method_43_code
def yX7_undo : MethodName := ⟨RX7, "undo", "()I"⟩
abbrev cX7_undoCount : ByteArray := prog_1_method_44_code
def yX7_undoCount : MethodName := ⟨RX7, "undoCount", "()I"⟩
abbrev cX7_requirePlace : ByteArray := prog_1_method_47_code
def yX7_requirePlace : MethodName := ⟨RX7, "requirePlace", "(I)I"⟩
abbrev cX7_requirePlayedIndex : ByteArray := prog_1_method_48_code
def yX7_requirePlayedIndex : MethodName := ⟨RX7, "requirePlayedIndex", "(I)I"⟩
abbrev cX7_requireCut : ByteArray := prog_1_method_49_code
def yX7_requireCut : MethodName := ⟨RX7, "requireCut", "(I)V"⟩
abbrev cX7_requireMark : ByteArray := prog_1_method_50_code
def yX7_requireMark : MethodName := ⟨RX7, "requireMark", "(I)V"⟩
abbrev cX7_requirePart : ByteArray := prog_1_method_51_code
def yX7_requirePart : MethodName := ⟨RX7, "requirePart", "(I)V"⟩
abbrev cX7_requirePrint : ByteArray := prog_1_method_52_code
def yX7_requirePrint : MethodName := ⟨RX7, "requirePrint", "(I)LScoreParts$Noted;"⟩
def RX8 : String := "ScorePartsModel"
def TX8 : u_T := fun k => match k with
  | _ => ("", "", "", false)
def tyX8 : Nat → FieldType := fun k => match k with
  | _ => .int
abbrev wsX80 : List Cond := u_ws RX8 TX8 0
theorem nmX8 : ∀ a, a < 0 → ∀ b, b < 0 → a ≠ b → (TX8 a).2.1 ≠ (TX8 b).2.1 := by decide +kernel
theorem tyX8_ok : ∀ k, k < 0 → parseFieldDescriptor (TX8 k).2.2.1 = some (tyX8 k) := by decide +kernel
def RJx145de : String := "java/io/Serializable"
def TJx145de : u_T := fun k => match k with
  | _ => ("", "", "", false)
def tyJx145de : Nat → FieldType := fun k => match k with
  | _ => .int
abbrev wsJx145de0 : List Cond := u_ws RJx145de TJx145de 0
theorem nmJx145de : ∀ a, a < 0 → ∀ b, b < 0 → a ≠ b → (TJx145de a).2.1 ≠ (TJx145de b).2.1 := by decide +kernel
theorem tyJx145de_ok : ∀ k, k < 0 → parseFieldDescriptor (TJx145de k).2.2.1 = some (tyJx145de k) := by decide +kernel
def RJ5 : String := "java/lang/AbstractStringBuilder"
def TJ5 : u_T := fun k => match k with
  | _ => ("", "", "", false)
def tyJ5 : Nat → FieldType := fun k => match k with
  | _ => .int
abbrev wsJ50 : List Cond := u_ws RJ5 TJ5 0
theorem nmJ5 : ∀ a, a < 0 → ∀ b, b < 0 → a ≠ b → (TJ5 a).2.1 ≠ (TJ5 b).2.1 := by decide +kernel
theorem tyJ5_ok : ∀ k, k < 0 → parseFieldDescriptor (TJ5 k).2.2.1 = some (tyJ5 k) := by decide +kernel
abbrev cJ5_init_d00df : ByteArray := prog_12_method_2_code
def yJ5_init_d00df : MethodName := ⟨RJ5, "<init>", "(I)V"⟩
abbrev cJ5_init_a7421 : ByteArray := prog_12_method_3_code
def yJ5_init_a7421 : MethodName := ⟨RJ5, "<init>", "(Ljava/lang/String;)V"⟩
abbrev cJ5_length_8abf5 : ByteArray := prog_12_method_6_code
def yJ5_length_8abf5 : MethodName := ⟨RJ5, "length", "()I"⟩
abbrev cJ5_ensureCapacityInternal_d00df : ByteArray := prog_12_method_9_code
def yJ5_ensureCapacityInternal_d00df : MethodName := ⟨RJ5, "ensureCapacityInternal", "(I)V"⟩
abbrev cJ5_newCapacity_0f7a4 : ByteArray := prog_12_method_10_code
def yJ5_newCapacity_0f7a4 : MethodName := ⟨RJ5, "newCapacity", "(I)I"⟩
abbrev cJ5_inflate_da8c8 : ByteArray := prog_12_method_11_code
def yJ5_inflate_da8c8 : MethodName := ⟨RJ5, "inflate", "()V"⟩
abbrev cJ5_append_cf1ce : ByteArray := prog_12_method_22_code
def yJ5_append_cf1ce : MethodName := ⟨RJ5, "append", "(Ljava/lang/String;)Ljava/lang/AbstractStringBuilder;"⟩
abbrev cJ5_appendNull_278bc : ByteArray := prog_12_method_26_code
def yJ5_appendNull_278bc : MethodName := ⟨RJ5, "appendNull", "()Ljava/lang/AbstractStringBuilder;"⟩
abbrev cJ5_append_3fe6f : ByteArray := prog_12_method_31_code
def yJ5_append_3fe6f : MethodName := ⟨RJ5, "append", "(C)Ljava/lang/AbstractStringBuilder;"⟩
abbrev cJ5_append_c97b9 : ByteArray := prog_12_method_32_code
def yJ5_append_c97b9 : MethodName := ⟨RJ5, "append", "(I)Ljava/lang/AbstractStringBuilder;"⟩
abbrev cJ5_getValue_6d5f1 : ByteArray := prog_12_method_64_code
def yJ5_getValue_6d5f1 : MethodName := ⟨RJ5, "getValue", "()[B"⟩
abbrev cJ5_isLatin1_aae02 : ByteArray := prog_12_method_68_code
def yJ5_isLatin1_aae02 : MethodName := ⟨RJ5, "isLatin1", "()Z"⟩
abbrev cJ5_inflateIfNeededFor_a7421 : ByteArray := prog_12_method_71_code
def yJ5_inflateIfNeededFor_a7421 : MethodName := ⟨RJ5, "inflateIfNeededFor", "(Ljava/lang/String;)V"⟩
abbrev cJ5_putStringAt_47b60 : ByteArray := prog_12_method_73_code
def yJ5_putStringAt_47b60 : MethodName := ⟨RJ5, "putStringAt", "(ILjava/lang/String;)V"⟩
def RJx2cfe8 : String := "java/lang/Appendable"
def TJx2cfe8 : u_T := fun k => match k with
  | _ => ("", "", "", false)
def tyJx2cfe8 : Nat → FieldType := fun k => match k with
  | _ => .int
abbrev wsJx2cfe80 : List Cond := u_ws RJx2cfe8 TJx2cfe8 0
theorem nmJx2cfe8 : ∀ a, a < 0 → ∀ b, b < 0 → a ≠ b → (TJx2cfe8 a).2.1 ≠ (TJx2cfe8 b).2.1 := by decide +kernel
theorem tyJx2cfe8_ok : ∀ k, k < 0 → parseFieldDescriptor (TJx2cfe8 k).2.2.1 = some (tyJx2cfe8 k) := by decide +kernel
def RJx9f9b0 : String := "java/lang/CharSequence"
def TJx9f9b0 : u_T := fun k => match k with
  | _ => ("", "", "", false)
def tyJx9f9b0 : Nat → FieldType := fun k => match k with
  | _ => .int
abbrev wsJx9f9b00 : List Cond := u_ws RJx9f9b0 TJx9f9b0 0
theorem nmJx9f9b0 : ∀ a, a < 0 → ∀ b, b < 0 → a ≠ b → (TJx9f9b0 a).2.1 ≠ (TJx9f9b0 b).2.1 := by decide +kernel
theorem tyJx9f9b0_ok : ∀ k, k < 0 → parseFieldDescriptor (TJx9f9b0 k).2.2.1 = some (tyJx9f9b0 k) := by decide +kernel
def RJx8e188 : String := "java/lang/Cloneable"
def TJx8e188 : u_T := fun k => match k with
  | _ => ("", "", "", false)
def tyJx8e188 : Nat → FieldType := fun k => match k with
  | _ => .int
abbrev wsJx8e1880 : List Cond := u_ws RJx8e188 TJx8e188 0
theorem nmJx8e188 : ∀ a, a < 0 → ∀ b, b < 0 → a ≠ b → (TJx8e188 a).2.1 ≠ (TJx8e188 b).2.1 := by decide +kernel
theorem tyJx8e188_ok : ∀ k, k < 0 → parseFieldDescriptor (TJx8e188 k).2.2.1 = some (tyJx8e188 k) := by decide +kernel
def RJxb160c : String := "java/lang/Comparable"
def TJxb160c : u_T := fun k => match k with
  | _ => ("", "", "", false)
def tyJxb160c : Nat → FieldType := fun k => match k with
  | _ => .int
abbrev wsJxb160c0 : List Cond := u_ws RJxb160c TJxb160c 0
theorem nmJxb160c : ∀ a, a < 0 → ∀ b, b < 0 → a ≠ b → (TJxb160c a).2.1 ≠ (TJxb160c b).2.1 := by decide +kernel
theorem tyJxb160c_ok : ∀ k, k < 0 → parseFieldDescriptor (TJxb160c k).2.2.1 = some (tyJxb160c k) := by decide +kernel
def RJ6 : String := "java/lang/Integer"
def TJ6 : u_T := fun k => match k with
  | _ => ("", "", "", false)
def tyJ6 : Nat → FieldType := fun k => match k with
  | _ => .int
abbrev wsJ60 : List Cond := u_ws RJ6 TJ6 0
theorem nmJ6 : ∀ a, a < 0 → ∀ b, b < 0 → a ≠ b → (TJ6 a).2.1 ≠ (TJ6 b).2.1 := by decide +kernel
theorem tyJ6_ok : ∀ k, k < 0 → parseFieldDescriptor (TJ6 k).2.2.1 = some (tyJ6 k) := by decide +kernel
abbrev cJ6_getChars_ba4f3 : ByteArray := prog_21_method_12_code
def yJ6_getChars_ba4f3 : MethodName := ⟨RJ6, "getChars", "(II[B)I"⟩
abbrev cJ6_stringSize_0f7a4 : ByteArray := prog_21_method_13_code
def yJ6_stringSize_0f7a4 : MethodName := ⟨RJ6, "stringSize", "(I)I"⟩
def RJ9 : String := "java/lang/Math"
def TJ9 : u_T := fun k => match k with
  | _ => ("", "", "", false)
def tyJ9 : Nat → FieldType := fun k => match k with
  | _ => .int
abbrev wsJ90 : List Cond := u_ws RJ9 TJ9 0
theorem nmJ9 : ∀ a, a < 0 → ∀ b, b < 0 → a ≠ b → (TJ9 a).2.1 ≠ (TJ9 b).2.1 := by decide +kernel
theorem tyJ9_ok : ∀ k, k < 0 → parseFieldDescriptor (TJ9 k).2.2.1 = some (tyJ9 k) := by decide +kernel
abbrev cJ9_max_7cf53 : ByteArray := prog_22_method_65_code
def yJ9_max_7cf53 : MethodName := ⟨RJ9, "max", "(II)I"⟩
abbrev cJ9_min_7cf53 : ByteArray := prog_22_method_69_code
def yJ9_min_7cf53 : MethodName := ⟨RJ9, "min", "(II)I"⟩
def RJxd2413 : String := "java/lang/Number"
def TJxd2413 : u_T := fun k => match k with
  | _ => ("", "", "", false)
def tyJxd2413 : Nat → FieldType := fun k => match k with
  | _ => .int
abbrev wsJxd24130 : List Cond := u_ws RJxd2413 TJxd2413 0
theorem nmJxd2413 : ∀ a, a < 0 → ∀ b, b < 0 → a ≠ b → (TJxd2413 a).2.1 ≠ (TJxd2413 b).2.1 := by decide +kernel
theorem tyJxd2413_ok : ∀ k, k < 0 → parseFieldDescriptor (TJxd2413 k).2.2.1 = some (tyJxd2413 k) := by decide +kernel
def RJ0 : String := "java/lang/String"
def TJ0 : u_T := fun k => match k with
  | 0 => ("java/lang/String", "value", "[B", true)
  | 1 => ("java/lang/String", "coder", "B", true)
  | 2 => ("java/lang/String", "hash", "I", false)
  | _ => ("java/lang/String", "hashIsZero", "Z", false)
def tyJ0 : Nat → FieldType := fun k => match k with
  | 0 => .array .byte
  | 1 => .byte
  | 2 => .int
  | _ => .boolean
abbrev wsJ00 : List Cond := u_ws RJ0 TJ0 4
theorem nmJ0 : ∀ a, a < 4 → ∀ b, b < 4 → a ≠ b → (TJ0 a).2.1 ≠ (TJ0 b).2.1 := by decide +kernel
theorem tyJ0_ok : ∀ k, k < 4 → parseFieldDescriptor (TJ0 k).2.2.1 = some (tyJ0 k) := by decide +kernel
abbrev cJ0_init_81219 : ByteArray := prog_25_method_53_code
def yJ0_init_81219 : MethodName := ⟨RJ0, "<init>", "(Ljava/lang/StringBuilder;)V"⟩
abbrev cJ0_length_8abf5 : ByteArray := prog_25_method_54_code
def yJ0_length_8abf5 : MethodName := ⟨RJ0, "length", "()I"⟩
abbrev cJ0_charAt_5068e : ByteArray := prog_25_method_56_code
def yJ0_charAt_5068e : MethodName := ⟨RJ0, "charAt", "(I)C"⟩
abbrev cJ0_getBytes_840e7 : ByteArray := prog_25_method_147_code
def yJ0_getBytes_840e7 : MethodName := ⟨RJ0, "getBytes", "([BIB)V"⟩
abbrev cJ0_init_db425 : ByteArray := prog_25_method_150_code
def yJ0_init_db425 : MethodName := ⟨RJ0, "<init>", "(Ljava/lang/AbstractStringBuilder;Ljava/lang/Void;)V"⟩
abbrev cJ0_coder_7d493 : ByteArray := prog_25_method_152_code
def yJ0_coder_7d493 : MethodName := ⟨RJ0, "coder", "()B"⟩
abbrev cJ0_isLatin1_aae02 : ByteArray := prog_25_method_154_code
def yJ0_isLatin1_aae02 : MethodName := ⟨RJ0, "isLatin1", "()Z"⟩
abbrev cJ0_checkIndex_df160 : ByteArray := prog_25_method_155_code
def yJ0_checkIndex_df160 : MethodName := ⟨RJ0, "checkIndex", "(II)V"⟩
abbrev cJ0_checkBoundsOffCount_cabcc : ByteArray := prog_25_method_157_code
def yJ0_checkBoundsOffCount_cabcc : MethodName := ⟨RJ0, "checkBoundsOffCount", "(III)I"⟩
abbrev cJ0_checkBoundsBeginEnd_23922 : ByteArray := prog_25_method_158_code
def yJ0_checkBoundsBeginEnd_23922 : MethodName := ⟨RJ0, "checkBoundsBeginEnd", "(III)V"⟩
def RJ4 : String := "java/lang/StringBuilder"
def TJ4 : u_T := fun k => match k with
  | 0 => ("java/lang/AbstractStringBuilder", "value", "[B", false)
  | 1 => ("java/lang/AbstractStringBuilder", "coder", "B", false)
  | 2 => ("java/lang/AbstractStringBuilder", "maybeLatin1", "Z", false)
  | _ => ("java/lang/AbstractStringBuilder", "count", "I", false)
def tyJ4 : Nat → FieldType := fun k => match k with
  | 0 => .array .byte
  | 1 => .byte
  | 2 => .boolean
  | _ => .int
abbrev wsJ40 : List Cond := u_ws RJ4 TJ4 4
theorem nmJ4 : ∀ a, a < 4 → ∀ b, b < 4 → a ≠ b → (TJ4 a).2.1 ≠ (TJ4 b).2.1 := by decide +kernel
theorem tyJ4_ok : ∀ k, k < 4 → parseFieldDescriptor (TJ4 k).2.2.1 = some (tyJ4 k) := by decide +kernel
abbrev cJ4_init_da8c8 : ByteArray := prog_26_method_1_code
def yJ4_init_da8c8 : MethodName := ⟨RJ4, "<init>", "()V"⟩
abbrev cJ4_init_a7421 : ByteArray := prog_26_method_3_code
def yJ4_init_a7421 : MethodName := ⟨RJ4, "<init>", "(Ljava/lang/String;)V"⟩
abbrev cJ4_append_15ec4 : ByteArray := prog_26_method_7_code
def yJ4_append_15ec4 : MethodName := ⟨RJ4, "append", "(Ljava/lang/String;)Ljava/lang/StringBuilder;"⟩
abbrev cJ4_append_cf468 : ByteArray := prog_26_method_14_code
def yJ4_append_cf468 : MethodName := ⟨RJ4, "append", "(C)Ljava/lang/StringBuilder;"⟩
abbrev cJ4_append_bf812 : ByteArray := prog_26_method_15_code
def yJ4_append_bf812 : MethodName := ⟨RJ4, "append", "(I)Ljava/lang/StringBuilder;"⟩
abbrev cJ4_toString_0e30d : ByteArray := prog_26_method_42_code
def yJ4_toString_0e30d : MethodName := ⟨RJ4, "toString", "()Ljava/lang/String;"⟩
abbrev cJ4_append_cf1ce : ByteArray := prog_26_method_80_code
def yJ4_append_cf1ce : MethodName := ⟨RJ4, "append", "(Ljava/lang/String;)Ljava/lang/AbstractStringBuilder;"⟩
abbrev cJ4_length_8abf5 : ByteArray := prog_26_method_93_code
def yJ4_length_8abf5 : MethodName := ⟨RJ4, "length", "()I"⟩
def RJ1 : String := "java/lang/StringLatin1"
def TJ1 : u_T := fun k => match k with
  | _ => ("", "", "", false)
def tyJ1 : Nat → FieldType := fun k => match k with
  | _ => .int
abbrev wsJ10 : List Cond := u_ws RJ1 TJ1 0
theorem nmJ1 : ∀ a, a < 0 → ∀ b, b < 0 → a ≠ b → (TJ1 a).2.1 ≠ (TJ1 b).2.1 := by decide +kernel
theorem tyJ1_ok : ∀ k, k < 0 → parseFieldDescriptor (TJ1 k).2.2.1 = some (tyJ1 k) := by decide +kernel
abbrev cJ1_charAt_3b067 : ByteArray := prog_27_method_2_code
def yJ1_charAt_3b067 : MethodName := ⟨RJ1, "charAt", "([BI)C"⟩
abbrev cJ1_canEncode_fc78d : ByteArray := prog_27_method_3_code
def yJ1_canEncode_fc78d : MethodName := ⟨RJ1, "canEncode", "(C)Z"⟩
abbrev cJ1_inflate_0e8fd : ByteArray := prog_27_method_50_code
def yJ1_inflate_0e8fd : MethodName := ⟨RJ1, "inflate", "([BI[BII)V"⟩
def RJ2 : String := "java/lang/StringUTF16"
def TJ2 : u_T := fun k => match k with
  | _ => ("", "", "", false)
def tyJ2 : Nat → FieldType := fun k => match k with
  | _ => .int
abbrev wsJ20 : List Cond := u_ws RJ2 TJ2 0
theorem nmJ2 : ∀ a, a < 0 → ∀ b, b < 0 → a ≠ b → (TJ2 a).2.1 ≠ (TJ2 b).2.1 := by decide +kernel
theorem tyJ2_ok : ∀ k, k < 0 → parseFieldDescriptor (TJ2 k).2.2.1 = some (tyJ2 k) := by decide +kernel
abbrev cJ2_newBytesFor_77867 : ByteArray := prog_28_method_2_code
def yJ2_newBytesFor_77867 : MethodName := ⟨RJ2, "newBytesFor", "(I)[B"⟩
abbrev cJ2_newBytesLength_0f7a4 : ByteArray := prog_28_method_3_code
def yJ2_newBytesLength_0f7a4 : MethodName := ⟨RJ2, "newBytesLength", "(I)I"⟩
abbrev cJ2_putChar_b72d1 : ByteArray := prog_28_method_4_code
def yJ2_putChar_b72d1 : MethodName := ⟨RJ2, "putChar", "([BII)V"⟩
abbrev cJ2_getChar_3b067 : ByteArray := prog_28_method_5_code
def yJ2_getChar_3b067 : MethodName := ⟨RJ2, "getChar", "([BI)C"⟩
abbrev cJ2_length_9d52b : ByteArray := prog_28_method_6_code
def yJ2_length_9d52b : MethodName := ⟨RJ2, "length", "([B)I"⟩
abbrev cJ2_coderFromArrayLen_85cad : ByteArray := prog_28_method_15_code
def yJ2_coderFromArrayLen_85cad : MethodName := ⟨RJ2, "coderFromArrayLen", "([BI)B"⟩
abbrev cJ2_compress_39247 : ByteArray := prog_28_method_17_code
def yJ2_compress_39247 : MethodName := ⟨RJ2, "compress", "([BII)[B"⟩
abbrev cJ2_compress_5af95 : ByteArray := prog_28_method_22_code
def yJ2_compress_5af95 : MethodName := ⟨RJ2, "compress", "([BI[BII)I"⟩
abbrev cJ2_putCharSB_b72d1 : ByteArray := prog_28_method_71_code
def yJ2_putCharSB_b72d1 : MethodName := ⟨RJ2, "putCharSB", "([BII)V"⟩
abbrev cJ2_getChars_46870 : ByteArray := prog_28_method_77_code
def yJ2_getChars_46870 : MethodName := ⟨RJ2, "getChars", "(III[B)I"⟩
abbrev cJ2_putCharsAt_cd4e5 : ByteArray := prog_28_method_81_code
def yJ2_putCharsAt_cd4e5 : MethodName := ⟨RJ2, "putCharsAt", "([BICCCC)I"⟩
abbrev cJ2_charAt_3b067 : ByteArray := prog_28_method_83_code
def yJ2_charAt_3b067 : MethodName := ⟨RJ2, "charAt", "([BI)C"⟩
abbrev cJ2_inflate_0e8fd : ByteArray := prog_28_method_86_code
def yJ2_inflate_0e8fd : MethodName := ⟨RJ2, "inflate", "([BI[BII)V"⟩
abbrev cJ2_getChars_ba4f3 : ByteArray := prog_28_method_89_code
def yJ2_getChars_ba4f3 : MethodName := ⟨RJ2, "getChars", "(II[B)I"⟩
abbrev cJ2_checkIndex_2214a : ByteArray := prog_28_method_91_code
def yJ2_checkIndex_2214a : MethodName := ⟨RJ2, "checkIndex", "(I[B)V"⟩
abbrev cJ2_checkBoundsBeginEnd_d044e : ByteArray := prog_28_method_93_code
def yJ2_checkBoundsBeginEnd_d044e : MethodName := ⟨RJ2, "checkBoundsBeginEnd", "(II[B)V"⟩
abbrev cJ2_checkBoundsOffCount_d044e : ByteArray := prog_28_method_94_code
def yJ2_checkBoundsOffCount_d044e : MethodName := ⟨RJ2, "checkBoundsOffCount", "(II[B)V"⟩
def RJ10 : String := "java/lang/System"
def TJ10 : u_T := fun k => match k with
  | _ => ("", "", "", false)
def tyJ10 : Nat → FieldType := fun k => match k with
  | _ => .int
abbrev wsJ100 : List Cond := u_ws RJ10 TJ10 0
theorem nmJ10 : ∀ a, a < 0 → ∀ b, b < 0 → a ≠ b → (TJ10 a).2.1 ≠ (TJ10 b).2.1 := by decide +kernel
theorem tyJ10_ok : ∀ k, k < 0 → parseFieldDescriptor (TJ10 k).2.2.1 = some (tyJ10 k) := by decide +kernel
def RJxfd54e : String := "java/lang/constant/Constable"
def TJxfd54e : u_T := fun k => match k with
  | _ => ("", "", "", false)
def tyJxfd54e : Nat → FieldType := fun k => match k with
  | _ => .int
abbrev wsJxfd54e0 : List Cond := u_ws RJxfd54e TJxfd54e 0
theorem nmJxfd54e : ∀ a, a < 0 → ∀ b, b < 0 → a ≠ b → (TJxfd54e a).2.1 ≠ (TJxfd54e b).2.1 := by decide +kernel
theorem tyJxfd54e_ok : ∀ k, k < 0 → parseFieldDescriptor (TJxfd54e k).2.2.1 = some (tyJxfd54e k) := by decide +kernel
def RJx3cf43 : String := "java/lang/constant/ConstantDesc"
def TJx3cf43 : u_T := fun k => match k with
  | _ => ("", "", "", false)
def tyJx3cf43 : Nat → FieldType := fun k => match k with
  | _ => .int
abbrev wsJx3cf430 : List Cond := u_ws RJx3cf43 TJx3cf43 0
theorem nmJx3cf43 : ∀ a, a < 0 → ∀ b, b < 0 → a ≠ b → (TJx3cf43 a).2.1 ≠ (TJx3cf43 b).2.1 := by decide +kernel
theorem tyJx3cf43_ok : ∀ k, k < 0 → parseFieldDescriptor (TJx3cf43 k).2.2.1 = some (tyJx3cf43 k) := by decide +kernel
def RJ7 : String := "java/util/Arrays"
def TJ7 : u_T := fun k => match k with
  | _ => ("", "", "", false)
def tyJ7 : Nat → FieldType := fun k => match k with
  | _ => .int
abbrev wsJ70 : List Cond := u_ws RJ7 TJ7 0
theorem nmJ7 : ∀ a, a < 0 → ∀ b, b < 0 → a ≠ b → (TJ7 a).2.1 ≠ (TJ7 b).2.1 := by decide +kernel
theorem tyJ7_ok : ∀ k, k < 0 → parseFieldDescriptor (TJ7 k).2.2.1 = some (tyJ7 k) := by decide +kernel
abbrev cJ7_fill_53178 : ByteArray := prog_33_method_103_code
def yJ7_fill_53178 : MethodName := ⟨RJ7, "fill", "([II)V"⟩
abbrev cJ7_copyOf_9075b : ByteArray := prog_33_method_121_code
def yJ7_copyOf_9075b : MethodName := ⟨RJ7, "copyOf", "([BI)[B"⟩
abbrev cJ7_checkLength_df160 : ByteArray := prog_33_method_131_code
def yJ7_checkLength_df160 : MethodName := ⟨RJ7, "checkLength", "(II)V"⟩
abbrev cJ7_copyOfRange_39247 : ByteArray := prog_33_method_132_code
def yJ7_copyOfRange_39247 : MethodName := ⟨RJ7, "copyOfRange", "([BII)[B"⟩
abbrev cJ7_copyOfRangeByte_39247 : ByteArray := prog_33_method_133_code
def yJ7_copyOfRangeByte_39247 : MethodName := ⟨RJ7, "copyOfRangeByte", "([BII)[B"⟩
def RJ8 : String := "jdk/internal/util/ArraysSupport"
def TJ8 : u_T := fun k => match k with
  | _ => ("", "", "", false)
def tyJ8 : Nat → FieldType := fun k => match k with
  | _ => .int
abbrev wsJ80 : List Cond := u_ws RJ8 TJ8 0
theorem nmJ8 : ∀ a, a < 0 → ∀ b, b < 0 → a ≠ b → (TJ8 a).2.1 ≠ (TJ8 b).2.1 := by decide +kernel
theorem tyJ8_ok : ∀ k, k < 0 → parseFieldDescriptor (TJ8 k).2.2.1 = some (tyJ8 k) := by decide +kernel
abbrev cJ8_newLength_cabcc : ByteArray := prog_35_method_27_code
def yJ8_newLength_cabcc : MethodName := ⟨RJ8, "newLength", "(III)I"⟩
abbrev cJ8_hugeLength_7cf53 : ByteArray := prog_35_method_28_code
def yJ8_hugeLength_7cf53 : MethodName := ⟨RJ8, "hugeLength", "(II)I"⟩
def RJ3 : String := "jdk/internal/util/Preconditions"
def TJ3 : u_T := fun k => match k with
  | _ => ("", "", "", false)
def tyJ3 : Nat → FieldType := fun k => match k with
  | _ => .int
abbrev wsJ30 : List Cond := u_ws RJ3 TJ3 0
theorem nmJ3 : ∀ a, a < 0 → ∀ b, b < 0 → a ≠ b → (TJ3 a).2.1 ≠ (TJ3 b).2.1 := by decide +kernel
theorem tyJ3_ok : ∀ k, k < 0 → parseFieldDescriptor (TJ3 k).2.2.1 = some (tyJ3 k) := by decide +kernel
abbrev cJ3_checkIndex_8e157 : ByteArray := prog_36_method_11_code
def yJ3_checkIndex_8e157 : MethodName := ⟨RJ3, "checkIndex", "(IILjava/util/function/BiFunction;)I"⟩
abbrev cJ3_checkFromToIndex_8c36e : ByteArray := prog_36_method_12_code
def yJ3_checkFromToIndex_8c36e : MethodName := ⟨RJ3, "checkFromToIndex", "(IIILjava/util/function/BiFunction;)I"⟩
abbrev cJ3_checkFromIndexSize_8c36e : ByteArray := prog_36_method_13_code
def yJ3_checkFromIndexSize_8c36e : MethodName := ⟨RJ3, "checkFromIndexSize", "(IIILjava/util/function/BiFunction;)I"⟩
def RL : String := "ScorePartsLaw"
abbrev cL_next : ByteArray := method_2_code
def yL_next : MethodName := ⟨RL, "next", "([I)I"⟩
abbrev cL_type : ByteArray := method_3_code
def yL_type : MethodName := ⟨RL, "type", "(LScoreParts;Ljava/lang/String;)V"⟩
abbrev cL_load : ByteArray := method_4_code
def yL_load : MethodName := ⟨RL, "load", "(LScoreParts;Ljava/lang/String;)I"⟩
abbrev cL_score : ByteArray := method_5_code
def yL_score : MethodName := ⟨RL, "score", "([II)Ljava/lang/String;"⟩
abbrev cL_bar : ByteArray := method_6_code
def yL_bar : MethodName := ⟨RL, "bar", "(LScoreParts;[I)I"⟩
abbrev cL_inserted : ByteArray := method_7_code
def yL_inserted : MethodName := ⟨RL, "inserted", "(LScoreParts;III)I"⟩
abbrev cL_erased : ByteArray := method_8_code
def yL_erased : MethodName := ⟨RL, "erased", "(LScoreParts;I)I"⟩
abbrev cL_made : ByteArray := method_9_code
def yL_made : MethodName := ⟨RL, "made", "(LScoreParts;II)I"⟩
abbrev cL_opened : ByteArray := method_10_code
def yL_opened : MethodName := ⟨RL, "opened", "(LScoreParts;I)I"⟩
abbrev cL_put : ByteArray := method_11_code
def yL_put : MethodName := ⟨RL, "put", "(LScoreParts;II)I"⟩
abbrev cL_removed : ByteArray := method_12_code
def yL_removed : MethodName := ⟨RL, "removed", "(LScoreParts;I)I"⟩
abbrev cL_change : ByteArray := method_13_code
def yL_change : MethodName := ⟨RL, "change", "(LScoreParts;[I)Z"⟩
abbrev cL_from : ByteArray := method_14_code
def yL_from : MethodName := ⟨RL, "from", "(LScoreParts;II)I"⟩
abbrev cL_mark : ByteArray := method_15_code
def yL_mark : MethodName := ⟨RL, "mark", "(LScoreParts;II)I"⟩
abbrev cL_undone : ByteArray := method_16_code
def yL_undone : MethodName := ⟨RL, "undone", "(LScoreParts;)I"⟩
abbrev cL_sum : ByteArray := method_17_code
def yL_sum : MethodName := ⟨RL, "sum", "(LScoreParts;)J"⟩
abbrev cL_bars : ByteArray := method_18_code
def yL_bars : MethodName := ⟨RL, "bars", "(LScoreParts;)Z"⟩
abbrev cL_items : ByteArray := method_19_code
def yL_items : MethodName := ⟨RL, "items", "(LScoreParts;I)Z"⟩
abbrev cL_errata : ByteArray := method_20_code
def yL_errata : MethodName := ⟨RL, "errata", "(LScoreParts;I)Z"⟩
abbrev cL_law : ByteArray := code
def yL_law : MethodName := ⟨RL, "law", "([I)Z"⟩
abbrev vwCl : List vw_C := [(RX0, TX0, 3), (RX1, TX1, 6), (RX2, TX2, 2), (RX3, TX3, 3), (RX4, TX4, 13), (RX5, TX5, 12), (RX6, TX6, 10), (RX7, TX7, 7), (RJ0, TJ0, 4), (RJ4, TJ4, 4)]
end
section
/-! the tables' words, and 'selects' of AbstractStringBuilder's private methods at a StringBuilder -/
def x_pv : List MethodName := [⟨"java/lang/AbstractStringBuilder", "ensureCapacityInternal", "(I)V"⟩, ⟨"java/lang/AbstractStringBuilder", "newCapacity", "(I)I"⟩, ⟨"java/lang/AbstractStringBuilder", "putStringAt", "(ILjava/lang/String;)V"⟩, ⟨"java/lang/AbstractStringBuilder", "inflateIfNeededFor", "(Ljava/lang/String;)V"⟩]
def x_p0 : MethodName := ⟨"java/lang/AbstractStringBuilder", "isLatin1", "()Z"⟩
def x_tbl : List Cond := (x_pv.map fun y => Cond.selects "java/lang/StringBuilder" y y) ++ lw_tbl
theorem x_selpriv {y y0 : MethodName} {C : String} {s : State} {args : Array Value} (hy : y.cls ≠ "java/lang/invoke/MethodHandle" ∧ y.cls ≠ "java/lang/invoke/VarHandle") (hc0 : y0.cls = y.cls)
    (hsel : (Cond.selects C y0 y0).before args s = true) (hpriv : (Cond.privateMethod y).before args s = true) (hinst : (Cond.instanceMethod y).before args s = true) : (Cond.selects C y y).before args s = true := by
  obtain ⟨c2, r2, m2, q1, q2, q3, q4, kP, hkP, hkPi⟩ := Cond.selects_spec hsel
  obtain ⟨mk, methM, hnamed, hmethM, -, -⟩ := Cond.instanceMethod_spec hinst
  have hfound : s.methodFound? y.cls y.name y.desc = some mk := State.methodFound?_of_named hnamed hy
  have hs : selectMethod {} s.vm c2 mk = .method mk := selectMethod_private hmethM (Cond.privateMethod_at hpriv mk methM hnamed hmethM)
  have hcls : mk.cls = m2.cls := Option.some.inj ((findClass_of_methodNamed hnamed).symm.trans (by rw [← hc0]; exact findClass_of_methodNamed q3))
  simp only [Cond.before, Cond.holds, Cond.value, q1, hfound, hnamed, hs, hcls, hkP]
  simp
  exact hkPi
theorem x_pv_ok : ∀ y ∈ x_pv, (y.cls ≠ "java/lang/invoke/MethodHandle" ∧ y.cls ≠ "java/lang/invoke/VarHandle") ∧ x_p0.cls = y.cls ∧ Cond.privateMethod y ∈ lw_tbl ∧ Cond.instanceMethod y ∈ lw_tbl := by decide +kernel
theorem x_tbl_ok {s : State} {args : Array Value} (h : ∀ w ∈ lw_tbl, w.before args s = true) : ∀ w ∈ x_tbl, w.before args s = true := by
  intro w hw
  rcases List.mem_append.mp hw with hw | hw
  · obtain ⟨y, hy, rfl⟩ := List.mem_map.mp hw
    obtain ⟨a, b, c, d⟩ := x_pv_ok y hy
    exact x_selpriv a b (h (Cond.selects "java/lang/StringBuilder" x_p0 x_p0) (by decide +kernel)) (h _ c) (h _ d)
  · exact h w hw
end
section
/-! THE SMALL MACHINE: values, memory and what a stretch of code asks (wpL), read by the program's own link tables; its soundness over the kit's rows is part 04. -/
abbrev xV : Type := Int ⊕ Int ⊕ Nat ⊕ Nat ⊕ Nat
abbrev xI (x : Int) : xV := .inl x
abbrev xJ (x : Int) : xV := .inr (.inl x)
abbrev xA (r : Nat) : xV := .inr (.inr (.inl r))
abbrev xE (a : Nat) : xV := .inr (.inr (.inr (.inl a)))
abbrev xS (i : Nat) : xV := .inr (.inr (.inr (.inr i)))
abbrev xM : Type := Nat → Int → Int
abbrev xH : Type := (Nat → Int → Nat) × (Nat → Nat) × (Nat → Int) × Nat
abbrev xL : Type := Nat → Option xV
def hP (h : xH) : Nat → Int → Nat := h.1
def hK (h : xH) : Nat → Nat := h.2.1
def hL (h : xH) : Nat → Int := h.2.2.1
def hn (h : xH) : Nat := h.2.2.2
/-- a method: name, code, locals, what it returns, room: frames, locals, cells, slots -/
abbrev xMD : Type := MethodName × ByteArray × Nat × Option FieldType × Nat × Nat × Nat × Nat
def zN (z : xMD) : MethodName := z.1
def zB (z : xMD) : ByteArray := z.2.1
def zL (z : xMD) : Nat := z.2.2.1
def zR (z : xMD) : Option FieldType := z.2.2.2.1
def zF (z : xMD) : Nat := z.2.2.2.2.1
def zO (z : xMD) : Nat := z.2.2.2.2.2.1
def zC (z : xMD) : Nat := z.2.2.2.2.2.2.1
def zS (z : xMD) : Nat := z.2.2.2.2.2.2.2
/-- how a method ends: returns (with a value), or throws (the number of the exception's class) -/
abbrev xO : Type := Option xV ⊕ Nat
abbrev xPI : Type := Instr × List Nat × List xMD
abbrev xB : Type := List (Nat × Bool × List xPI)
def w8 (x : Int) : Int := x.bmod 256
def w32 (x : Int) : Int := x.bmod 4294967296
def w64 (x : Int) : Int := x.bmod 18446744073709551616
def x_div (a b : Int) : Int := (Int32.ofInt a / Int32.ofInt b).toInt
def x_rem (a b : Int) : Int := (Int32.ofInt a - Int32.ofInt a / Int32.ofInt b * Int32.ofInt b).toInt
def x_and (a b : Int) : Int := (Int32.ofInt a &&& Int32.ofInt b).toInt
def x_or (a b : Int) : Int := (Int32.ofInt a ||| Int32.ofInt b).toInt
def x_xor (a b : Int) : Int := (Int32.ofInt a ^^^ Int32.ofInt b).toInt
def x_shl (a b : Int) : Int := (Int32.ofInt a <<< (Int32.ofInt b &&& 31)).toInt
def x_shr (a b : Int) : Int := (Int32.ofInt a >>> (Int32.ofInt b &&& 31)).toInt
def x_landL (a b : Int) : Int := (Int64.ofInt a &&& Int64.ofInt b).toInt
def x_shrL (a b : Int) : Int := (Int64.ofInt a >>> ((Int32.ofInt b).toInt64 &&& 63)).toInt
def x_ushr (a b : Int) : Int := ((Int32.ofInt a).toUInt32 >>> ((Int32.ofInt b).toUInt32 &&& Int32.toUInt32 31)).toInt32.toInt
def x_orL (a b : Int) : Int := (Int64.ofInt a ||| Int64.ofInt b).toInt
def x_shlL (a b : Int) : Int := (Int64.ofInt a <<< ((Int32.ofInt b).toInt64 &&& 63)).toInt
def x_cmp (a b : Int) : Int := if a < b then -1 else if a = b then 0 else 1
def x_w (M : xM) (a : Nat) (i v : Int) : xM := fun b j => if b = a ∧ j = i then v else M b j
def x_pw (h : xH) (a : Nat) (i : Int) (r : Nat) : xH := (fun b j => if b = a ∧ j = i then r else hP h b j, h.2)
def x_new (h : xH) (k : Nat) (len : Int) : xH := (fun b j => if b = hn h then 0 else hP h b j, fun b => if b = hn h then k else hK h b, fun b => if b = hn h then len else hL h b, hn h + 1)
def x_z (M : xM) (h : xH) : xM := fun b j => if b = hn h then 0 else M b j
def x_cp (M : xM) (src : Nat) (sp : Int) (dst : Nat) (dp n : Int) : xM := fun b j => if b = dst ∧ dp ≤ j ∧ j < dp + n then M src (sp + (j - dp)) else M b j
def x_nl : Option xV → Option xV
  | some (.inr (.inl _)) => none
  | o => o
def x_up (ls : xL) (i : Nat) (v : xV) : xL := fun j => if j = i then some v else if j + 1 = i then x_nl (ls j) else ls j
def x_up2 (ls : xL) (i : Nat) (v : xV) : xL := fun j => if j = i then some v else if j = i + 1 then none else if j + 1 = i then x_nl (ls j) else ls j
def x_cat : xV → Nat
  | .inr (.inl _) => 2
  | _ => 1
/-- the locals at a method's entry -/
def x_ent : List xV → Nat → xL
  | [], _ => fun _ => none
  | v :: vs, i => fun j => if j = i then some v else x_ent vs (i + x_cat v) j
/-- the field's type: class by its number in vwCl -/
def x_ty : Nat → Nat → FieldType
  | 0 => tyX0
  | 1 => tyX1
  | 2 => tyX2
  | 3 => tyX3
  | 4 => tyX4
  | 5 => tyX5
  | 6 => tyX6
  | 7 => tyX7
  | 8 => tyJ0
  | _ => tyJ4
def x_N : Nat → Nat
  | 0 => 3
  | 1 => 6
  | 2 => 2
  | 3 => 3
  | 4 => 13
  | 5 => 12
  | 6 => 10
  | 7 => 7
  | 8 => 4
  | _ => 4
/-- the law's script: its address, its length, its ints -/
abbrev xSc : Type := Nat × Int × (Int → Int)
abbrev xCal : Type := xMD → List xV → xM → xH → (xO → xM → xH → Prop) → Prop
abbrev xJT : Type := Nat → xL → List xV → xM → xH → Nat → Nat → Prop
def x_cnd (c : ClassFile.Cond) (a b : Int) : Prop := match c with
  | .eq => a = b
  | .ne => a ≠ b
  | .lt => a < b
  | .ge => b ≤ a
  | .gt => b < a
  | .le => a ≤ b
def x_sw (J : xJT) (ls : xL) (st : List xV) (M : xM) (h : xH) (c n : Nat) (x : Int) (d : Prop) : Int → List Nat → Prop
  | _, [] => d
  | lo, t :: ts => (x = lo → J t ls st M h c n) ∧ x_sw J ls st M h c n x d (lo + 1) ts
def x_lk (J : xJT) (ls : xL) (st : List xV) (M : xM) (h : xH) (c n : Nat) (x : Int) (d : Prop) : List Int → List Nat → Prop
  | k :: ks, t :: ts => (x = k → J t ls st M h c n) ∧ (x ≠ k → x_lk J ls st M h c n x d ks ts)
  | _, _ => d
def x_rc (h : xH) (q : Nat) : List xV → Prop
  | .inr (.inr (.inl r)) :: _ => q < 50 ∧ hK h r = q
  | .inr (.inr (.inr (.inr _))) :: _ => q = 50
  | _ => False
/-- E: cells, slots, what is returned (0 nothing, 1 int, 2 boolean, 3 long, 4 a reference) -/
def wpL (Cl : xCal) (E : Nat × Nat × Nat × xSc) (J : xJT) (Φ : xO → xM → xH → Prop) : List xPI → xL → List xV → xM → xH → Nat → Nat → Prop
  | [], _, _, _, _, _, _ => False
  | (i, k, z) :: is, ls, st, M, h, c, n => match i with
    | .nop => (match k with | [t] => J t ls st M h c n | _ => False)
    | .iconst x => wpL Cl E J Φ is ls (xI x :: st) M h c n
    | .bipush x => wpL Cl E J Φ is ls (xI x :: st) M h c n
    | .sipush x => wpL Cl E J Φ is ls (xI x :: st) M h c n
    | .lconst x => wpL Cl E J Φ is ls (xJ x.val :: st) M h c n
    | .aconst_null => wpL Cl E J Φ is ls (xA 0 :: st) M h c n
    | .ldc _ => (match k with | 1 :: v :: _ => wpL Cl E J Φ is ls (xI v :: st) M h c n | 2 :: v :: _ => wpL Cl E J Φ is ls (xS v :: st) M h c n | _ => False)
    | .ldc2_w _ => (match k with | v :: _ => wpL Cl E J Φ is ls (xJ v :: st) M h c n | _ => False)
    | .iload i => (match ls i with | some (.inl x) => wpL Cl E J Φ is ls (xI x :: st) M h c n | _ => False)
    | .iload_n i => (match ls i.val with | some (.inl x) => wpL Cl E J Φ is ls (xI x :: st) M h c n | _ => False)
    | .lload i => (match ls i with | some (.inr (.inl x)) => wpL Cl E J Φ is ls (xJ x :: st) M h c n | _ => False)
    | .lload_n i => (match ls i.val with | some (.inr (.inl x)) => wpL Cl E J Φ is ls (xJ x :: st) M h c n | _ => False)
    | .aload i => (match ls i with | some (.inr (.inr x)) => wpL Cl E J Φ is ls (.inr (.inr x) :: st) M h c n | _ => False)
    | .aload_n i => (match ls i.val with | some (.inr (.inr x)) => wpL Cl E J Φ is ls (.inr (.inr x) :: st) M h c n | _ => False)
    | .istore i => (match st with | .inl x :: st => wpL Cl E J Φ is (x_up ls i (xI x)) st M h c n | _ => False)
    | .istore_n i => (match st with | .inl x :: st => wpL Cl E J Φ is (x_up ls i.val (xI x)) st M h c n | _ => False)
    | .lstore i => (match st with | .inr (.inl x) :: st => wpL Cl E J Φ is (x_up2 ls i (xJ x)) st M h c n | _ => False)
    | .lstore_n i => (match st with | .inr (.inl x) :: st => wpL Cl E J Φ is (x_up2 ls i.val (xJ x)) st M h c n | _ => False)
    | .astore i => (match st with | .inr (.inr x) :: st => wpL Cl E J Φ is (x_up ls i (.inr (.inr x))) st M h c n | _ => False)
    | .astore_n i => (match st with | .inr (.inr x) :: st => wpL Cl E J Φ is (x_up ls i.val (.inr (.inr x))) st M h c n | _ => False)
    | .iinc i d => (match ls i with | some (.inl x) => wpL Cl E J Φ is (x_up ls i (xI (w32 (x + d)))) st M h c n | _ => False)
    | .iadd => (match st with | .inl b :: .inl a :: st => wpL Cl E J Φ is ls (xI (w32 (a + b)) :: st) M h c n | _ => False)
    | .isub => (match st with | .inl b :: .inl a :: st => wpL Cl E J Φ is ls (xI (w32 (a - b)) :: st) M h c n | _ => False)
    | .imul => (match st with | .inl b :: .inl a :: st => wpL Cl E J Φ is ls (xI (w32 (a * b)) :: st) M h c n | _ => False)
    | .idiv => (match st with | .inl b :: .inl a :: st => b ≠ 0 ∧ wpL Cl E J Φ is ls (xI (x_div a b) :: st) M h c n | _ => False)
    | .irem => (match st with | .inl b :: .inl a :: st => b ≠ 0 ∧ wpL Cl E J Φ is ls (xI (x_rem a b) :: st) M h c n | _ => False)
    | .iand => (match st with | .inl b :: .inl a :: st => wpL Cl E J Φ is ls (xI (x_and a b) :: st) M h c n | _ => False)
    | .ior => (match st with | .inl b :: .inl a :: st => wpL Cl E J Φ is ls (xI (x_or a b) :: st) M h c n | _ => False)
    | .ixor => (match st with | .inl b :: .inl a :: st => wpL Cl E J Φ is ls (xI (x_xor a b) :: st) M h c n | _ => False)
    | .ishl => (match st with | .inl b :: .inl a :: st => wpL Cl E J Φ is ls (xI (x_shl a b) :: st) M h c n | _ => False)
    | .ishr => (match st with | .inl b :: .inl a :: st => wpL Cl E J Φ is ls (xI (x_shr a b) :: st) M h c n | _ => False)
    | .i2l => (match st with | .inl a :: st => wpL Cl E J Φ is ls (xJ a :: st) M h c n | _ => False)
    | .l2i => (match st with | .inr (.inl a) :: st => wpL Cl E J Φ is ls (xI (w32 a) :: st) M h c n | _ => False)
    | .ineg => (match st with | .inl a :: st => wpL Cl E J Φ is ls (xI (w32 (-a)) :: st) M h c n | _ => False)
    | .i2c => (match st with | .inl a :: st => wpL Cl E J Φ is ls (xI (a % 65536) :: st) M h c n | _ => False)
    | .iushr => (match st with | .inl b :: .inl a :: st => wpL Cl E J Φ is ls (xI (x_ushr a b) :: st) M h c n | _ => False)
    | .lor => (match st with | .inr (.inl b) :: .inr (.inl a) :: st => wpL Cl E J Φ is ls (xJ (x_orL a b) :: st) M h c n | _ => False)
    | .lshl => (match st with | .inl b :: .inr (.inl a) :: st => wpL Cl E J Φ is ls (xJ (x_shlL a b) :: st) M h c n | _ => False)
    | .dup_x1 => (match st with | v :: w :: st => x_cat v = 1 ∧ x_cat w = 1 ∧ wpL Cl E J Φ is ls (v :: w :: v :: st) M h c n | _ => False)
    | .getstatic _ => (match k with | 1 :: _ => wpL Cl E J Φ is ls (xI 1 :: st) M h c n | _ => False)
    | .i2b => (match st with | .inl a :: st => wpL Cl E J Φ is ls (xI (w8 a) :: st) M h c n | _ => False)
    | .ladd => (match st with | .inr (.inl b) :: .inr (.inl a) :: st => wpL Cl E J Φ is ls (xJ (w64 (a + b)) :: st) M h c n | _ => False)
    | .lsub => (match st with | .inr (.inl b) :: .inr (.inl a) :: st => wpL Cl E J Φ is ls (xJ (w64 (a - b)) :: st) M h c n | _ => False)
    | .lmul => (match st with | .inr (.inl b) :: .inr (.inl a) :: st => wpL Cl E J Φ is ls (xJ (w64 (a * b)) :: st) M h c n | _ => False)
    | .land => (match st with | .inr (.inl b) :: .inr (.inl a) :: st => wpL Cl E J Φ is ls (xJ (x_landL a b) :: st) M h c n | _ => False)
    | .lshr => (match st with | .inl b :: .inr (.inl a) :: st => wpL Cl E J Φ is ls (xJ (x_shrL a b) :: st) M h c n | _ => False)
    | .lcmp => (match st with | .inr (.inl b) :: .inr (.inl a) :: st => wpL Cl E J Φ is ls (xI (x_cmp a b) :: st) M h c n | _ => False)
    | .dup => (match st with | v :: st => x_cat v = 1 ∧ wpL Cl E J Φ is ls (v :: v :: st) M h c n | _ => False)
    | .dup2 => (match st with | v :: w :: st => x_cat v = 1 ∧ x_cat w = 1 ∧ wpL Cl E J Φ is ls (v :: w :: v :: w :: st) M h c n | _ => False)
    | .pop => (match st with | v :: st => x_cat v = 1 ∧ wpL Cl E J Φ is ls st M h c n | _ => False)
    | .ifCond q _ => (match k, st with | [t], .inl a :: st => (x_cnd q a 0 → J t ls st M h c n) ∧ (¬ x_cnd q a 0 → wpL Cl E J Φ is ls st M h c n) | _, _ => False)
    | .if_icmp q _ => (match k, st with | [t], .inl b :: .inl a :: st => (x_cnd q a b → J t ls st M h c n) ∧ (¬ x_cnd q a b → wpL Cl E J Φ is ls st M h c n) | _, _ => False)
    | .ifnull _ => (match k, st with | [t], .inr (.inr (.inl r)) :: st => (r = 0 → J t ls st M h c n) ∧ (r ≠ 0 → wpL Cl E J Φ is ls st M h c n) | _, _ => False)
    | .ifnonnull _ => (match k, st with | [t], .inr (.inr (.inl r)) :: st => (r ≠ 0 → J t ls st M h c n) ∧ (r = 0 → wpL Cl E J Φ is ls st M h c n) | [t], .inr (.inr (.inr (.inr _))) :: st => J t ls st M h c n | _, _ => False)
    | .goto _ => (match k with | [t] => J t ls st M h c n | _ => False)
    | .tableswitch _ lo hi _ => (match k, st with | d :: ts, .inl x :: st => x_sw J ls st M h c n x (x < lo ∨ hi < x → J d ls st M h c n) lo ts | _, _ => False)
    | .lookupswitch _ ps => (match k, st with | d :: ts, .inl x :: st => x_lk J ls st M h c n x (J d ls st M h c n) (ps.toList.map (fun p => p.1)) ts | _, _ => False)
    | .getfield _ => (match k, st with
      | q :: i :: 0 :: _, .inr (.inr (.inl a)) :: st => hK h a = q ∧ wpL Cl E J Φ is ls (xI (M a i) :: st) M h c n
      | q :: i :: 1 :: _, .inr (.inr (.inl a)) :: st => hK h a = q ∧ wpL Cl E J Φ is ls (xJ (M a i) :: st) M h c n
      | q :: i :: 2 :: _, .inr (.inr (.inl a)) :: st => hK h a = q ∧ wpL Cl E J Φ is ls (xA (hP h a i) :: st) M h c n
      | q :: i :: 3 :: _, .inr (.inr (.inl a)) :: st => hK h a = q ∧ wpL Cl E J Φ is ls (xI (M a i) :: st) M h c n
      | _, _ => False)
    | .putfield _ => (match k, st with
      | q :: i :: 0 :: _, .inl v :: .inr (.inr (.inl a)) :: st => hK h a = q ∧ wpL Cl E J Φ is ls st (x_w M a i v) h c n
      | q :: i :: 1 :: _, .inr (.inl v) :: .inr (.inr (.inl a)) :: st => hK h a = q ∧ wpL Cl E J Φ is ls st (x_w M a i v) h c n
      | q :: i :: 2 :: _, .inr (.inr (.inl r)) :: .inr (.inr (.inl a)) :: st => hK h a = q ∧ wpL Cl E J Φ is ls st M (x_pw h a i r) c n
      | q :: i :: 3 :: _, .inl v :: .inr (.inr (.inl a)) :: st => (hK h a = q ∧ w8 v = v) ∧ wpL Cl E J Φ is ls st (x_w M a i v) h c n
      | _, _ => False)
    | .iaload => (match st with | .inl i :: .inr (.inr (.inl a)) :: st => hK h a = 20 ∧ (0 ≤ i ∧ i < hL h a) ∧ wpL Cl E J Φ is ls (xI (M a i) :: st) M h c n | .inl i :: .inr (.inr (.inr (.inl a))) :: st => a = E.2.2.2.1 ∧ (0 ≤ i ∧ i < E.2.2.2.2.1) ∧ wpL Cl E J Φ is ls (xI (E.2.2.2.2.2 i) :: st) M h c n | _ => False)
    | .baload => (match st with | .inl i :: .inr (.inr (.inl a)) :: st => hK h a = 21 ∧ (0 ≤ i ∧ i < hL h a) ∧ wpL Cl E J Φ is ls (xI (M a i) :: st) M h c n | _ => False)
    | .aaload => (match st with | .inl i :: .inr (.inr (.inl a)) :: st => (hK h a = 23 ∨ hK h a = 24) ∧ (0 ≤ i ∧ i < hL h a) ∧ wpL Cl E J Φ is ls (xA (hP h a i) :: st) M h c n | _ => False)
    | .iastore => (match st with | .inl v :: .inl i :: .inr (.inr (.inl a)) :: st => hK h a = 20 ∧ (0 ≤ i ∧ i < hL h a) ∧ wpL Cl E J Φ is ls st (x_w M a i v) h c n | _ => False)
    | .bastore => (match st with | .inl v :: .inl i :: .inr (.inr (.inl a)) :: st => hK h a = 21 ∧ (0 ≤ i ∧ i < hL h a) ∧ wpL Cl E J Φ is ls st (x_w M a i (w8 v)) h c n | _ => False)
    | .aastore => (match st with | .inr (.inr (.inl r)) :: .inl i :: .inr (.inr (.inl a)) :: st => (hK h a = 23 ∧ (r = 0 ∨ hK h r = 1) ∨ hK h a = 24 ∧ (r = 0 ∨ hK h r = 4)) ∧ (0 ≤ i ∧ i < hL h a) ∧ wpL Cl E J Φ is ls st M (x_pw h a i r) c n | _ => False)
    | .arraylength => (match st with | .inr (.inr (.inl a)) :: st => 20 ≤ hK h a ∧ hK h a ≤ 24 ∧ wpL Cl E J Φ is ls (xI (hL h a) :: st) M h c n | .inr (.inr (.inr (.inl a))) :: st => a = E.2.2.2.1 ∧ 0 ≤ E.2.2.2.2.1 ∧ wpL Cl E J Φ is ls (xI E.2.2.2.2.1 :: st) M h c n | _ => False)
    | .new _ => (match k with | q :: _ => (c + 1 ≤ E.1 ∧ n + x_N q ≤ E.2.1) ∧ wpL Cl E J Φ is ls (xA (hn h) :: st) (x_z M h) (x_new h q 0) (c + 1) (n + x_N q) | _ => False)
    | .newarray _ => (match k, st with | q :: _, .inl x :: st => (0 ≤ x ∧ x ≤ 50000 ∧ c + 1 ≤ E.1 ∧ n + x.toNat ≤ E.2.1) ∧ wpL Cl E J Φ is ls (xA (hn h) :: st) (x_z M h) (x_new h q x) (c + 1) (n + x.toNat) | _, _ => False)
    | .anewarray _ => (match k, st with | q :: _, .inl x :: st => (0 ≤ x ∧ x ≤ 50000 ∧ c + 1 ≤ E.1 ∧ n + x.toNat ≤ E.2.1) ∧ wpL Cl E J Φ is ls (xA (hn h) :: st) (x_z M h) (x_new h q x) (c + 1) (n + x.toNat) | _, _ => False)
    | .invokevirtual _ => (match k, z with
      | na :: mc :: ms :: q :: _, [z] => x_rc h q (st.drop na) ∧ (c + mc ≤ E.1 ∧ n + ms ≤ E.2.1) ∧ ((st.drop (na + 1)).map x_cat).sum ≤ 8 ∧ na + 1 ≤ st.length ∧ Cl z (st.take (na + 1)).reverse M h (fun o M' h' => match o with | .inl none => wpL Cl E J Φ is ls (st.drop (na + 1)) M' h' (c + mc) (n + ms) | .inl (some v) => wpL Cl E J Φ is ls (v :: st.drop (na + 1)) M' h' (c + mc) (n + ms) | .inr e => Φ (.inr e) M' h')
      | na :: mc :: ms :: q :: _, [z, _] => x_rc h q (st.drop na) ∧ (c + mc ≤ E.1 ∧ n + ms ≤ E.2.1) ∧ ((st.drop (na + 1)).map x_cat).sum ≤ 8 ∧ na + 1 ≤ st.length ∧ Cl z (st.take (na + 1)).reverse M h (fun o M' h' => match o with | .inl none => wpL Cl E J Φ is ls (st.drop (na + 1)) M' h' (c + mc) (n + ms) | .inl (some v) => wpL Cl E J Φ is ls (v :: st.drop (na + 1)) M' h' (c + mc) (n + ms) | .inr _ => False)
      | _, _ => False)
    | .invokespecial _ => (match k, z with
      | 1003 :: _, [] => (match st with | .inr (.inr (.inl r)) :: st => hK h r < 25 ∧ (st.map x_cat).sum ≤ 8 ∧ wpL Cl E J Φ is ls st M h c n | _ => False)
      | na :: mc :: ms :: q :: _, [z] => x_rc h q (st.drop na) ∧ (c + mc ≤ E.1 ∧ n + ms ≤ E.2.1) ∧ ((st.drop (na + 1)).map x_cat).sum ≤ 8 ∧ na + 1 ≤ st.length ∧ Cl z (st.take (na + 1)).reverse M h (fun o M' h' => match o with | .inl none => wpL Cl E J Φ is ls (st.drop (na + 1)) M' h' (c + mc) (n + ms) | .inl (some v) => wpL Cl E J Φ is ls (v :: st.drop (na + 1)) M' h' (c + mc) (n + ms) | .inr _ => False)
      | na :: mc :: ms :: q :: _, [z, _] => x_rc h q (st.drop na) ∧ (c + mc ≤ E.1 ∧ n + ms ≤ E.2.1) ∧ ((st.drop (na + 1)).map x_cat).sum ≤ 8 ∧ na + 1 ≤ st.length ∧ Cl z (st.take (na + 1)).reverse M h (fun o M' h' => match o with | .inl none => wpL Cl E J Φ is ls (st.drop (na + 1)) M' h' (c + mc) (n + ms) | .inl (some v) => wpL Cl E J Φ is ls (v :: st.drop (na + 1)) M' h' (c + mc) (n + ms) | .inr _ => False)
      | _, _ => False)
    | .invokestatic _ => (match k, z with
      | 1000 :: _, [] => (match st with | .inl m :: .inl dp :: .inr (.inr (.inl d)) :: .inl sp :: .inr (.inr (.inl s)) :: st => (hK h s = 20 ∧ hK h d = 20) ∧ (0 ≤ m ∧ 0 ≤ sp ∧ 0 ≤ dp ∧ sp + m ≤ hL h s ∧ dp + m ≤ hL h d) ∧ (st.map x_cat).sum ≤ 8 ∧ wpL Cl E J Φ is ls st (x_cp M s sp d dp m) h c n | _ => False)
      | 1005 :: _, [] => (match st with | .inl m :: .inl dp :: .inr (.inr (.inl d)) :: .inl sp :: .inr (.inr (.inl s)) :: st => (hK h s = 21 ∧ hK h d = 21) ∧ (0 ≤ m ∧ 0 ≤ sp ∧ 0 ≤ dp ∧ sp + m ≤ hL h s ∧ dp + m ≤ hL h d) ∧ (∀ j : Int, sp ≤ j → j < sp + m → -128 ≤ M s j ∧ M s j < 128) ∧ (st.map x_cat).sum ≤ 8 ∧ wpL Cl E J Φ is ls st (x_cp M s sp d dp m) h c n | _ => False)
      | 1001 :: _, [] => (match st with | .inl b :: .inl a :: st => (st.map x_cat).sum ≤ 8 ∧ wpL Cl E J Φ is ls (xI (min a b) :: st) M h c n | _ => False)
      | 1002 :: _, [] => (match st with | .inl b :: .inl a :: st => (st.map x_cat).sum ≤ 8 ∧ wpL Cl E J Φ is ls (xI (max a b) :: st) M h c n | _ => False)
      | na :: mc :: ms :: _, [z] => (c + mc ≤ E.1 ∧ n + ms ≤ E.2.1) ∧ ((st.drop na).map x_cat).sum ≤ 8 ∧ na ≤ st.length ∧ Cl z (st.take na).reverse M h (fun o M' h' => match o with | .inl none => wpL Cl E J Φ is ls (st.drop na) M' h' (c + mc) (n + ms) | .inl (some v) => wpL Cl E J Φ is ls (v :: st.drop na) M' h' (c + mc) (n + ms) | .inr e => Φ (.inr e) M' h')
      | _, _ => False)
    | .return_ => (match st with | [] => E.2.2.1 = 0 ∧ Φ (.inl none) M h | _ => False)
    | .ireturn => (match st with | [.inl v] => (E.2.2.1 = 1 ∨ E.2.2.1 = 2 ∧ (v = 0 ∨ v = 1)) ∧ Φ (.inl (some (xI v))) M h | _ => False)
    | .lreturn => (match st with | [.inr (.inl v)] => E.2.2.1 = 3 ∧ Φ (.inl (some (xJ v))) M h | _ => False)
    | .areturn => (match st with | [.inr (.inr (.inl r))] => E.2.2.1 = 4 ∧ Φ (.inl (some (xA r))) M h | _ => False)
    | .athrow => (match k with | e :: _ => (c + 1 ≤ E.1 ∧ n + 6 ≤ E.2.1) ∧ (st.map x_cat).sum ≤ 8 ∧ Φ (.inr e) M h | _ => False)
    | _ => False
def x_k (Cl : xCal) (E : Nat × Nat × Nat × xSc) (J : xJT) (Φ : xO → xM → xH → Prop) (is : List xPI) (ls : xL) (st : List xV) (c n : Nat) : xO → xM → xH → Prop := fun o M' h' => match o with
  | .inl none => wpL Cl E J Φ is ls st M' h' c n
  | .inl (some v) => wpL Cl E J Φ is ls (v :: st) M' h' c n
  | .inr e => Φ (.inr e) M' h'
def x_ki (Cl : xCal) (E : Nat × Nat × Nat × xSc) (J : xJT) (Φ : xO → xM → xH → Prop) (is : List xPI) (ls : xL) (st : List xV) (c n : Nat) : xO → xM → xH → Prop := fun o M' h' => match o with
  | .inl none => wpL Cl E J Φ is ls st M' h' c n
  | .inl (some v) => wpL Cl E J Φ is ls (v :: st) M' h' c n
  | .inr _ => False
def x_blk (B : xB) (t : Nat) : Option (Bool × List xPI) := B.lookup t
def wpG (Cl : xCal) (E : Nat × Nat × Nat × xSc) (B : xB) (K : xJT) (Φ : xO → xM → xH → Prop) : Nat → xJT
  | 0 => fun _ _ _ _ _ _ _ => False
  | f + 1 => fun t ls st M h c n => match x_blk B t with
    | some (true, _) => K t ls st M h c n
    | some (false, is) => wpL Cl E (wpG Cl E B K Φ f) Φ is ls st M h c n
    | none => False
end
section
/-! the rows by which simp reads wpL (each by rfl), and wps: all of them in one -/
def x_li (o : Option xV) (Cl : xCal) (E : Nat × Nat × Nat × xSc) (J : xJT) (Φ : xO → xM → xH → Prop) (is : List xPI) (ls : xL) (st : List xV) (M : xM) (h : xH) (c n : Nat) : Prop := match o with | some (.inl x) => wpL Cl E J Φ is ls (xI x :: st) M h c n | _ => False
def x_lj (o : Option xV) (Cl : xCal) (E : Nat × Nat × Nat × xSc) (J : xJT) (Φ : xO → xM → xH → Prop) (is : List xPI) (ls : xL) (st : List xV) (M : xM) (h : xH) (c n : Nat) : Prop := match o with | some (.inr (.inl x)) => wpL Cl E J Φ is ls (xJ x :: st) M h c n | _ => False
def x_la (o : Option xV) (Cl : xCal) (E : Nat × Nat × Nat × xSc) (J : xJT) (Φ : xO → xM → xH → Prop) (is : List xPI) (ls : xL) (st : List xV) (M : xM) (h : xH) (c n : Nat) : Prop := match o with | some (.inr (.inr x)) => wpL Cl E J Φ is ls (.inr (.inr x) :: st) M h c n | _ => False
def x_ii (o : Option xV) (i : Nat) (d : Int) (Cl : xCal) (E : Nat × Nat × Nat × xSc) (J : xJT) (Φ : xO → xM → xH → Prop) (is : List xPI) (ls : xL) (st : List xV) (M : xM) (h : xH) (c n : Nat) : Prop := match o with | some (.inl x) => wpL Cl E J Φ is (x_up ls i (xI (w32 (x + d)))) st M h c n | _ => False
def x_g (o : Option (Bool × List xPI)) (Cl : xCal) (E : Nat × Nat × Nat × xSc) (B : xB) (K : xJT) (Φ : xO → xM → xH → Prop) (f t : Nat) (ls : xL) (st : List xV) (M : xM) (h : xH) (c n : Nat) : Prop := match o with
  | some (true, _) => K t ls st M h c n
  | some (false, is) => wpL Cl E (wpG Cl E B K Φ f) Φ is ls st M h c n
  | none => False
theorem wq_nop (Cl : xCal) (E : Nat × Nat × Nat × xSc) (J : xJT) (Φ : xO → xM → xH → Prop) (is : List xPI) (ls : xL) (st : List xV) (M : xM) (h : xH) (c n : Nat) (t : Nat) (z : List xMD) : wpL Cl E J Φ ((.nop, [t], z) :: is) ls st M h c n = (J t ls st M h c n) := rfl
theorem wq_iconst (Cl : xCal) (E : Nat × Nat × Nat × xSc) (J : xJT) (Φ : xO → xM → xH → Prop) (is : List xPI) (ls : xL) (st : List xV) (M : xM) (h : xH) (c n : Nat) (x : Int) (k : List Nat) (z : List xMD) : wpL Cl E J Φ ((.iconst x, k, z) :: is) ls st M h c n = (wpL Cl E J Φ is ls (xI x :: st) M h c n) := rfl
theorem wq_bipush (Cl : xCal) (E : Nat × Nat × Nat × xSc) (J : xJT) (Φ : xO → xM → xH → Prop) (is : List xPI) (ls : xL) (st : List xV) (M : xM) (h : xH) (c n : Nat) (x : Int) (k : List Nat) (z : List xMD) : wpL Cl E J Φ ((.bipush x, k, z) :: is) ls st M h c n = (wpL Cl E J Φ is ls (xI x :: st) M h c n) := rfl
theorem wq_sipush (Cl : xCal) (E : Nat × Nat × Nat × xSc) (J : xJT) (Φ : xO → xM → xH → Prop) (is : List xPI) (ls : xL) (st : List xV) (M : xM) (h : xH) (c n : Nat) (x : Int) (k : List Nat) (z : List xMD) : wpL Cl E J Φ ((.sipush x, k, z) :: is) ls st M h c n = (wpL Cl E J Φ is ls (xI x :: st) M h c n) := rfl
theorem wq_lconst (Cl : xCal) (E : Nat × Nat × Nat × xSc) (J : xJT) (Φ : xO → xM → xH → Prop) (is : List xPI) (ls : xL) (st : List xV) (M : xM) (h : xH) (c n : Nat) (x : Fin 2) (k : List Nat) (z : List xMD) : wpL Cl E J Φ ((.lconst x, k, z) :: is) ls st M h c n = (wpL Cl E J Φ is ls (xJ x.val :: st) M h c n) := rfl
theorem wq_null (Cl : xCal) (E : Nat × Nat × Nat × xSc) (J : xJT) (Φ : xO → xM → xH → Prop) (is : List xPI) (ls : xL) (st : List xV) (M : xM) (h : xH) (c n : Nat) (k : List Nat) (z : List xMD) : wpL Cl E J Φ ((.aconst_null, k, z) :: is) ls st M h c n = (wpL Cl E J Φ is ls (xA 0 :: st) M h c n) := rfl
theorem wq_ldc1 (Cl : xCal) (E : Nat × Nat × Nat × xSc) (J : xJT) (Φ : xO → xM → xH → Prop) (is : List xPI) (ls : xL) (st : List xV) (M : xM) (h : xH) (c n : Nat) (i v : Nat) (k : List Nat) (z : List xMD) : wpL Cl E J Φ ((.ldc i, 1 :: v :: k, z) :: is) ls st M h c n = (wpL Cl E J Φ is ls (xI v :: st) M h c n) := rfl
theorem wq_ldc2 (Cl : xCal) (E : Nat × Nat × Nat × xSc) (J : xJT) (Φ : xO → xM → xH → Prop) (is : List xPI) (ls : xL) (st : List xV) (M : xM) (h : xH) (c n : Nat) (i v : Nat) (k : List Nat) (z : List xMD) : wpL Cl E J Φ ((.ldc i, 2 :: v :: k, z) :: is) ls st M h c n = (wpL Cl E J Φ is ls (xS v :: st) M h c n) := rfl
theorem wq_ldcl (Cl : xCal) (E : Nat × Nat × Nat × xSc) (J : xJT) (Φ : xO → xM → xH → Prop) (is : List xPI) (ls : xL) (st : List xV) (M : xM) (h : xH) (c n : Nat) (i v : Nat) (k : List Nat) (z : List xMD) : wpL Cl E J Φ ((.ldc2_w i, v :: k, z) :: is) ls st M h c n = (wpL Cl E J Φ is ls (xJ v :: st) M h c n) := rfl
theorem wq_iload (Cl : xCal) (E : Nat × Nat × Nat × xSc) (J : xJT) (Φ : xO → xM → xH → Prop) (is : List xPI) (ls : xL) (st : List xV) (M : xM) (h : xH) (c n : Nat) (i : Nat) (k : List Nat) (z : List xMD) : wpL Cl E J Φ ((.iload i, k, z) :: is) ls st M h c n = (x_li (ls i) Cl E J Φ is ls st M h c n) := rfl
theorem wq_iload_n (Cl : xCal) (E : Nat × Nat × Nat × xSc) (J : xJT) (Φ : xO → xM → xH → Prop) (is : List xPI) (ls : xL) (st : List xV) (M : xM) (h : xH) (c n : Nat) (i : Fin 4) (k : List Nat) (z : List xMD) : wpL Cl E J Φ ((.iload_n i, k, z) :: is) ls st M h c n = (x_li (ls i.val) Cl E J Φ is ls st M h c n) := rfl
theorem wq_lload (Cl : xCal) (E : Nat × Nat × Nat × xSc) (J : xJT) (Φ : xO → xM → xH → Prop) (is : List xPI) (ls : xL) (st : List xV) (M : xM) (h : xH) (c n : Nat) (i : Nat) (k : List Nat) (z : List xMD) : wpL Cl E J Φ ((.lload i, k, z) :: is) ls st M h c n = (x_lj (ls i) Cl E J Φ is ls st M h c n) := rfl
theorem wq_lload_n (Cl : xCal) (E : Nat × Nat × Nat × xSc) (J : xJT) (Φ : xO → xM → xH → Prop) (is : List xPI) (ls : xL) (st : List xV) (M : xM) (h : xH) (c n : Nat) (i : Fin 4) (k : List Nat) (z : List xMD) : wpL Cl E J Φ ((.lload_n i, k, z) :: is) ls st M h c n = (x_lj (ls i.val) Cl E J Φ is ls st M h c n) := rfl
theorem wq_aload (Cl : xCal) (E : Nat × Nat × Nat × xSc) (J : xJT) (Φ : xO → xM → xH → Prop) (is : List xPI) (ls : xL) (st : List xV) (M : xM) (h : xH) (c n : Nat) (i : Nat) (k : List Nat) (z : List xMD) : wpL Cl E J Φ ((.aload i, k, z) :: is) ls st M h c n = (x_la (ls i) Cl E J Φ is ls st M h c n) := rfl
theorem wq_aload_n (Cl : xCal) (E : Nat × Nat × Nat × xSc) (J : xJT) (Φ : xO → xM → xH → Prop) (is : List xPI) (ls : xL) (st : List xV) (M : xM) (h : xH) (c n : Nat) (i : Fin 4) (k : List Nat) (z : List xMD) : wpL Cl E J Φ ((.aload_n i, k, z) :: is) ls st M h c n = (x_la (ls i.val) Cl E J Φ is ls st M h c n) := rfl
theorem wq_iinc (Cl : xCal) (E : Nat × Nat × Nat × xSc) (J : xJT) (Φ : xO → xM → xH → Prop) (is : List xPI) (ls : xL) (st : List xV) (M : xM) (h : xH) (c n : Nat) (i : Nat) (d : Int) (k : List Nat) (z : List xMD) : wpL Cl E J Φ ((.iinc i d, k, z) :: is) ls st M h c n = (x_ii (ls i) i d Cl E J Φ is ls st M h c n) := rfl
theorem wq_li (x : Int) (Cl : xCal) (E : Nat × Nat × Nat × xSc) (J : xJT) (Φ : xO → xM → xH → Prop) (is : List xPI) (ls : xL) (st : List xV) (M : xM) (h : xH) (c n : Nat) : x_li (some (xI x)) Cl E J Φ is ls st M h c n = (wpL Cl E J Φ is ls (xI x :: st) M h c n) := rfl
theorem wq_lj (x : Int) (Cl : xCal) (E : Nat × Nat × Nat × xSc) (J : xJT) (Φ : xO → xM → xH → Prop) (is : List xPI) (ls : xL) (st : List xV) (M : xM) (h : xH) (c n : Nat) : x_lj (some (xJ x)) Cl E J Φ is ls st M h c n = (wpL Cl E J Φ is ls (xJ x :: st) M h c n) := rfl
theorem wq_la (x : Nat ⊕ Nat ⊕ Nat) (Cl : xCal) (E : Nat × Nat × Nat × xSc) (J : xJT) (Φ : xO → xM → xH → Prop) (is : List xPI) (ls : xL) (st : List xV) (M : xM) (h : xH) (c n : Nat) : x_la (some (.inr (.inr x))) Cl E J Φ is ls st M h c n = (wpL Cl E J Φ is ls (.inr (.inr x) :: st) M h c n) := rfl
theorem wq_ii (x : Int) (i : Nat) (d : Int) (Cl : xCal) (E : Nat × Nat × Nat × xSc) (J : xJT) (Φ : xO → xM → xH → Prop) (is : List xPI) (ls : xL) (st : List xV) (M : xM) (h : xH) (c n : Nat) : x_ii (some (xI x)) i d Cl E J Φ is ls st M h c n = (wpL Cl E J Φ is (x_up ls i (xI (w32 (x + d)))) st M h c n) := rfl
theorem wq_istore (Cl : xCal) (E : Nat × Nat × Nat × xSc) (J : xJT) (Φ : xO → xM → xH → Prop) (is : List xPI) (ls : xL) (st : List xV) (M : xM) (h : xH) (c n : Nat) (i : Nat) (x : Int) (k : List Nat) (z : List xMD) : wpL Cl E J Φ ((.istore i, k, z) :: is) ls (xI x :: st) M h c n = (wpL Cl E J Φ is (x_up ls i (xI x)) st M h c n) := rfl
theorem wq_istore_n (Cl : xCal) (E : Nat × Nat × Nat × xSc) (J : xJT) (Φ : xO → xM → xH → Prop) (is : List xPI) (ls : xL) (st : List xV) (M : xM) (h : xH) (c n : Nat) (i : Fin 4) (x : Int) (k : List Nat) (z : List xMD) : wpL Cl E J Φ ((.istore_n i, k, z) :: is) ls (xI x :: st) M h c n = (wpL Cl E J Φ is (x_up ls i.val (xI x)) st M h c n) := rfl
theorem wq_astore (Cl : xCal) (E : Nat × Nat × Nat × xSc) (J : xJT) (Φ : xO → xM → xH → Prop) (is : List xPI) (ls : xL) (st : List xV) (M : xM) (h : xH) (c n : Nat) (i : Nat) (x : Nat ⊕ Nat ⊕ Nat) (k : List Nat) (z : List xMD) : wpL Cl E J Φ ((.astore i, k, z) :: is) ls ((.inr (.inr x)) :: st) M h c n = (wpL Cl E J Φ is (x_up ls i ((.inr (.inr x)))) st M h c n) := rfl
theorem wq_astore_n (Cl : xCal) (E : Nat × Nat × Nat × xSc) (J : xJT) (Φ : xO → xM → xH → Prop) (is : List xPI) (ls : xL) (st : List xV) (M : xM) (h : xH) (c n : Nat) (i : Fin 4) (x : Nat ⊕ Nat ⊕ Nat) (k : List Nat) (z : List xMD) : wpL Cl E J Φ ((.astore_n i, k, z) :: is) ls ((.inr (.inr x)) :: st) M h c n = (wpL Cl E J Φ is (x_up ls i.val ((.inr (.inr x)))) st M h c n) := rfl
theorem wq_lstore (Cl : xCal) (E : Nat × Nat × Nat × xSc) (J : xJT) (Φ : xO → xM → xH → Prop) (is : List xPI) (ls : xL) (st : List xV) (M : xM) (h : xH) (c n : Nat) (i : Nat) (x : Int) (k : List Nat) (z : List xMD) : wpL Cl E J Φ ((.lstore i, k, z) :: is) ls (xJ x :: st) M h c n = (wpL Cl E J Φ is (x_up2 ls i (xJ x)) st M h c n) := rfl
theorem wq_lstore_n (Cl : xCal) (E : Nat × Nat × Nat × xSc) (J : xJT) (Φ : xO → xM → xH → Prop) (is : List xPI) (ls : xL) (st : List xV) (M : xM) (h : xH) (c n : Nat) (i : Fin 4) (x : Int) (k : List Nat) (z : List xMD) : wpL Cl E J Φ ((.lstore_n i, k, z) :: is) ls (xJ x :: st) M h c n = (wpL Cl E J Φ is (x_up2 ls i.val (xJ x)) st M h c n) := rfl
theorem wq_iadd (Cl : xCal) (E : Nat × Nat × Nat × xSc) (J : xJT) (Φ : xO → xM → xH → Prop) (is : List xPI) (ls : xL) (st : List xV) (M : xM) (h : xH) (c n : Nat) (a b : Int) (k : List Nat) (z : List xMD) : wpL Cl E J Φ ((.iadd, k, z) :: is) ls (xI b :: xI a :: st) M h c n = (wpL Cl E J Φ is ls (xI (w32 (a + b)) :: st) M h c n) := rfl
theorem wq_isub (Cl : xCal) (E : Nat × Nat × Nat × xSc) (J : xJT) (Φ : xO → xM → xH → Prop) (is : List xPI) (ls : xL) (st : List xV) (M : xM) (h : xH) (c n : Nat) (a b : Int) (k : List Nat) (z : List xMD) : wpL Cl E J Φ ((.isub, k, z) :: is) ls (xI b :: xI a :: st) M h c n = (wpL Cl E J Φ is ls (xI (w32 (a - b)) :: st) M h c n) := rfl
theorem wq_imul (Cl : xCal) (E : Nat × Nat × Nat × xSc) (J : xJT) (Φ : xO → xM → xH → Prop) (is : List xPI) (ls : xL) (st : List xV) (M : xM) (h : xH) (c n : Nat) (a b : Int) (k : List Nat) (z : List xMD) : wpL Cl E J Φ ((.imul, k, z) :: is) ls (xI b :: xI a :: st) M h c n = (wpL Cl E J Φ is ls (xI (w32 (a * b)) :: st) M h c n) := rfl
theorem wq_iand (Cl : xCal) (E : Nat × Nat × Nat × xSc) (J : xJT) (Φ : xO → xM → xH → Prop) (is : List xPI) (ls : xL) (st : List xV) (M : xM) (h : xH) (c n : Nat) (a b : Int) (k : List Nat) (z : List xMD) : wpL Cl E J Φ ((.iand, k, z) :: is) ls (xI b :: xI a :: st) M h c n = (wpL Cl E J Φ is ls (xI (x_and a b) :: st) M h c n) := rfl
theorem wq_ior (Cl : xCal) (E : Nat × Nat × Nat × xSc) (J : xJT) (Φ : xO → xM → xH → Prop) (is : List xPI) (ls : xL) (st : List xV) (M : xM) (h : xH) (c n : Nat) (a b : Int) (k : List Nat) (z : List xMD) : wpL Cl E J Φ ((.ior, k, z) :: is) ls (xI b :: xI a :: st) M h c n = (wpL Cl E J Φ is ls (xI (x_or a b) :: st) M h c n) := rfl
theorem wq_ixor (Cl : xCal) (E : Nat × Nat × Nat × xSc) (J : xJT) (Φ : xO → xM → xH → Prop) (is : List xPI) (ls : xL) (st : List xV) (M : xM) (h : xH) (c n : Nat) (a b : Int) (k : List Nat) (z : List xMD) : wpL Cl E J Φ ((.ixor, k, z) :: is) ls (xI b :: xI a :: st) M h c n = (wpL Cl E J Φ is ls (xI (x_xor a b) :: st) M h c n) := rfl
theorem wq_ishl (Cl : xCal) (E : Nat × Nat × Nat × xSc) (J : xJT) (Φ : xO → xM → xH → Prop) (is : List xPI) (ls : xL) (st : List xV) (M : xM) (h : xH) (c n : Nat) (a b : Int) (k : List Nat) (z : List xMD) : wpL Cl E J Φ ((.ishl, k, z) :: is) ls (xI b :: xI a :: st) M h c n = (wpL Cl E J Φ is ls (xI (x_shl a b) :: st) M h c n) := rfl
theorem wq_ishr (Cl : xCal) (E : Nat × Nat × Nat × xSc) (J : xJT) (Φ : xO → xM → xH → Prop) (is : List xPI) (ls : xL) (st : List xV) (M : xM) (h : xH) (c n : Nat) (a b : Int) (k : List Nat) (z : List xMD) : wpL Cl E J Φ ((.ishr, k, z) :: is) ls (xI b :: xI a :: st) M h c n = (wpL Cl E J Φ is ls (xI (x_shr a b) :: st) M h c n) := rfl
theorem wq_idiv (Cl : xCal) (E : Nat × Nat × Nat × xSc) (J : xJT) (Φ : xO → xM → xH → Prop) (is : List xPI) (ls : xL) (st : List xV) (M : xM) (h : xH) (c n : Nat) (a b : Int) (k : List Nat) (z : List xMD) : wpL Cl E J Φ ((.idiv, k, z) :: is) ls (xI b :: xI a :: st) M h c n = (b ≠ 0 ∧ wpL Cl E J Φ is ls (xI (x_div a b) :: st) M h c n) := rfl
theorem wq_irem (Cl : xCal) (E : Nat × Nat × Nat × xSc) (J : xJT) (Φ : xO → xM → xH → Prop) (is : List xPI) (ls : xL) (st : List xV) (M : xM) (h : xH) (c n : Nat) (a b : Int) (k : List Nat) (z : List xMD) : wpL Cl E J Φ ((.irem, k, z) :: is) ls (xI b :: xI a :: st) M h c n = (b ≠ 0 ∧ wpL Cl E J Φ is ls (xI (x_rem a b) :: st) M h c n) := rfl
theorem wq_i2l (Cl : xCal) (E : Nat × Nat × Nat × xSc) (J : xJT) (Φ : xO → xM → xH → Prop) (is : List xPI) (ls : xL) (st : List xV) (M : xM) (h : xH) (c n : Nat) (a : Int) (k : List Nat) (z : List xMD) : wpL Cl E J Φ ((.i2l, k, z) :: is) ls (xI a :: st) M h c n = (wpL Cl E J Φ is ls (xJ a :: st) M h c n) := rfl
theorem wq_l2i (Cl : xCal) (E : Nat × Nat × Nat × xSc) (J : xJT) (Φ : xO → xM → xH → Prop) (is : List xPI) (ls : xL) (st : List xV) (M : xM) (h : xH) (c n : Nat) (a : Int) (k : List Nat) (z : List xMD) : wpL Cl E J Φ ((.l2i, k, z) :: is) ls (xJ a :: st) M h c n = (wpL Cl E J Φ is ls (xI (w32 a) :: st) M h c n) := rfl
theorem wq_i2b (Cl : xCal) (E : Nat × Nat × Nat × xSc) (J : xJT) (Φ : xO → xM → xH → Prop) (is : List xPI) (ls : xL) (st : List xV) (M : xM) (h : xH) (c n : Nat) (a : Int) (k : List Nat) (z : List xMD) : wpL Cl E J Φ ((.i2b, k, z) :: is) ls (xI a :: st) M h c n = (wpL Cl E J Φ is ls (xI (w8 a) :: st) M h c n) := rfl
theorem wq_ladd (Cl : xCal) (E : Nat × Nat × Nat × xSc) (J : xJT) (Φ : xO → xM → xH → Prop) (is : List xPI) (ls : xL) (st : List xV) (M : xM) (h : xH) (c n : Nat) (a b : Int) (k : List Nat) (z : List xMD) : wpL Cl E J Φ ((.ladd, k, z) :: is) ls (xJ b :: xJ a :: st) M h c n = (wpL Cl E J Φ is ls (xJ (w64 (a + b)) :: st) M h c n) := rfl
theorem wq_lsub (Cl : xCal) (E : Nat × Nat × Nat × xSc) (J : xJT) (Φ : xO → xM → xH → Prop) (is : List xPI) (ls : xL) (st : List xV) (M : xM) (h : xH) (c n : Nat) (a b : Int) (k : List Nat) (z : List xMD) : wpL Cl E J Φ ((.lsub, k, z) :: is) ls (xJ b :: xJ a :: st) M h c n = (wpL Cl E J Φ is ls (xJ (w64 (a - b)) :: st) M h c n) := rfl
theorem wq_lmul (Cl : xCal) (E : Nat × Nat × Nat × xSc) (J : xJT) (Φ : xO → xM → xH → Prop) (is : List xPI) (ls : xL) (st : List xV) (M : xM) (h : xH) (c n : Nat) (a b : Int) (k : List Nat) (z : List xMD) : wpL Cl E J Φ ((.lmul, k, z) :: is) ls (xJ b :: xJ a :: st) M h c n = (wpL Cl E J Φ is ls (xJ (w64 (a * b)) :: st) M h c n) := rfl
theorem wq_land (Cl : xCal) (E : Nat × Nat × Nat × xSc) (J : xJT) (Φ : xO → xM → xH → Prop) (is : List xPI) (ls : xL) (st : List xV) (M : xM) (h : xH) (c n : Nat) (a b : Int) (k : List Nat) (z : List xMD) : wpL Cl E J Φ ((.land, k, z) :: is) ls (xJ b :: xJ a :: st) M h c n = (wpL Cl E J Φ is ls (xJ (x_landL a b) :: st) M h c n) := rfl
theorem wq_lshr (Cl : xCal) (E : Nat × Nat × Nat × xSc) (J : xJT) (Φ : xO → xM → xH → Prop) (is : List xPI) (ls : xL) (st : List xV) (M : xM) (h : xH) (c n : Nat) (a b : Int) (k : List Nat) (z : List xMD) : wpL Cl E J Φ ((.lshr, k, z) :: is) ls (xI b :: xJ a :: st) M h c n = (wpL Cl E J Φ is ls (xJ (x_shrL a b) :: st) M h c n) := rfl
theorem wq_lcmp (Cl : xCal) (E : Nat × Nat × Nat × xSc) (J : xJT) (Φ : xO → xM → xH → Prop) (is : List xPI) (ls : xL) (st : List xV) (M : xM) (h : xH) (c n : Nat) (a b : Int) (k : List Nat) (z : List xMD) : wpL Cl E J Φ ((.lcmp, k, z) :: is) ls (xJ b :: xJ a :: st) M h c n = (wpL Cl E J Φ is ls (xI (x_cmp a b) :: st) M h c n) := rfl
theorem wq_dup (Cl : xCal) (E : Nat × Nat × Nat × xSc) (J : xJT) (Φ : xO → xM → xH → Prop) (is : List xPI) (ls : xL) (st : List xV) (M : xM) (h : xH) (c n : Nat) (v : xV) (k : List Nat) (z : List xMD) : wpL Cl E J Φ ((.dup, k, z) :: is) ls (v :: st) M h c n = (x_cat v = 1 ∧ wpL Cl E J Φ is ls (v :: v :: st) M h c n) := rfl
theorem wq_dup2 (Cl : xCal) (E : Nat × Nat × Nat × xSc) (J : xJT) (Φ : xO → xM → xH → Prop) (is : List xPI) (ls : xL) (st : List xV) (M : xM) (h : xH) (c n : Nat) (v w : xV) (k : List Nat) (z : List xMD) : wpL Cl E J Φ ((.dup2, k, z) :: is) ls (v :: w :: st) M h c n = (x_cat v = 1 ∧ x_cat w = 1 ∧ wpL Cl E J Φ is ls (v :: w :: v :: w :: st) M h c n) := rfl
theorem wq_pop (Cl : xCal) (E : Nat × Nat × Nat × xSc) (J : xJT) (Φ : xO → xM → xH → Prop) (is : List xPI) (ls : xL) (st : List xV) (M : xM) (h : xH) (c n : Nat) (v : xV) (k : List Nat) (z : List xMD) : wpL Cl E J Φ ((.pop, k, z) :: is) ls (v :: st) M h c n = (x_cat v = 1 ∧ wpL Cl E J Φ is ls st M h c n) := rfl
theorem wq_if_eq (Cl : xCal) (E : Nat × Nat × Nat × xSc) (J : xJT) (Φ : xO → xM → xH → Prop) (is : List xPI) (ls : xL) (st : List xV) (M : xM) (h : xH) (c n : Nat) (a : Int) (o : Int) (t : Nat) (z : List xMD) : wpL Cl E J Φ ((.ifCond .eq o, [t], z) :: is) ls (xI a :: st) M h c n = (((a = 0) → J t ls st M h c n) ∧ (¬ (a = 0) → wpL Cl E J Φ is ls st M h c n)) := rfl
theorem wq_ic_eq (Cl : xCal) (E : Nat × Nat × Nat × xSc) (J : xJT) (Φ : xO → xM → xH → Prop) (is : List xPI) (ls : xL) (st : List xV) (M : xM) (h : xH) (c n : Nat) (a b : Int) (o : Int) (t : Nat) (z : List xMD) : wpL Cl E J Φ ((.if_icmp .eq o, [t], z) :: is) ls (xI b :: xI a :: st) M h c n = (((a = b) → J t ls st M h c n) ∧ (¬ (a = b) → wpL Cl E J Φ is ls st M h c n)) := rfl
theorem wq_if_ne (Cl : xCal) (E : Nat × Nat × Nat × xSc) (J : xJT) (Φ : xO → xM → xH → Prop) (is : List xPI) (ls : xL) (st : List xV) (M : xM) (h : xH) (c n : Nat) (a : Int) (o : Int) (t : Nat) (z : List xMD) : wpL Cl E J Φ ((.ifCond .ne o, [t], z) :: is) ls (xI a :: st) M h c n = (((a ≠ 0) → J t ls st M h c n) ∧ (¬ (a ≠ 0) → wpL Cl E J Φ is ls st M h c n)) := rfl
theorem wq_ic_ne (Cl : xCal) (E : Nat × Nat × Nat × xSc) (J : xJT) (Φ : xO → xM → xH → Prop) (is : List xPI) (ls : xL) (st : List xV) (M : xM) (h : xH) (c n : Nat) (a b : Int) (o : Int) (t : Nat) (z : List xMD) : wpL Cl E J Φ ((.if_icmp .ne o, [t], z) :: is) ls (xI b :: xI a :: st) M h c n = (((a ≠ b) → J t ls st M h c n) ∧ (¬ (a ≠ b) → wpL Cl E J Φ is ls st M h c n)) := rfl
theorem wq_if_lt (Cl : xCal) (E : Nat × Nat × Nat × xSc) (J : xJT) (Φ : xO → xM → xH → Prop) (is : List xPI) (ls : xL) (st : List xV) (M : xM) (h : xH) (c n : Nat) (a : Int) (o : Int) (t : Nat) (z : List xMD) : wpL Cl E J Φ ((.ifCond .lt o, [t], z) :: is) ls (xI a :: st) M h c n = (((a < 0) → J t ls st M h c n) ∧ (¬ (a < 0) → wpL Cl E J Φ is ls st M h c n)) := rfl
theorem wq_ic_lt (Cl : xCal) (E : Nat × Nat × Nat × xSc) (J : xJT) (Φ : xO → xM → xH → Prop) (is : List xPI) (ls : xL) (st : List xV) (M : xM) (h : xH) (c n : Nat) (a b : Int) (o : Int) (t : Nat) (z : List xMD) : wpL Cl E J Φ ((.if_icmp .lt o, [t], z) :: is) ls (xI b :: xI a :: st) M h c n = (((a < b) → J t ls st M h c n) ∧ (¬ (a < b) → wpL Cl E J Φ is ls st M h c n)) := rfl
theorem wq_if_ge (Cl : xCal) (E : Nat × Nat × Nat × xSc) (J : xJT) (Φ : xO → xM → xH → Prop) (is : List xPI) (ls : xL) (st : List xV) (M : xM) (h : xH) (c n : Nat) (a : Int) (o : Int) (t : Nat) (z : List xMD) : wpL Cl E J Φ ((.ifCond .ge o, [t], z) :: is) ls (xI a :: st) M h c n = (((0 ≤ a) → J t ls st M h c n) ∧ (¬ (0 ≤ a) → wpL Cl E J Φ is ls st M h c n)) := rfl
theorem wq_ic_ge (Cl : xCal) (E : Nat × Nat × Nat × xSc) (J : xJT) (Φ : xO → xM → xH → Prop) (is : List xPI) (ls : xL) (st : List xV) (M : xM) (h : xH) (c n : Nat) (a b : Int) (o : Int) (t : Nat) (z : List xMD) : wpL Cl E J Φ ((.if_icmp .ge o, [t], z) :: is) ls (xI b :: xI a :: st) M h c n = (((b ≤ a) → J t ls st M h c n) ∧ (¬ (b ≤ a) → wpL Cl E J Φ is ls st M h c n)) := rfl
theorem wq_if_gt (Cl : xCal) (E : Nat × Nat × Nat × xSc) (J : xJT) (Φ : xO → xM → xH → Prop) (is : List xPI) (ls : xL) (st : List xV) (M : xM) (h : xH) (c n : Nat) (a : Int) (o : Int) (t : Nat) (z : List xMD) : wpL Cl E J Φ ((.ifCond .gt o, [t], z) :: is) ls (xI a :: st) M h c n = (((0 < a) → J t ls st M h c n) ∧ (¬ (0 < a) → wpL Cl E J Φ is ls st M h c n)) := rfl
theorem wq_ic_gt (Cl : xCal) (E : Nat × Nat × Nat × xSc) (J : xJT) (Φ : xO → xM → xH → Prop) (is : List xPI) (ls : xL) (st : List xV) (M : xM) (h : xH) (c n : Nat) (a b : Int) (o : Int) (t : Nat) (z : List xMD) : wpL Cl E J Φ ((.if_icmp .gt o, [t], z) :: is) ls (xI b :: xI a :: st) M h c n = (((b < a) → J t ls st M h c n) ∧ (¬ (b < a) → wpL Cl E J Φ is ls st M h c n)) := rfl
theorem wq_if_le (Cl : xCal) (E : Nat × Nat × Nat × xSc) (J : xJT) (Φ : xO → xM → xH → Prop) (is : List xPI) (ls : xL) (st : List xV) (M : xM) (h : xH) (c n : Nat) (a : Int) (o : Int) (t : Nat) (z : List xMD) : wpL Cl E J Φ ((.ifCond .le o, [t], z) :: is) ls (xI a :: st) M h c n = (((a ≤ 0) → J t ls st M h c n) ∧ (¬ (a ≤ 0) → wpL Cl E J Φ is ls st M h c n)) := rfl
theorem wq_ic_le (Cl : xCal) (E : Nat × Nat × Nat × xSc) (J : xJT) (Φ : xO → xM → xH → Prop) (is : List xPI) (ls : xL) (st : List xV) (M : xM) (h : xH) (c n : Nat) (a b : Int) (o : Int) (t : Nat) (z : List xMD) : wpL Cl E J Φ ((.if_icmp .le o, [t], z) :: is) ls (xI b :: xI a :: st) M h c n = (((a ≤ b) → J t ls st M h c n) ∧ (¬ (a ≤ b) → wpL Cl E J Φ is ls st M h c n)) := rfl
theorem wq_ifnull (Cl : xCal) (E : Nat × Nat × Nat × xSc) (J : xJT) (Φ : xO → xM → xH → Prop) (is : List xPI) (ls : xL) (st : List xV) (M : xM) (h : xH) (c n : Nat) (r : Nat) (o : Int) (t : Nat) (z : List xMD) : wpL Cl E J Φ ((.ifnull o, [t], z) :: is) ls (xA r :: st) M h c n = ((r = 0 → J t ls st M h c n) ∧ (r ≠ 0 → wpL Cl E J Φ is ls st M h c n)) := rfl
theorem wq_ifnonnull (Cl : xCal) (E : Nat × Nat × Nat × xSc) (J : xJT) (Φ : xO → xM → xH → Prop) (is : List xPI) (ls : xL) (st : List xV) (M : xM) (h : xH) (c n : Nat) (r : Nat) (o : Int) (t : Nat) (z : List xMD) : wpL Cl E J Φ ((.ifnonnull o, [t], z) :: is) ls (xA r :: st) M h c n = ((r ≠ 0 → J t ls st M h c n) ∧ (r = 0 → wpL Cl E J Φ is ls st M h c n)) := rfl
theorem wq_goto (Cl : xCal) (E : Nat × Nat × Nat × xSc) (J : xJT) (Φ : xO → xM → xH → Prop) (is : List xPI) (ls : xL) (st : List xV) (M : xM) (h : xH) (c n : Nat) (o : Int) (t : Nat) (z : List xMD) : wpL Cl E J Φ ((.goto o, [t], z) :: is) ls st M h c n = (J t ls st M h c n) := rfl
theorem wq_ts (Cl : xCal) (E : Nat × Nat × Nat × xSc) (J : xJT) (Φ : xO → xM → xH → Prop) (is : List xPI) (ls : xL) (st : List xV) (M : xM) (h : xH) (c n : Nat) (d lo hi : Int) (os : Array Int) (t : Nat) (ts : List Nat) (x : Int) (z : List xMD) : wpL Cl E J Φ ((.tableswitch d lo hi os, t :: ts, z) :: is) ls (xI x :: st) M h c n = (x_sw J ls st M h c n x (x < lo ∨ hi < x → J t ls st M h c n) lo ts) := rfl
theorem wq_lk (Cl : xCal) (E : Nat × Nat × Nat × xSc) (J : xJT) (Φ : xO → xM → xH → Prop) (is : List xPI) (ls : xL) (st : List xV) (M : xM) (h : xH) (c n : Nat) (d : Int) (ps : Array (Int × Int)) (t : Nat) (ts : List Nat) (x : Int) (z : List xMD) : wpL Cl E J Φ ((.lookupswitch d ps, t :: ts, z) :: is) ls (xI x :: st) M h c n = (x_lk J ls st M h c n x (J t ls st M h c n) (ps.toList.map (fun p => p.1)) ts) := rfl
theorem wq_gf0 (Cl : xCal) (E : Nat × Nat × Nat × xSc) (J : xJT) (Φ : xO → xM → xH → Prop) (is : List xPI) (ls : xL) (st : List xV) (M : xM) (h : xH) (c n : Nat) (j q i a : Nat) (k : List Nat) (z : List xMD) : wpL Cl E J Φ ((.getfield j, q :: i :: 0 :: k, z) :: is) ls (xA a :: st) M h c n = (hK h a = q ∧ wpL Cl E J Φ is ls (xI (M a i) :: st) M h c n) := rfl
theorem wq_gf1 (Cl : xCal) (E : Nat × Nat × Nat × xSc) (J : xJT) (Φ : xO → xM → xH → Prop) (is : List xPI) (ls : xL) (st : List xV) (M : xM) (h : xH) (c n : Nat) (j q i a : Nat) (k : List Nat) (z : List xMD) : wpL Cl E J Φ ((.getfield j, q :: i :: 1 :: k, z) :: is) ls (xA a :: st) M h c n = (hK h a = q ∧ wpL Cl E J Φ is ls (xJ (M a i) :: st) M h c n) := rfl
theorem wq_gf2 (Cl : xCal) (E : Nat × Nat × Nat × xSc) (J : xJT) (Φ : xO → xM → xH → Prop) (is : List xPI) (ls : xL) (st : List xV) (M : xM) (h : xH) (c n : Nat) (j q i a : Nat) (k : List Nat) (z : List xMD) : wpL Cl E J Φ ((.getfield j, q :: i :: 2 :: k, z) :: is) ls (xA a :: st) M h c n = (hK h a = q ∧ wpL Cl E J Φ is ls (xA (hP h a i) :: st) M h c n) := rfl
theorem wq_pf0 (Cl : xCal) (E : Nat × Nat × Nat × xSc) (J : xJT) (Φ : xO → xM → xH → Prop) (is : List xPI) (ls : xL) (st : List xV) (M : xM) (h : xH) (c n : Nat) (j q i a : Nat) (v : Int) (k : List Nat) (z : List xMD) : wpL Cl E J Φ ((.putfield j, q :: i :: 0 :: k, z) :: is) ls (xI v :: xA a :: st) M h c n = (hK h a = q ∧ wpL Cl E J Φ is ls st (x_w M a i v) h c n) := rfl
theorem wq_pf1 (Cl : xCal) (E : Nat × Nat × Nat × xSc) (J : xJT) (Φ : xO → xM → xH → Prop) (is : List xPI) (ls : xL) (st : List xV) (M : xM) (h : xH) (c n : Nat) (j q i a : Nat) (v : Int) (k : List Nat) (z : List xMD) : wpL Cl E J Φ ((.putfield j, q :: i :: 1 :: k, z) :: is) ls (xJ v :: xA a :: st) M h c n = (hK h a = q ∧ wpL Cl E J Φ is ls st (x_w M a i v) h c n) := rfl
theorem wq_pf2 (Cl : xCal) (E : Nat × Nat × Nat × xSc) (J : xJT) (Φ : xO → xM → xH → Prop) (is : List xPI) (ls : xL) (st : List xV) (M : xM) (h : xH) (c n : Nat) (j q i a r : Nat) (k : List Nat) (z : List xMD) : wpL Cl E J Φ ((.putfield j, q :: i :: 2 :: k, z) :: is) ls (xA r :: xA a :: st) M h c n = (hK h a = q ∧ wpL Cl E J Φ is ls st M (x_pw h a i r) c n) := rfl
theorem wq_iaload (Cl : xCal) (E : Nat × Nat × Nat × xSc) (J : xJT) (Φ : xO → xM → xH → Prop) (is : List xPI) (ls : xL) (st : List xV) (M : xM) (h : xH) (c n : Nat) (a : Nat) (i : Int) (k : List Nat) (z : List xMD) : wpL Cl E J Φ ((.iaload, k, z) :: is) ls (xI i :: xA a :: st) M h c n = (hK h a = 20 ∧ (0 ≤ i ∧ i < hL h a) ∧ wpL Cl E J Φ is ls (xI (M a i) :: st) M h c n) := rfl
theorem wq_baload (Cl : xCal) (E : Nat × Nat × Nat × xSc) (J : xJT) (Φ : xO → xM → xH → Prop) (is : List xPI) (ls : xL) (st : List xV) (M : xM) (h : xH) (c n : Nat) (a : Nat) (i : Int) (k : List Nat) (z : List xMD) : wpL Cl E J Φ ((.baload, k, z) :: is) ls (xI i :: xA a :: st) M h c n = (hK h a = 21 ∧ (0 ≤ i ∧ i < hL h a) ∧ wpL Cl E J Φ is ls (xI (M a i) :: st) M h c n) := rfl
theorem wq_aaload (Cl : xCal) (E : Nat × Nat × Nat × xSc) (J : xJT) (Φ : xO → xM → xH → Prop) (is : List xPI) (ls : xL) (st : List xV) (M : xM) (h : xH) (c n : Nat) (a : Nat) (i : Int) (k : List Nat) (z : List xMD) : wpL Cl E J Φ ((.aaload, k, z) :: is) ls (xI i :: xA a :: st) M h c n = ((hK h a = 23 ∨ hK h a = 24) ∧ (0 ≤ i ∧ i < hL h a) ∧ wpL Cl E J Φ is ls (xA (hP h a i) :: st) M h c n) := rfl
theorem wq_iastore (Cl : xCal) (E : Nat × Nat × Nat × xSc) (J : xJT) (Φ : xO → xM → xH → Prop) (is : List xPI) (ls : xL) (st : List xV) (M : xM) (h : xH) (c n : Nat) (a : Nat) (i v : Int) (k : List Nat) (z : List xMD) : wpL Cl E J Φ ((.iastore, k, z) :: is) ls (xI v :: xI i :: xA a :: st) M h c n = (hK h a = 20 ∧ (0 ≤ i ∧ i < hL h a) ∧ wpL Cl E J Φ is ls st (x_w M a i v) h c n) := rfl
theorem wq_bastore (Cl : xCal) (E : Nat × Nat × Nat × xSc) (J : xJT) (Φ : xO → xM → xH → Prop) (is : List xPI) (ls : xL) (st : List xV) (M : xM) (h : xH) (c n : Nat) (a : Nat) (i v : Int) (k : List Nat) (z : List xMD) : wpL Cl E J Φ ((.bastore, k, z) :: is) ls (xI v :: xI i :: xA a :: st) M h c n = (hK h a = 21 ∧ (0 ≤ i ∧ i < hL h a) ∧ wpL Cl E J Φ is ls st (x_w M a i (w8 v)) h c n) := rfl
theorem wq_aastore (Cl : xCal) (E : Nat × Nat × Nat × xSc) (J : xJT) (Φ : xO → xM → xH → Prop) (is : List xPI) (ls : xL) (st : List xV) (M : xM) (h : xH) (c n : Nat) (a r : Nat) (i : Int) (k : List Nat) (z : List xMD) : wpL Cl E J Φ ((.aastore, k, z) :: is) ls (xA r :: xI i :: xA a :: st) M h c n = ((hK h a = 23 ∧ (r = 0 ∨ hK h r = 1) ∨ hK h a = 24 ∧ (r = 0 ∨ hK h r = 4)) ∧ (0 ≤ i ∧ i < hL h a) ∧ wpL Cl E J Φ is ls st M (x_pw h a i r) c n) := rfl
theorem wq_alen (Cl : xCal) (E : Nat × Nat × Nat × xSc) (J : xJT) (Φ : xO → xM → xH → Prop) (is : List xPI) (ls : xL) (st : List xV) (M : xM) (h : xH) (c n : Nat) (a : Nat) (k : List Nat) (z : List xMD) : wpL Cl E J Φ ((.arraylength, k, z) :: is) ls (xA a :: st) M h c n = (20 ≤ hK h a ∧ hK h a ≤ 24 ∧ wpL Cl E J Φ is ls (xI (hL h a) :: st) M h c n) := rfl
theorem wq_sld (Cl : xCal) (E : Nat × Nat × Nat × xSc) (J : xJT) (Φ : xO → xM → xH → Prop) (is : List xPI) (ls : xL) (st : List xV) (M : xM) (h : xH) (c n : Nat) (a : Nat) (i : Int) (k : List Nat) (z : List xMD) : wpL Cl E J Φ ((.iaload, k, z) :: is) ls (xI i :: xE a :: st) M h c n = (a = E.2.2.2.1 ∧ (0 ≤ i ∧ i < E.2.2.2.2.1) ∧ wpL Cl E J Φ is ls (xI (E.2.2.2.2.2 i) :: st) M h c n) := rfl
theorem wq_slen (Cl : xCal) (E : Nat × Nat × Nat × xSc) (J : xJT) (Φ : xO → xM → xH → Prop) (is : List xPI) (ls : xL) (st : List xV) (M : xM) (h : xH) (c n : Nat) (a : Nat) (k : List Nat) (z : List xMD) : wpL Cl E J Φ ((.arraylength, k, z) :: is) ls (xE a :: st) M h c n = (a = E.2.2.2.1 ∧ 0 ≤ E.2.2.2.2.1 ∧ wpL Cl E J Φ is ls (xI E.2.2.2.2.1 :: st) M h c n) := rfl
theorem wq_new (Cl : xCal) (E : Nat × Nat × Nat × xSc) (J : xJT) (Φ : xO → xM → xH → Prop) (is : List xPI) (ls : xL) (st : List xV) (M : xM) (h : xH) (c n : Nat) (j q : Nat) (k : List Nat) (z : List xMD) : wpL Cl E J Φ ((.new j, q :: k, z) :: is) ls st M h c n = ((c + 1 ≤ E.1 ∧ n + x_N q ≤ E.2.1) ∧ wpL Cl E J Φ is ls (xA (hn h) :: st) (x_z M h) (x_new h q 0) (c + 1) (n + x_N q)) := rfl
theorem wq_newa (Cl : xCal) (E : Nat × Nat × Nat × xSc) (J : xJT) (Φ : xO → xM → xH → Prop) (is : List xPI) (ls : xL) (st : List xV) (M : xM) (h : xH) (c n : Nat) (j : ArrayType) (q : Nat) (x : Int) (k : List Nat) (z : List xMD) : wpL Cl E J Φ ((.newarray j, q :: k, z) :: is) ls (xI x :: st) M h c n = ((0 ≤ x ∧ x ≤ 50000 ∧ c + 1 ≤ E.1 ∧ n + x.toNat ≤ E.2.1) ∧ wpL Cl E J Φ is ls (xA (hn h) :: st) (x_z M h) (x_new h q x) (c + 1) (n + x.toNat)) := rfl
theorem wq_anew (Cl : xCal) (E : Nat × Nat × Nat × xSc) (J : xJT) (Φ : xO → xM → xH → Prop) (is : List xPI) (ls : xL) (st : List xV) (M : xM) (h : xH) (c n : Nat) (j q : Nat) (x : Int) (k : List Nat) (z : List xMD) : wpL Cl E J Φ ((.anewarray j, q :: k, z) :: is) ls (xI x :: st) M h c n = ((0 ≤ x ∧ x ≤ 50000 ∧ c + 1 ≤ E.1 ∧ n + x.toNat ≤ E.2.1) ∧ wpL Cl E J Φ is ls (xA (hn h) :: st) (x_z M h) (x_new h q x) (c + 1) (n + x.toNat)) := rfl
theorem wq_invokevirtual0 (Cl : xCal) (E : Nat × Nat × Nat × xSc) (J : xJT) (Φ : xO → xM → xH → Prop) (is : List xPI) (ls : xL) (st : List xV) (M : xM) (h : xH) (c n : Nat) (j mc ms q : Nat) (z : xMD) (k : List Nat) (r : Nat) : wpL Cl E J Φ ((.invokevirtual j, 0 :: mc :: ms :: q :: k, [z]) :: is) ls (xA r :: st) M h c n = ((q < 50 ∧ hK h r = q) ∧ (c + mc ≤ E.1 ∧ n + ms ≤ E.2.1) ∧ (st.map x_cat).sum ≤ 8 ∧ 0 + 1 ≤ (xA r :: st).length ∧ Cl z [xA r] M h (x_k Cl E J Φ is ls st (c + mc) (n + ms))) := rfl
theorem wq_invokespecial0 (Cl : xCal) (E : Nat × Nat × Nat × xSc) (J : xJT) (Φ : xO → xM → xH → Prop) (is : List xPI) (ls : xL) (st : List xV) (M : xM) (h : xH) (c n : Nat) (j mc ms q : Nat) (z : xMD) (k : List Nat) (r : Nat) : wpL Cl E J Φ ((.invokespecial j, 0 :: mc :: ms :: q :: k, [z]) :: is) ls (xA r :: st) M h c n = ((q < 50 ∧ hK h r = q) ∧ (c + mc ≤ E.1 ∧ n + ms ≤ E.2.1) ∧ (st.map x_cat).sum ≤ 8 ∧ 0 + 1 ≤ (xA r :: st).length ∧ Cl z [xA r] M h (x_ki Cl E J Φ is ls st (c + mc) (n + ms))) := rfl
theorem wq_invokevirtual1 (Cl : xCal) (E : Nat × Nat × Nat × xSc) (J : xJT) (Φ : xO → xM → xH → Prop) (is : List xPI) (ls : xL) (st : List xV) (M : xM) (h : xH) (c n : Nat) (j mc ms q : Nat) (z : xMD) (k : List Nat) (r : Nat) (a0 : xV) : wpL Cl E J Φ ((.invokevirtual j, 1 :: mc :: ms :: q :: k, [z]) :: is) ls (a0 :: xA r :: st) M h c n = ((q < 50 ∧ hK h r = q) ∧ (c + mc ≤ E.1 ∧ n + ms ≤ E.2.1) ∧ (st.map x_cat).sum ≤ 8 ∧ 1 + 1 ≤ (a0 :: xA r :: st).length ∧ Cl z [xA r, a0] M h (x_k Cl E J Φ is ls st (c + mc) (n + ms))) := rfl
theorem wq_invokespecial1 (Cl : xCal) (E : Nat × Nat × Nat × xSc) (J : xJT) (Φ : xO → xM → xH → Prop) (is : List xPI) (ls : xL) (st : List xV) (M : xM) (h : xH) (c n : Nat) (j mc ms q : Nat) (z : xMD) (k : List Nat) (r : Nat) (a0 : xV) : wpL Cl E J Φ ((.invokespecial j, 1 :: mc :: ms :: q :: k, [z]) :: is) ls (a0 :: xA r :: st) M h c n = ((q < 50 ∧ hK h r = q) ∧ (c + mc ≤ E.1 ∧ n + ms ≤ E.2.1) ∧ (st.map x_cat).sum ≤ 8 ∧ 1 + 1 ≤ (a0 :: xA r :: st).length ∧ Cl z [xA r, a0] M h (x_ki Cl E J Φ is ls st (c + mc) (n + ms))) := rfl
theorem wq_invokevirtual2 (Cl : xCal) (E : Nat × Nat × Nat × xSc) (J : xJT) (Φ : xO → xM → xH → Prop) (is : List xPI) (ls : xL) (st : List xV) (M : xM) (h : xH) (c n : Nat) (j mc ms q : Nat) (z : xMD) (k : List Nat) (r : Nat) (a0 a1 : xV) : wpL Cl E J Φ ((.invokevirtual j, 2 :: mc :: ms :: q :: k, [z]) :: is) ls (a1 :: a0 :: xA r :: st) M h c n = ((q < 50 ∧ hK h r = q) ∧ (c + mc ≤ E.1 ∧ n + ms ≤ E.2.1) ∧ (st.map x_cat).sum ≤ 8 ∧ 2 + 1 ≤ (a1 :: a0 :: xA r :: st).length ∧ Cl z [xA r, a0, a1] M h (x_k Cl E J Φ is ls st (c + mc) (n + ms))) := rfl
theorem wq_invokespecial2 (Cl : xCal) (E : Nat × Nat × Nat × xSc) (J : xJT) (Φ : xO → xM → xH → Prop) (is : List xPI) (ls : xL) (st : List xV) (M : xM) (h : xH) (c n : Nat) (j mc ms q : Nat) (z : xMD) (k : List Nat) (r : Nat) (a0 a1 : xV) : wpL Cl E J Φ ((.invokespecial j, 2 :: mc :: ms :: q :: k, [z]) :: is) ls (a1 :: a0 :: xA r :: st) M h c n = ((q < 50 ∧ hK h r = q) ∧ (c + mc ≤ E.1 ∧ n + ms ≤ E.2.1) ∧ (st.map x_cat).sum ≤ 8 ∧ 2 + 1 ≤ (a1 :: a0 :: xA r :: st).length ∧ Cl z [xA r, a0, a1] M h (x_ki Cl E J Φ is ls st (c + mc) (n + ms))) := rfl
theorem wq_invokevirtual3 (Cl : xCal) (E : Nat × Nat × Nat × xSc) (J : xJT) (Φ : xO → xM → xH → Prop) (is : List xPI) (ls : xL) (st : List xV) (M : xM) (h : xH) (c n : Nat) (j mc ms q : Nat) (z : xMD) (k : List Nat) (r : Nat) (a0 a1 a2 : xV) : wpL Cl E J Φ ((.invokevirtual j, 3 :: mc :: ms :: q :: k, [z]) :: is) ls (a2 :: a1 :: a0 :: xA r :: st) M h c n = ((q < 50 ∧ hK h r = q) ∧ (c + mc ≤ E.1 ∧ n + ms ≤ E.2.1) ∧ (st.map x_cat).sum ≤ 8 ∧ 3 + 1 ≤ (a2 :: a1 :: a0 :: xA r :: st).length ∧ Cl z [xA r, a0, a1, a2] M h (x_k Cl E J Φ is ls st (c + mc) (n + ms))) := rfl
theorem wq_invokespecial3 (Cl : xCal) (E : Nat × Nat × Nat × xSc) (J : xJT) (Φ : xO → xM → xH → Prop) (is : List xPI) (ls : xL) (st : List xV) (M : xM) (h : xH) (c n : Nat) (j mc ms q : Nat) (z : xMD) (k : List Nat) (r : Nat) (a0 a1 a2 : xV) : wpL Cl E J Φ ((.invokespecial j, 3 :: mc :: ms :: q :: k, [z]) :: is) ls (a2 :: a1 :: a0 :: xA r :: st) M h c n = ((q < 50 ∧ hK h r = q) ∧ (c + mc ≤ E.1 ∧ n + ms ≤ E.2.1) ∧ (st.map x_cat).sum ≤ 8 ∧ 3 + 1 ≤ (a2 :: a1 :: a0 :: xA r :: st).length ∧ Cl z [xA r, a0, a1, a2] M h (x_ki Cl E J Φ is ls st (c + mc) (n + ms))) := rfl
theorem wq_invokevirtual4 (Cl : xCal) (E : Nat × Nat × Nat × xSc) (J : xJT) (Φ : xO → xM → xH → Prop) (is : List xPI) (ls : xL) (st : List xV) (M : xM) (h : xH) (c n : Nat) (j mc ms q : Nat) (z : xMD) (k : List Nat) (r : Nat) (a0 a1 a2 a3 : xV) : wpL Cl E J Φ ((.invokevirtual j, 4 :: mc :: ms :: q :: k, [z]) :: is) ls (a3 :: a2 :: a1 :: a0 :: xA r :: st) M h c n = ((q < 50 ∧ hK h r = q) ∧ (c + mc ≤ E.1 ∧ n + ms ≤ E.2.1) ∧ (st.map x_cat).sum ≤ 8 ∧ 4 + 1 ≤ (a3 :: a2 :: a1 :: a0 :: xA r :: st).length ∧ Cl z [xA r, a0, a1, a2, a3] M h (x_k Cl E J Φ is ls st (c + mc) (n + ms))) := rfl
theorem wq_invokespecial4 (Cl : xCal) (E : Nat × Nat × Nat × xSc) (J : xJT) (Φ : xO → xM → xH → Prop) (is : List xPI) (ls : xL) (st : List xV) (M : xM) (h : xH) (c n : Nat) (j mc ms q : Nat) (z : xMD) (k : List Nat) (r : Nat) (a0 a1 a2 a3 : xV) : wpL Cl E J Φ ((.invokespecial j, 4 :: mc :: ms :: q :: k, [z]) :: is) ls (a3 :: a2 :: a1 :: a0 :: xA r :: st) M h c n = ((q < 50 ∧ hK h r = q) ∧ (c + mc ≤ E.1 ∧ n + ms ≤ E.2.1) ∧ (st.map x_cat).sum ≤ 8 ∧ 4 + 1 ≤ (a3 :: a2 :: a1 :: a0 :: xA r :: st).length ∧ Cl z [xA r, a0, a1, a2, a3] M h (x_ki Cl E J Φ is ls st (c + mc) (n + ms))) := rfl
theorem wq_invokevirtual5 (Cl : xCal) (E : Nat × Nat × Nat × xSc) (J : xJT) (Φ : xO → xM → xH → Prop) (is : List xPI) (ls : xL) (st : List xV) (M : xM) (h : xH) (c n : Nat) (j mc ms q : Nat) (z : xMD) (k : List Nat) (r : Nat) (a0 a1 a2 a3 a4 : xV) : wpL Cl E J Φ ((.invokevirtual j, 5 :: mc :: ms :: q :: k, [z]) :: is) ls (a4 :: a3 :: a2 :: a1 :: a0 :: xA r :: st) M h c n = ((q < 50 ∧ hK h r = q) ∧ (c + mc ≤ E.1 ∧ n + ms ≤ E.2.1) ∧ (st.map x_cat).sum ≤ 8 ∧ 5 + 1 ≤ (a4 :: a3 :: a2 :: a1 :: a0 :: xA r :: st).length ∧ Cl z [xA r, a0, a1, a2, a3, a4] M h (x_k Cl E J Φ is ls st (c + mc) (n + ms))) := rfl
theorem wq_invokespecial5 (Cl : xCal) (E : Nat × Nat × Nat × xSc) (J : xJT) (Φ : xO → xM → xH → Prop) (is : List xPI) (ls : xL) (st : List xV) (M : xM) (h : xH) (c n : Nat) (j mc ms q : Nat) (z : xMD) (k : List Nat) (r : Nat) (a0 a1 a2 a3 a4 : xV) : wpL Cl E J Φ ((.invokespecial j, 5 :: mc :: ms :: q :: k, [z]) :: is) ls (a4 :: a3 :: a2 :: a1 :: a0 :: xA r :: st) M h c n = ((q < 50 ∧ hK h r = q) ∧ (c + mc ≤ E.1 ∧ n + ms ≤ E.2.1) ∧ (st.map x_cat).sum ≤ 8 ∧ 5 + 1 ≤ (a4 :: a3 :: a2 :: a1 :: a0 :: xA r :: st).length ∧ Cl z [xA r, a0, a1, a2, a3, a4] M h (x_ki Cl E J Φ is ls st (c + mc) (n + ms))) := rfl
theorem wq_invokestr0 (Cl : xCal) (E : Nat × Nat × Nat × xSc) (J : xJT) (Φ : xO → xM → xH → Prop) (is : List xPI) (ls : xL) (st : List xV) (M : xM) (h : xH) (c n : Nat) (j mc ms q : Nat) (z : xMD) (k : List Nat) (r : Nat) : wpL Cl E J Φ ((.invokevirtual j, 0 :: mc :: ms :: q :: k, [z]) :: is) ls (xS r :: st) M h c n = (q = 50 ∧ (c + mc ≤ E.1 ∧ n + ms ≤ E.2.1) ∧ (st.map x_cat).sum ≤ 8 ∧ 0 + 1 ≤ (xS r :: st).length ∧ Cl z [xS r] M h (x_k Cl E J Φ is ls st (c + mc) (n + ms))) := rfl
theorem wq_invokestr1 (Cl : xCal) (E : Nat × Nat × Nat × xSc) (J : xJT) (Φ : xO → xM → xH → Prop) (is : List xPI) (ls : xL) (st : List xV) (M : xM) (h : xH) (c n : Nat) (j mc ms q : Nat) (z : xMD) (k : List Nat) (r : Nat) (a0 : xV) : wpL Cl E J Φ ((.invokevirtual j, 1 :: mc :: ms :: q :: k, [z]) :: is) ls (a0 :: xS r :: st) M h c n = (q = 50 ∧ (c + mc ≤ E.1 ∧ n + ms ≤ E.2.1) ∧ (st.map x_cat).sum ≤ 8 ∧ 1 + 1 ≤ (a0 :: xS r :: st).length ∧ Cl z [xS r, a0] M h (x_k Cl E J Φ is ls st (c + mc) (n + ms))) := rfl
theorem wq_invokestatic1 (Cl : xCal) (E : Nat × Nat × Nat × xSc) (J : xJT) (Φ : xO → xM → xH → Prop) (is : List xPI) (ls : xL) (st : List xV) (M : xM) (h : xH) (c n : Nat) (j mc ms : Nat) (z : xMD) (k : List Nat) (a0 : xV) : wpL Cl E J Φ ((.invokestatic j, 1 :: mc :: ms :: k, [z]) :: is) ls (a0 :: st) M h c n = ((c + mc ≤ E.1 ∧ n + ms ≤ E.2.1) ∧ (st.map x_cat).sum ≤ 8 ∧ 1 ≤ (a0 :: st).length ∧ Cl z [a0] M h (x_k Cl E J Φ is ls st (c + mc) (n + ms))) := rfl
theorem wq_invokestatic2 (Cl : xCal) (E : Nat × Nat × Nat × xSc) (J : xJT) (Φ : xO → xM → xH → Prop) (is : List xPI) (ls : xL) (st : List xV) (M : xM) (h : xH) (c n : Nat) (j mc ms : Nat) (z : xMD) (k : List Nat) (a0 a1 : xV) : wpL Cl E J Φ ((.invokestatic j, 2 :: mc :: ms :: k, [z]) :: is) ls (a1 :: a0 :: st) M h c n = ((c + mc ≤ E.1 ∧ n + ms ≤ E.2.1) ∧ (st.map x_cat).sum ≤ 8 ∧ 2 ≤ (a1 :: a0 :: st).length ∧ Cl z [a0, a1] M h (x_k Cl E J Φ is ls st (c + mc) (n + ms))) := rfl
theorem wq_invokestatic3 (Cl : xCal) (E : Nat × Nat × Nat × xSc) (J : xJT) (Φ : xO → xM → xH → Prop) (is : List xPI) (ls : xL) (st : List xV) (M : xM) (h : xH) (c n : Nat) (j mc ms : Nat) (z : xMD) (k : List Nat) (a0 a1 a2 : xV) : wpL Cl E J Φ ((.invokestatic j, 3 :: mc :: ms :: k, [z]) :: is) ls (a2 :: a1 :: a0 :: st) M h c n = ((c + mc ≤ E.1 ∧ n + ms ≤ E.2.1) ∧ (st.map x_cat).sum ≤ 8 ∧ 3 ≤ (a2 :: a1 :: a0 :: st).length ∧ Cl z [a0, a1, a2] M h (x_k Cl E J Φ is ls st (c + mc) (n + ms))) := rfl
theorem wq_invokestatic4 (Cl : xCal) (E : Nat × Nat × Nat × xSc) (J : xJT) (Φ : xO → xM → xH → Prop) (is : List xPI) (ls : xL) (st : List xV) (M : xM) (h : xH) (c n : Nat) (j mc ms : Nat) (z : xMD) (k : List Nat) (a0 a1 a2 a3 : xV) : wpL Cl E J Φ ((.invokestatic j, 4 :: mc :: ms :: k, [z]) :: is) ls (a3 :: a2 :: a1 :: a0 :: st) M h c n = ((c + mc ≤ E.1 ∧ n + ms ≤ E.2.1) ∧ (st.map x_cat).sum ≤ 8 ∧ 4 ≤ (a3 :: a2 :: a1 :: a0 :: st).length ∧ Cl z [a0, a1, a2, a3] M h (x_k Cl E J Φ is ls st (c + mc) (n + ms))) := rfl
theorem wq_invokestatic5 (Cl : xCal) (E : Nat × Nat × Nat × xSc) (J : xJT) (Φ : xO → xM → xH → Prop) (is : List xPI) (ls : xL) (st : List xV) (M : xM) (h : xH) (c n : Nat) (j mc ms : Nat) (z : xMD) (k : List Nat) (a0 a1 a2 a3 a4 : xV) : wpL Cl E J Φ ((.invokestatic j, 5 :: mc :: ms :: k, [z]) :: is) ls (a4 :: a3 :: a2 :: a1 :: a0 :: st) M h c n = ((c + mc ≤ E.1 ∧ n + ms ≤ E.2.1) ∧ (st.map x_cat).sum ≤ 8 ∧ 5 ≤ (a4 :: a3 :: a2 :: a1 :: a0 :: st).length ∧ Cl z [a0, a1, a2, a3, a4] M h (x_k Cl E J Φ is ls st (c + mc) (n + ms))) := rfl
theorem wq_invokestatic6 (Cl : xCal) (E : Nat × Nat × Nat × xSc) (J : xJT) (Φ : xO → xM → xH → Prop) (is : List xPI) (ls : xL) (st : List xV) (M : xM) (h : xH) (c n : Nat) (j mc ms : Nat) (z : xMD) (k : List Nat) (a0 a1 a2 a3 a4 a5 : xV) : wpL Cl E J Φ ((.invokestatic j, 6 :: mc :: ms :: k, [z]) :: is) ls (a5 :: a4 :: a3 :: a2 :: a1 :: a0 :: st) M h c n = ((c + mc ≤ E.1 ∧ n + ms ≤ E.2.1) ∧ (st.map x_cat).sum ≤ 8 ∧ 6 ≤ (a5 :: a4 :: a3 :: a2 :: a1 :: a0 :: st).length ∧ Cl z [a0, a1, a2, a3, a4, a5] M h (x_k Cl E J Φ is ls st (c + mc) (n + ms))) := rfl
theorem wq_invokestatic7 (Cl : xCal) (E : Nat × Nat × Nat × xSc) (J : xJT) (Φ : xO → xM → xH → Prop) (is : List xPI) (ls : xL) (st : List xV) (M : xM) (h : xH) (c n : Nat) (j mc ms : Nat) (z : xMD) (k : List Nat) (a0 a1 a2 a3 a4 a5 a6 : xV) : wpL Cl E J Φ ((.invokestatic j, 7 :: mc :: ms :: k, [z]) :: is) ls (a6 :: a5 :: a4 :: a3 :: a2 :: a1 :: a0 :: st) M h c n = ((c + mc ≤ E.1 ∧ n + ms ≤ E.2.1) ∧ (st.map x_cat).sum ≤ 8 ∧ 7 ≤ (a6 :: a5 :: a4 :: a3 :: a2 :: a1 :: a0 :: st).length ∧ Cl z [a0, a1, a2, a3, a4, a5, a6] M h (x_k Cl E J Φ is ls st (c + mc) (n + ms))) := rfl
theorem wq_obj (Cl : xCal) (E : Nat × Nat × Nat × xSc) (J : xJT) (Φ : xO → xM → xH → Prop) (is : List xPI) (ls : xL) (st : List xV) (M : xM) (h : xH) (c n : Nat) (j r : Nat) (k : List Nat) : wpL Cl E J Φ ((.invokespecial j, 1003 :: k, []) :: is) ls (xA r :: st) M h c n = (hK h r < 25 ∧ (st.map x_cat).sum ≤ 8 ∧ wpL Cl E J Φ is ls st M h c n) := rfl
theorem wq_acp (Cl : xCal) (E : Nat × Nat × Nat × xSc) (J : xJT) (Φ : xO → xM → xH → Prop) (is : List xPI) (ls : xL) (st : List xV) (M : xM) (h : xH) (c n : Nat) (j s d : Nat) (m dp sp : Int) (k : List Nat) : wpL Cl E J Φ ((.invokestatic j, 1000 :: k, []) :: is) ls (xI m :: xI dp :: xA d :: xI sp :: xA s :: st) M h c n = ((hK h s = 20 ∧ hK h d = 20) ∧ (0 ≤ m ∧ 0 ≤ sp ∧ 0 ≤ dp ∧ sp + m ≤ hL h s ∧ dp + m ≤ hL h d) ∧ (st.map x_cat).sum ≤ 8 ∧ wpL Cl E J Φ is ls st (x_cp M s sp d dp m) h c n) := rfl
theorem wq_min (Cl : xCal) (E : Nat × Nat × Nat × xSc) (J : xJT) (Φ : xO → xM → xH → Prop) (is : List xPI) (ls : xL) (st : List xV) (M : xM) (h : xH) (c n : Nat) (j : Nat) (a b : Int) (k : List Nat) : wpL Cl E J Φ ((.invokestatic j, 1001 :: k, []) :: is) ls (xI b :: xI a :: st) M h c n = ((st.map x_cat).sum ≤ 8 ∧ wpL Cl E J Φ is ls (xI (min a b) :: st) M h c n) := rfl
theorem wq_max (Cl : xCal) (E : Nat × Nat × Nat × xSc) (J : xJT) (Φ : xO → xM → xH → Prop) (is : List xPI) (ls : xL) (st : List xV) (M : xM) (h : xH) (c n : Nat) (j : Nat) (a b : Int) (k : List Nat) : wpL Cl E J Φ ((.invokestatic j, 1002 :: k, []) :: is) ls (xI b :: xI a :: st) M h c n = ((st.map x_cat).sum ≤ 8 ∧ wpL Cl E J Φ is ls (xI (max a b) :: st) M h c n) := rfl
theorem wq_ret (Cl : xCal) (E : Nat × Nat × Nat × xSc) (J : xJT) (Φ : xO → xM → xH → Prop) (is : List xPI) (ls : xL) (M : xM) (h : xH) (c n : Nat) (k : List Nat) (z : List xMD) : wpL Cl E J Φ ((.return_, k, z) :: is) ls [] M h c n = (E.2.2.1 = 0 ∧ Φ (.inl none) M h) := rfl
theorem wq_iret (Cl : xCal) (E : Nat × Nat × Nat × xSc) (J : xJT) (Φ : xO → xM → xH → Prop) (is : List xPI) (ls : xL) (M : xM) (h : xH) (c n : Nat) (k : List Nat) (z : List xMD) (v : Int) : wpL Cl E J Φ ((.ireturn, k, z) :: is) ls [xI v] M h c n = ((E.2.2.1 = 1 ∨ E.2.2.1 = 2 ∧ (v = 0 ∨ v = 1)) ∧ Φ (.inl (some (xI v))) M h) := rfl
theorem wq_aret (Cl : xCal) (E : Nat × Nat × Nat × xSc) (J : xJT) (Φ : xO → xM → xH → Prop) (is : List xPI) (ls : xL) (M : xM) (h : xH) (c n : Nat) (k : List Nat) (z : List xMD) (r : Nat) : wpL Cl E J Φ ((.areturn, k, z) :: is) ls [xA r] M h c n = (E.2.2.1 = 4 ∧ Φ (.inl (some (xA r))) M h) := rfl
theorem wq_throw (Cl : xCal) (E : Nat × Nat × Nat × xSc) (J : xJT) (Φ : xO → xM → xH → Prop) (is : List xPI) (ls : xL) (st : List xV) (M : xM) (h : xH) (c n : Nat) (k : List Nat) (z : List xMD) (e : Nat) : wpL Cl E J Φ ((.athrow, e :: k, z) :: is) ls st M h c n = ((c + 1 ≤ E.1 ∧ n + 6 ≤ E.2.1) ∧ (st.map x_cat).sum ≤ 8 ∧ Φ (.inr e) M h) := rfl
theorem wq_k0 (Cl : xCal) (E : Nat × Nat × Nat × xSc) (J : xJT) (Φ : xO → xM → xH → Prop) (is : List xPI) (ls : xL) (st : List xV) (M : xM) (h : xH) (c n : Nat) : x_k Cl E J Φ is ls st c n (.inl none) M h = wpL Cl E J Φ is ls st M h c n := rfl
theorem wq_k1 (Cl : xCal) (E : Nat × Nat × Nat × xSc) (J : xJT) (Φ : xO → xM → xH → Prop) (is : List xPI) (ls : xL) (st : List xV) (M : xM) (h : xH) (c n : Nat) (v : xV) : x_k Cl E J Φ is ls st c n (.inl (some v)) M h = wpL Cl E J Φ is ls (v :: st) M h c n := rfl
theorem wq_k2 (Cl : xCal) (E : Nat × Nat × Nat × xSc) (J : xJT) (Φ : xO → xM → xH → Prop) (is : List xPI) (ls : xL) (st : List xV) (M : xM) (h : xH) (c n : Nat) (e : Nat) : x_k Cl E J Φ is ls st c n (.inr e) M h = Φ (.inr e) M h := rfl
theorem wq_ki (Cl : xCal) (E : Nat × Nat × Nat × xSc) (J : xJT) (Φ : xO → xM → xH → Prop) (is : List xPI) (ls : xL) (st : List xV) (M : xM) (h : xH) (c n : Nat) : x_ki Cl E J Φ is ls st c n (.inl none) M h = wpL Cl E J Φ is ls st M h c n := rfl
theorem wq_g (Cl : xCal) (E : Nat × Nat × Nat × xSc) (B : xB) (K : xJT) (Φ : xO → xM → xH → Prop) (f t : Nat) (ls : xL) (st : List xV) (M : xM) (h : xH) (c n : Nat) : wpG Cl E B K Φ (f + 1) t ls st M h c n = x_g (x_blk B t) Cl E B K Φ f t ls st M h c n := rfl
theorem wq_g1 (Cl : xCal) (E : Nat × Nat × Nat × xSc) (B : xB) (K : xJT) (Φ : xO → xM → xH → Prop) (f t : Nat) (ls : xL) (st : List xV) (M : xM) (h : xH) (c n : Nat) (is : List xPI) : x_g (some (true, is)) Cl E B K Φ f t ls st M h c n = K t ls st M h c n := rfl
theorem wq_g2 (Cl : xCal) (E : Nat × Nat × Nat × xSc) (B : xB) (K : xJT) (Φ : xO → xM → xH → Prop) (f t : Nat) (ls : xL) (st : List xV) (M : xM) (h : xH) (c n : Nat) (is : List xPI) : x_g (some (false, is)) Cl E B K Φ f t ls st M h c n = wpL Cl E (wpG Cl E B K Φ f) Φ is ls st M h c n := rfl
theorem wq_up (ls : xL) (i : Nat) (v : xV) (j : Nat) : x_up ls i v j = if j = i then some v else if j + 1 = i then x_nl (ls j) else ls j := rfl
theorem wq_up2 (ls : xL) (i : Nat) (v : xV) (j : Nat) : x_up2 ls i v j = if j = i then some v else if j = i + 1 then none else if j + 1 = i then x_nl (ls j) else ls j := rfl
theorem wq_nl0 (x : Int) : x_nl (some (xI x)) = some (xI x) := rfl
theorem wq_nl1 (x : Nat ⊕ Nat ⊕ Nat) : x_nl (some (.inr (.inr x))) = some (.inr (.inr x)) := rfl
theorem wq_nl2 (x : Int) : x_nl (some (xJ x)) = none := rfl
theorem wq_nl3 : x_nl none = none := rfl
theorem wq_ent (v : xV) (vs : List xV) (i j : Nat) : x_ent (v :: vs) i j = if j = i then some v else x_ent vs (i + x_cat v) j := rfl
theorem wq_ent0 (i j : Nat) : x_ent [] i j = none := rfl
theorem wq_cat0 (x : Int) : x_cat (xI x) = 1 := rfl
theorem wq_cat1 (x : Int) : x_cat (xJ x) = 2 := rfl
theorem wq_cat2 (x : Nat ⊕ Nat ⊕ Nat) : x_cat (.inr (.inr x)) = 1 := rfl
theorem wq_sw0 (J : xJT) (ls : xL) (st : List xV) (M : xM) (h : xH) (c n : Nat) (x : Int) (d : Prop) (lo : Int) : x_sw J ls st M h c n x d lo [] = d := rfl
theorem wq_sw1 (J : xJT) (ls : xL) (st : List xV) (M : xM) (h : xH) (c n : Nat) (x : Int) (d : Prop) (lo : Int) (t : Nat) (ts : List Nat) : x_sw J ls st M h c n x d lo (t :: ts) = ((x = lo → J t ls st M h c n) ∧ x_sw J ls st M h c n x d (lo + 1) ts) := rfl
theorem wq_lk0 (J : xJT) (ls : xL) (st : List xV) (M : xM) (h : xH) (c n : Nat) (x : Int) (d : Prop) : x_lk J ls st M h c n x d [] [] = d := rfl
theorem wq_lk1 (J : xJT) (ls : xL) (st : List xV) (M : xM) (h : xH) (c n : Nat) (x : Int) (d : Prop) (k : Int) (ks : List Int) (t : Nat) (ts : List Nat) : x_lk J ls st M h c n x d (k :: ks) (t :: ts) = ((x = k → J t ls st M h c n) ∧ (x ≠ k → x_lk J ls st M h c n x d ks ts)) := rfl
theorem w_iload0 (Cl : xCal) (E : Nat × Nat × Nat × xSc) (J : xJT) (Φ : xO → xM → xH → Prop) (is : List xPI) (ls : xL) (st : List xV) (M : xM) (h : xH) (c n : Nat) (k : List Nat) (z : List xMD) : wpL Cl E J Φ ((.iload_n 0, k, z) :: is) ls st M h c n = x_li (ls 0) Cl E J Φ is ls st M h c n := rfl
theorem w_lload0 (Cl : xCal) (E : Nat × Nat × Nat × xSc) (J : xJT) (Φ : xO → xM → xH → Prop) (is : List xPI) (ls : xL) (st : List xV) (M : xM) (h : xH) (c n : Nat) (k : List Nat) (z : List xMD) : wpL Cl E J Φ ((.lload_n 0, k, z) :: is) ls st M h c n = x_lj (ls 0) Cl E J Φ is ls st M h c n := rfl
theorem w_aload0 (Cl : xCal) (E : Nat × Nat × Nat × xSc) (J : xJT) (Φ : xO → xM → xH → Prop) (is : List xPI) (ls : xL) (st : List xV) (M : xM) (h : xH) (c n : Nat) (k : List Nat) (z : List xMD) : wpL Cl E J Φ ((.aload_n 0, k, z) :: is) ls st M h c n = x_la (ls 0) Cl E J Φ is ls st M h c n := rfl
theorem w_istore0 (Cl : xCal) (E : Nat × Nat × Nat × xSc) (J : xJT) (Φ : xO → xM → xH → Prop) (is : List xPI) (ls : xL) (st : List xV) (M : xM) (h : xH) (c n : Nat) (k : List Nat) (z : List xMD) (x : Int) : wpL Cl E J Φ ((.istore_n 0, k, z) :: is) ls (xI x :: st) M h c n = wpL Cl E J Φ is (x_up ls 0 (xI x)) st M h c n := rfl
theorem w_lstore0 (Cl : xCal) (E : Nat × Nat × Nat × xSc) (J : xJT) (Φ : xO → xM → xH → Prop) (is : List xPI) (ls : xL) (st : List xV) (M : xM) (h : xH) (c n : Nat) (k : List Nat) (z : List xMD) (x : Int) : wpL Cl E J Φ ((.lstore_n 0, k, z) :: is) ls (xJ x :: st) M h c n = wpL Cl E J Φ is (x_up2 ls 0 (xJ x)) st M h c n := rfl
theorem w_astore0 (Cl : xCal) (E : Nat × Nat × Nat × xSc) (J : xJT) (Φ : xO → xM → xH → Prop) (is : List xPI) (ls : xL) (st : List xV) (M : xM) (h : xH) (c n : Nat) (k : List Nat) (z : List xMD) (x : Nat ⊕ Nat ⊕ Nat) : wpL Cl E J Φ ((.astore_n 0, k, z) :: is) ls (.inr (.inr x) :: st) M h c n = wpL Cl E J Φ is (x_up ls 0 (.inr (.inr x))) st M h c n := rfl
theorem w_iload1 (Cl : xCal) (E : Nat × Nat × Nat × xSc) (J : xJT) (Φ : xO → xM → xH → Prop) (is : List xPI) (ls : xL) (st : List xV) (M : xM) (h : xH) (c n : Nat) (k : List Nat) (z : List xMD) : wpL Cl E J Φ ((.iload_n 1, k, z) :: is) ls st M h c n = x_li (ls 1) Cl E J Φ is ls st M h c n := rfl
theorem w_lload1 (Cl : xCal) (E : Nat × Nat × Nat × xSc) (J : xJT) (Φ : xO → xM → xH → Prop) (is : List xPI) (ls : xL) (st : List xV) (M : xM) (h : xH) (c n : Nat) (k : List Nat) (z : List xMD) : wpL Cl E J Φ ((.lload_n 1, k, z) :: is) ls st M h c n = x_lj (ls 1) Cl E J Φ is ls st M h c n := rfl
theorem w_aload1 (Cl : xCal) (E : Nat × Nat × Nat × xSc) (J : xJT) (Φ : xO → xM → xH → Prop) (is : List xPI) (ls : xL) (st : List xV) (M : xM) (h : xH) (c n : Nat) (k : List Nat) (z : List xMD) : wpL Cl E J Φ ((.aload_n 1, k, z) :: is) ls st M h c n = x_la (ls 1) Cl E J Φ is ls st M h c n := rfl
theorem w_istore1 (Cl : xCal) (E : Nat × Nat × Nat × xSc) (J : xJT) (Φ : xO → xM → xH → Prop) (is : List xPI) (ls : xL) (st : List xV) (M : xM) (h : xH) (c n : Nat) (k : List Nat) (z : List xMD) (x : Int) : wpL Cl E J Φ ((.istore_n 1, k, z) :: is) ls (xI x :: st) M h c n = wpL Cl E J Φ is (x_up ls 1 (xI x)) st M h c n := rfl
theorem w_lstore1 (Cl : xCal) (E : Nat × Nat × Nat × xSc) (J : xJT) (Φ : xO → xM → xH → Prop) (is : List xPI) (ls : xL) (st : List xV) (M : xM) (h : xH) (c n : Nat) (k : List Nat) (z : List xMD) (x : Int) : wpL Cl E J Φ ((.lstore_n 1, k, z) :: is) ls (xJ x :: st) M h c n = wpL Cl E J Φ is (x_up2 ls 1 (xJ x)) st M h c n := rfl
theorem w_astore1 (Cl : xCal) (E : Nat × Nat × Nat × xSc) (J : xJT) (Φ : xO → xM → xH → Prop) (is : List xPI) (ls : xL) (st : List xV) (M : xM) (h : xH) (c n : Nat) (k : List Nat) (z : List xMD) (x : Nat ⊕ Nat ⊕ Nat) : wpL Cl E J Φ ((.astore_n 1, k, z) :: is) ls (.inr (.inr x) :: st) M h c n = wpL Cl E J Φ is (x_up ls 1 (.inr (.inr x))) st M h c n := rfl
theorem w_iload2 (Cl : xCal) (E : Nat × Nat × Nat × xSc) (J : xJT) (Φ : xO → xM → xH → Prop) (is : List xPI) (ls : xL) (st : List xV) (M : xM) (h : xH) (c n : Nat) (k : List Nat) (z : List xMD) : wpL Cl E J Φ ((.iload_n 2, k, z) :: is) ls st M h c n = x_li (ls 2) Cl E J Φ is ls st M h c n := rfl
theorem w_lload2 (Cl : xCal) (E : Nat × Nat × Nat × xSc) (J : xJT) (Φ : xO → xM → xH → Prop) (is : List xPI) (ls : xL) (st : List xV) (M : xM) (h : xH) (c n : Nat) (k : List Nat) (z : List xMD) : wpL Cl E J Φ ((.lload_n 2, k, z) :: is) ls st M h c n = x_lj (ls 2) Cl E J Φ is ls st M h c n := rfl
theorem w_aload2 (Cl : xCal) (E : Nat × Nat × Nat × xSc) (J : xJT) (Φ : xO → xM → xH → Prop) (is : List xPI) (ls : xL) (st : List xV) (M : xM) (h : xH) (c n : Nat) (k : List Nat) (z : List xMD) : wpL Cl E J Φ ((.aload_n 2, k, z) :: is) ls st M h c n = x_la (ls 2) Cl E J Φ is ls st M h c n := rfl
theorem w_istore2 (Cl : xCal) (E : Nat × Nat × Nat × xSc) (J : xJT) (Φ : xO → xM → xH → Prop) (is : List xPI) (ls : xL) (st : List xV) (M : xM) (h : xH) (c n : Nat) (k : List Nat) (z : List xMD) (x : Int) : wpL Cl E J Φ ((.istore_n 2, k, z) :: is) ls (xI x :: st) M h c n = wpL Cl E J Φ is (x_up ls 2 (xI x)) st M h c n := rfl
theorem w_lstore2 (Cl : xCal) (E : Nat × Nat × Nat × xSc) (J : xJT) (Φ : xO → xM → xH → Prop) (is : List xPI) (ls : xL) (st : List xV) (M : xM) (h : xH) (c n : Nat) (k : List Nat) (z : List xMD) (x : Int) : wpL Cl E J Φ ((.lstore_n 2, k, z) :: is) ls (xJ x :: st) M h c n = wpL Cl E J Φ is (x_up2 ls 2 (xJ x)) st M h c n := rfl
theorem w_astore2 (Cl : xCal) (E : Nat × Nat × Nat × xSc) (J : xJT) (Φ : xO → xM → xH → Prop) (is : List xPI) (ls : xL) (st : List xV) (M : xM) (h : xH) (c n : Nat) (k : List Nat) (z : List xMD) (x : Nat ⊕ Nat ⊕ Nat) : wpL Cl E J Φ ((.astore_n 2, k, z) :: is) ls (.inr (.inr x) :: st) M h c n = wpL Cl E J Φ is (x_up ls 2 (.inr (.inr x))) st M h c n := rfl
theorem w_iload3 (Cl : xCal) (E : Nat × Nat × Nat × xSc) (J : xJT) (Φ : xO → xM → xH → Prop) (is : List xPI) (ls : xL) (st : List xV) (M : xM) (h : xH) (c n : Nat) (k : List Nat) (z : List xMD) : wpL Cl E J Φ ((.iload_n 3, k, z) :: is) ls st M h c n = x_li (ls 3) Cl E J Φ is ls st M h c n := rfl
theorem w_lload3 (Cl : xCal) (E : Nat × Nat × Nat × xSc) (J : xJT) (Φ : xO → xM → xH → Prop) (is : List xPI) (ls : xL) (st : List xV) (M : xM) (h : xH) (c n : Nat) (k : List Nat) (z : List xMD) : wpL Cl E J Φ ((.lload_n 3, k, z) :: is) ls st M h c n = x_lj (ls 3) Cl E J Φ is ls st M h c n := rfl
theorem w_aload3 (Cl : xCal) (E : Nat × Nat × Nat × xSc) (J : xJT) (Φ : xO → xM → xH → Prop) (is : List xPI) (ls : xL) (st : List xV) (M : xM) (h : xH) (c n : Nat) (k : List Nat) (z : List xMD) : wpL Cl E J Φ ((.aload_n 3, k, z) :: is) ls st M h c n = x_la (ls 3) Cl E J Φ is ls st M h c n := rfl
theorem w_istore3 (Cl : xCal) (E : Nat × Nat × Nat × xSc) (J : xJT) (Φ : xO → xM → xH → Prop) (is : List xPI) (ls : xL) (st : List xV) (M : xM) (h : xH) (c n : Nat) (k : List Nat) (z : List xMD) (x : Int) : wpL Cl E J Φ ((.istore_n 3, k, z) :: is) ls (xI x :: st) M h c n = wpL Cl E J Φ is (x_up ls 3 (xI x)) st M h c n := rfl
theorem w_lstore3 (Cl : xCal) (E : Nat × Nat × Nat × xSc) (J : xJT) (Φ : xO → xM → xH → Prop) (is : List xPI) (ls : xL) (st : List xV) (M : xM) (h : xH) (c n : Nat) (k : List Nat) (z : List xMD) (x : Int) : wpL Cl E J Φ ((.lstore_n 3, k, z) :: is) ls (xJ x :: st) M h c n = wpL Cl E J Φ is (x_up2 ls 3 (xJ x)) st M h c n := rfl
theorem w_astore3 (Cl : xCal) (E : Nat × Nat × Nat × xSc) (J : xJT) (Φ : xO → xM → xH → Prop) (is : List xPI) (ls : xL) (st : List xV) (M : xM) (h : xH) (c n : Nat) (k : List Nat) (z : List xMD) (x : Nat ⊕ Nat ⊕ Nat) : wpL Cl E J Φ ((.astore_n 3, k, z) :: is) ls (.inr (.inr x) :: st) M h c n = wpL Cl E J Φ is (x_up ls 3 (.inr (.inr x))) st M h c n := rfl
theorem wq_ineg (Cl : xCal) (E : Nat × Nat × Nat × xSc) (J : xJT) (Φ : xO → xM → xH → Prop) (is : List xPI) (ls : xL) (st : List xV) (M : xM) (h : xH) (c n : Nat) (a : Int) (k : List Nat) (z : List xMD) : wpL Cl E J Φ ((.ineg, k, z) :: is) ls (xI a :: st) M h c n = (wpL Cl E J Φ is ls (xI (w32 (-a)) :: st) M h c n) := rfl
theorem wq_i2c (Cl : xCal) (E : Nat × Nat × Nat × xSc) (J : xJT) (Φ : xO → xM → xH → Prop) (is : List xPI) (ls : xL) (st : List xV) (M : xM) (h : xH) (c n : Nat) (a : Int) (k : List Nat) (z : List xMD) : wpL Cl E J Φ ((.i2c, k, z) :: is) ls (xI a :: st) M h c n = (wpL Cl E J Φ is ls (xI (a % 65536) :: st) M h c n) := rfl
theorem wq_iushr (Cl : xCal) (E : Nat × Nat × Nat × xSc) (J : xJT) (Φ : xO → xM → xH → Prop) (is : List xPI) (ls : xL) (st : List xV) (M : xM) (h : xH) (c n : Nat) (a b : Int) (k : List Nat) (z : List xMD) : wpL Cl E J Φ ((.iushr, k, z) :: is) ls (xI b :: xI a :: st) M h c n = (wpL Cl E J Φ is ls (xI (x_ushr a b) :: st) M h c n) := rfl
theorem wq_lor (Cl : xCal) (E : Nat × Nat × Nat × xSc) (J : xJT) (Φ : xO → xM → xH → Prop) (is : List xPI) (ls : xL) (st : List xV) (M : xM) (h : xH) (c n : Nat) (a b : Int) (k : List Nat) (z : List xMD) : wpL Cl E J Φ ((.lor, k, z) :: is) ls (xJ b :: xJ a :: st) M h c n = (wpL Cl E J Φ is ls (xJ (x_orL a b) :: st) M h c n) := rfl
theorem wq_lshl (Cl : xCal) (E : Nat × Nat × Nat × xSc) (J : xJT) (Φ : xO → xM → xH → Prop) (is : List xPI) (ls : xL) (st : List xV) (M : xM) (h : xH) (c n : Nat) (a b : Int) (k : List Nat) (z : List xMD) : wpL Cl E J Φ ((.lshl, k, z) :: is) ls (xI b :: xJ a :: st) M h c n = (wpL Cl E J Φ is ls (xJ (x_shlL a b) :: st) M h c n) := rfl
theorem wq_dupx1 (Cl : xCal) (E : Nat × Nat × Nat × xSc) (J : xJT) (Φ : xO → xM → xH → Prop) (is : List xPI) (ls : xL) (st : List xV) (M : xM) (h : xH) (c n : Nat) (v w : xV) (k : List Nat) (z : List xMD) : wpL Cl E J Φ ((.dup_x1, k, z) :: is) ls (v :: w :: st) M h c n = (x_cat v = 1 ∧ x_cat w = 1 ∧ wpL Cl E J Φ is ls (v :: w :: v :: st) M h c n) := rfl
theorem wq_gst (Cl : xCal) (E : Nat × Nat × Nat × xSc) (J : xJT) (Φ : xO → xM → xH → Prop) (is : List xPI) (ls : xL) (st : List xV) (M : xM) (h : xH) (c n : Nat) (j : Nat) (k : List Nat) (z : List xMD) : wpL Cl E J Φ ((.getstatic j, 1 :: k, z) :: is) ls st M h c n = (wpL Cl E J Φ is ls (xI 1 :: st) M h c n) := rfl
theorem wq_gf3 (Cl : xCal) (E : Nat × Nat × Nat × xSc) (J : xJT) (Φ : xO → xM → xH → Prop) (is : List xPI) (ls : xL) (st : List xV) (M : xM) (h : xH) (c n : Nat) (j q i a : Nat) (k : List Nat) (z : List xMD) : wpL Cl E J Φ ((.getfield j, q :: i :: 3 :: k, z) :: is) ls (xA a :: st) M h c n = (hK h a = q ∧ wpL Cl E J Φ is ls (xI (M a i) :: st) M h c n) := rfl
theorem wq_pf3 (Cl : xCal) (E : Nat × Nat × Nat × xSc) (J : xJT) (Φ : xO → xM → xH → Prop) (is : List xPI) (ls : xL) (st : List xV) (M : xM) (h : xH) (c n : Nat) (j q i a : Nat) (v : Int) (k : List Nat) (z : List xMD) : wpL Cl E J Φ ((.putfield j, q :: i :: 3 :: k, z) :: is) ls (xI v :: xA a :: st) M h c n = ((hK h a = q ∧ w8 v = v) ∧ wpL Cl E J Φ is ls st (x_w M a i v) h c n) := rfl
theorem wq_acpb (Cl : xCal) (E : Nat × Nat × Nat × xSc) (J : xJT) (Φ : xO → xM → xH → Prop) (is : List xPI) (ls : xL) (st : List xV) (M : xM) (h : xH) (c n : Nat) (j s d : Nat) (m dp sp : Int) (k : List Nat) : wpL Cl E J Φ ((.invokestatic j, 1005 :: k, []) :: is) ls (xI m :: xI dp :: xA d :: xI sp :: xA s :: st) M h c n = ((hK h s = 21 ∧ hK h d = 21) ∧ (0 ≤ m ∧ 0 ≤ sp ∧ 0 ≤ dp ∧ sp + m ≤ hL h s ∧ dp + m ≤ hL h d) ∧ (∀ j : Int, sp ≤ j → j < sp + m → -128 ≤ M s j ∧ M s j < 128) ∧ (st.map x_cat).sum ≤ 8 ∧ wpL Cl E J Φ is ls st (x_cp M s sp d dp m) h c n) := rfl
theorem wq_invokevirtualX0 (Cl : xCal) (E : Nat × Nat × Nat × xSc) (J : xJT) (Φ : xO → xM → xH → Prop) (is : List xPI) (ls : xL) (st : List xV) (M : xM) (h : xH) (c n : Nat) (j mc ms q : Nat) (z zx : xMD) (k : List Nat) (r : Nat) : wpL Cl E J Φ ((.invokevirtual j, 0 :: mc :: ms :: q :: k, [z, zx]) :: is) ls (xA r :: st) M h c n = (x_rc h q (xA r :: st) ∧ (c + mc ≤ E.1 ∧ n + ms ≤ E.2.1) ∧ (st.map x_cat).sum ≤ 8 ∧ 0 + 1 ≤ (xA r :: st).length ∧ Cl z [xA r] M h (x_ki Cl E J Φ is ls st (c + mc) (n + ms))) := by
  first | rfl | (simp only [wpL, x_ki]; rfl)
theorem wq_invokespecialX0 (Cl : xCal) (E : Nat × Nat × Nat × xSc) (J : xJT) (Φ : xO → xM → xH → Prop) (is : List xPI) (ls : xL) (st : List xV) (M : xM) (h : xH) (c n : Nat) (j mc ms q : Nat) (z zx : xMD) (k : List Nat) (r : Nat) : wpL Cl E J Φ ((.invokespecial j, 0 :: mc :: ms :: q :: k, [z, zx]) :: is) ls (xA r :: st) M h c n = (x_rc h q (xA r :: st) ∧ (c + mc ≤ E.1 ∧ n + ms ≤ E.2.1) ∧ (st.map x_cat).sum ≤ 8 ∧ 0 + 1 ≤ (xA r :: st).length ∧ Cl z [xA r] M h (x_ki Cl E J Φ is ls st (c + mc) (n + ms))) := by
  first | rfl | (simp only [wpL, x_ki]; rfl)
theorem wq_invokevirtualX1 (Cl : xCal) (E : Nat × Nat × Nat × xSc) (J : xJT) (Φ : xO → xM → xH → Prop) (is : List xPI) (ls : xL) (st : List xV) (M : xM) (h : xH) (c n : Nat) (j mc ms q : Nat) (z zx : xMD) (k : List Nat) (r : Nat) (a0 : xV) : wpL Cl E J Φ ((.invokevirtual j, 1 :: mc :: ms :: q :: k, [z, zx]) :: is) ls (a0 :: xA r :: st) M h c n = (x_rc h q (xA r :: st) ∧ (c + mc ≤ E.1 ∧ n + ms ≤ E.2.1) ∧ (st.map x_cat).sum ≤ 8 ∧ 1 + 1 ≤ (a0 :: xA r :: st).length ∧ Cl z [xA r, a0] M h (x_ki Cl E J Φ is ls st (c + mc) (n + ms))) := by
  first | rfl | (simp only [wpL, x_ki]; rfl)
theorem wq_invokespecialX1 (Cl : xCal) (E : Nat × Nat × Nat × xSc) (J : xJT) (Φ : xO → xM → xH → Prop) (is : List xPI) (ls : xL) (st : List xV) (M : xM) (h : xH) (c n : Nat) (j mc ms q : Nat) (z zx : xMD) (k : List Nat) (r : Nat) (a0 : xV) : wpL Cl E J Φ ((.invokespecial j, 1 :: mc :: ms :: q :: k, [z, zx]) :: is) ls (a0 :: xA r :: st) M h c n = (x_rc h q (xA r :: st) ∧ (c + mc ≤ E.1 ∧ n + ms ≤ E.2.1) ∧ (st.map x_cat).sum ≤ 8 ∧ 1 + 1 ≤ (a0 :: xA r :: st).length ∧ Cl z [xA r, a0] M h (x_ki Cl E J Φ is ls st (c + mc) (n + ms))) := by
  first | rfl | (simp only [wpL, x_ki]; rfl)
theorem wq_invokevirtualX2 (Cl : xCal) (E : Nat × Nat × Nat × xSc) (J : xJT) (Φ : xO → xM → xH → Prop) (is : List xPI) (ls : xL) (st : List xV) (M : xM) (h : xH) (c n : Nat) (j mc ms q : Nat) (z zx : xMD) (k : List Nat) (r : Nat) (a0 a1 : xV) : wpL Cl E J Φ ((.invokevirtual j, 2 :: mc :: ms :: q :: k, [z, zx]) :: is) ls (a1 :: a0 :: xA r :: st) M h c n = (x_rc h q (xA r :: st) ∧ (c + mc ≤ E.1 ∧ n + ms ≤ E.2.1) ∧ (st.map x_cat).sum ≤ 8 ∧ 2 + 1 ≤ (a1 :: a0 :: xA r :: st).length ∧ Cl z [xA r, a0, a1] M h (x_ki Cl E J Φ is ls st (c + mc) (n + ms))) := by
  first | rfl | (simp only [wpL, x_ki]; rfl)
theorem wq_invokespecialX2 (Cl : xCal) (E : Nat × Nat × Nat × xSc) (J : xJT) (Φ : xO → xM → xH → Prop) (is : List xPI) (ls : xL) (st : List xV) (M : xM) (h : xH) (c n : Nat) (j mc ms q : Nat) (z zx : xMD) (k : List Nat) (r : Nat) (a0 a1 : xV) : wpL Cl E J Φ ((.invokespecial j, 2 :: mc :: ms :: q :: k, [z, zx]) :: is) ls (a1 :: a0 :: xA r :: st) M h c n = (x_rc h q (xA r :: st) ∧ (c + mc ≤ E.1 ∧ n + ms ≤ E.2.1) ∧ (st.map x_cat).sum ≤ 8 ∧ 2 + 1 ≤ (a1 :: a0 :: xA r :: st).length ∧ Cl z [xA r, a0, a1] M h (x_ki Cl E J Φ is ls st (c + mc) (n + ms))) := by
  first | rfl | (simp only [wpL, x_ki]; rfl)
theorem wq_ifnonnullS (Cl : xCal) (E : Nat × Nat × Nat × xSc) (J : xJT) (Φ : xO → xM → xH → Prop) (is : List xPI) (ls : xL) (st : List xV) (M : xM) (h : xH) (c n : Nat) (r : Nat) (o : Int) (t : Nat) (z : List xMD) : wpL Cl E J Φ ((.ifnonnull o, [t], z) :: is) ls (xS r :: st) M h c n = (J t ls st M h c n) := rfl
theorem wq_lret (Cl : xCal) (E : Nat × Nat × Nat × xSc) (J : xJT) (Φ : xO → xM → xH → Prop) (is : List xPI) (ls : xL) (M : xM) (h : xH) (c n : Nat) (k : List Nat) (z : List xMD) (v : Int) : wpL Cl E J Φ ((.lreturn, k, z) :: is) ls [xJ v] M h c n = (E.2.2.1 = 3 ∧ Φ (.inl (some (xJ v))) M h) := rfl
theorem wq_ki1 (Cl : xCal) (E : Nat × Nat × Nat × xSc) (J : xJT) (Φ : xO → xM → xH → Prop) (is : List xPI) (ls : xL) (st : List xV) (M : xM) (h : xH) (c n : Nat) (v : xV) : x_ki Cl E J Φ is ls st c n (.inl (some v)) M h = wpL Cl E J Φ is ls (v :: st) M h c n := rfl
theorem wps : (∀ (Cl : xCal) (E : Nat × Nat × Nat × xSc) (J : xJT) (Φ : xO → xM → xH → Prop) (is : List xPI) (ls : xL) (st : List xV) (M : xM) (h : xH) (c n : Nat) (t : Nat) (z : List xMD), wpL Cl E J Φ ((.nop, [t], z) :: is) ls st M h c n = (J t ls st M h c n)) ∧ (∀ (Cl : xCal) (E : Nat × Nat × Nat × xSc) (J : xJT) (Φ : xO → xM → xH → Prop) (is : List xPI) (ls : xL) (st : List xV) (M : xM) (h : xH) (c n : Nat) (x : Int) (k : List Nat) (z : List xMD), wpL Cl E J Φ ((.iconst x, k, z) :: is) ls st M h c n = (wpL Cl E J Φ is ls (xI x :: st) M h c n)) ∧ (∀ (Cl : xCal) (E : Nat × Nat × Nat × xSc) (J : xJT) (Φ : xO → xM → xH → Prop) (is : List xPI) (ls : xL) (st : List xV) (M : xM) (h : xH) (c n : Nat) (x : Int) (k : List Nat) (z : List xMD), wpL Cl E J Φ ((.bipush x, k, z) :: is) ls st M h c n = (wpL Cl E J Φ is ls (xI x :: st) M h c n)) ∧ (∀ (Cl : xCal) (E : Nat × Nat × Nat × xSc) (J : xJT) (Φ : xO → xM → xH → Prop) (is : List xPI) (ls : xL) (st : List xV) (M : xM) (h : xH) (c n : Nat) (x : Int) (k : List Nat) (z : List xMD), wpL Cl E J Φ ((.sipush x, k, z) :: is) ls st M h c n = (wpL Cl E J Φ is ls (xI x :: st) M h c n)) ∧ (∀ (Cl : xCal) (E : Nat × Nat × Nat × xSc) (J : xJT) (Φ : xO → xM → xH → Prop) (is : List xPI) (ls : xL) (st : List xV) (M : xM) (h : xH) (c n : Nat) (x : Fin 2) (k : List Nat) (z : List xMD), wpL Cl E J Φ ((.lconst x, k, z) :: is) ls st M h c n = (wpL Cl E J Φ is ls (xJ x.val :: st) M h c n)) ∧ (∀ (Cl : xCal) (E : Nat × Nat × Nat × xSc) (J : xJT) (Φ : xO → xM → xH → Prop) (is : List xPI) (ls : xL) (st : List xV) (M : xM) (h : xH) (c n : Nat) (k : List Nat) (z : List xMD), wpL Cl E J Φ ((.aconst_null, k, z) :: is) ls st M h c n = (wpL Cl E J Φ is ls (xA 0 :: st) M h c n)) ∧ (∀ (Cl : xCal) (E : Nat × Nat × Nat × xSc) (J : xJT) (Φ : xO → xM → xH → Prop) (is : List xPI) (ls : xL) (st : List xV) (M : xM) (h : xH) (c n : Nat) (i v : Nat) (k : List Nat) (z : List xMD), wpL Cl E J Φ ((.ldc i, 1 :: v :: k, z) :: is) ls st M h c n = (wpL Cl E J Φ is ls (xI v :: st) M h c n)) ∧ (∀ (Cl : xCal) (E : Nat × Nat × Nat × xSc) (J : xJT) (Φ : xO → xM → xH → Prop) (is : List xPI) (ls : xL) (st : List xV) (M : xM) (h : xH) (c n : Nat) (i v : Nat) (k : List Nat) (z : List xMD), wpL Cl E J Φ ((.ldc i, 2 :: v :: k, z) :: is) ls st M h c n = (wpL Cl E J Φ is ls (xS v :: st) M h c n)) ∧ (∀ (Cl : xCal) (E : Nat × Nat × Nat × xSc) (J : xJT) (Φ : xO → xM → xH → Prop) (is : List xPI) (ls : xL) (st : List xV) (M : xM) (h : xH) (c n : Nat) (i v : Nat) (k : List Nat) (z : List xMD), wpL Cl E J Φ ((.ldc2_w i, v :: k, z) :: is) ls st M h c n = (wpL Cl E J Φ is ls (xJ v :: st) M h c n)) ∧ (∀ (Cl : xCal) (E : Nat × Nat × Nat × xSc) (J : xJT) (Φ : xO → xM → xH → Prop) (is : List xPI) (ls : xL) (st : List xV) (M : xM) (h : xH) (c n : Nat) (i : Nat) (k : List Nat) (z : List xMD), wpL Cl E J Φ ((.iload i, k, z) :: is) ls st M h c n = (x_li (ls i) Cl E J Φ is ls st M h c n)) ∧ (∀ (Cl : xCal) (E : Nat × Nat × Nat × xSc) (J : xJT) (Φ : xO → xM → xH → Prop) (is : List xPI) (ls : xL) (st : List xV) (M : xM) (h : xH) (c n : Nat) (i : Nat) (k : List Nat) (z : List xMD), wpL Cl E J Φ ((.lload i, k, z) :: is) ls st M h c n = (x_lj (ls i) Cl E J Φ is ls st M h c n)) ∧ (∀ (Cl : xCal) (E : Nat × Nat × Nat × xSc) (J : xJT) (Φ : xO → xM → xH → Prop) (is : List xPI) (ls : xL) (st : List xV) (M : xM) (h : xH) (c n : Nat) (i : Nat) (k : List Nat) (z : List xMD), wpL Cl E J Φ ((.aload i, k, z) :: is) ls st M h c n = (x_la (ls i) Cl E J Φ is ls st M h c n)) ∧ (∀ (Cl : xCal) (E : Nat × Nat × Nat × xSc) (J : xJT) (Φ : xO → xM → xH → Prop) (is : List xPI) (ls : xL) (st : List xV) (M : xM) (h : xH) (c n : Nat) (i : Nat) (d : Int) (k : List Nat) (z : List xMD), wpL Cl E J Φ ((.iinc i d, k, z) :: is) ls st M h c n = (x_ii (ls i) i d Cl E J Φ is ls st M h c n)) ∧ (∀ (x : Int) (Cl : xCal) (E : Nat × Nat × Nat × xSc) (J : xJT) (Φ : xO → xM → xH → Prop) (is : List xPI) (ls : xL) (st : List xV) (M : xM) (h : xH) (c n : Nat), x_li (some (xI x)) Cl E J Φ is ls st M h c n = (wpL Cl E J Φ is ls (xI x :: st) M h c n)) ∧ (∀ (x : Int) (Cl : xCal) (E : Nat × Nat × Nat × xSc) (J : xJT) (Φ : xO → xM → xH → Prop) (is : List xPI) (ls : xL) (st : List xV) (M : xM) (h : xH) (c n : Nat), x_lj (some (xJ x)) Cl E J Φ is ls st M h c n = (wpL Cl E J Φ is ls (xJ x :: st) M h c n)) ∧ (∀ (x : Nat ⊕ Nat ⊕ Nat) (Cl : xCal) (E : Nat × Nat × Nat × xSc) (J : xJT) (Φ : xO → xM → xH → Prop) (is : List xPI) (ls : xL) (st : List xV) (M : xM) (h : xH) (c n : Nat), x_la (some (.inr (.inr x))) Cl E J Φ is ls st M h c n = (wpL Cl E J Φ is ls (.inr (.inr x) :: st) M h c n)) ∧ (∀ (x : Int) (i : Nat) (d : Int) (Cl : xCal) (E : Nat × Nat × Nat × xSc) (J : xJT) (Φ : xO → xM → xH → Prop) (is : List xPI) (ls : xL) (st : List xV) (M : xM) (h : xH) (c n : Nat), x_ii (some (xI x)) i d Cl E J Φ is ls st M h c n = (wpL Cl E J Φ is (x_up ls i (xI (w32 (x + d)))) st M h c n)) ∧ (∀ (Cl : xCal) (E : Nat × Nat × Nat × xSc) (J : xJT) (Φ : xO → xM → xH → Prop) (is : List xPI) (ls : xL) (st : List xV) (M : xM) (h : xH) (c n : Nat) (i : Nat) (x : Int) (k : List Nat) (z : List xMD), wpL Cl E J Φ ((.istore i, k, z) :: is) ls (xI x :: st) M h c n = (wpL Cl E J Φ is (x_up ls i (xI x)) st M h c n)) ∧ (∀ (Cl : xCal) (E : Nat × Nat × Nat × xSc) (J : xJT) (Φ : xO → xM → xH → Prop) (is : List xPI) (ls : xL) (st : List xV) (M : xM) (h : xH) (c n : Nat) (i : Nat) (x : Nat ⊕ Nat ⊕ Nat) (k : List Nat) (z : List xMD), wpL Cl E J Φ ((.astore i, k, z) :: is) ls ((.inr (.inr x)) :: st) M h c n = (wpL Cl E J Φ is (x_up ls i ((.inr (.inr x)))) st M h c n)) ∧ (∀ (Cl : xCal) (E : Nat × Nat × Nat × xSc) (J : xJT) (Φ : xO → xM → xH → Prop) (is : List xPI) (ls : xL) (st : List xV) (M : xM) (h : xH) (c n : Nat) (i : Nat) (x : Int) (k : List Nat) (z : List xMD), wpL Cl E J Φ ((.lstore i, k, z) :: is) ls (xJ x :: st) M h c n = (wpL Cl E J Φ is (x_up2 ls i (xJ x)) st M h c n)) ∧ (∀ (Cl : xCal) (E : Nat × Nat × Nat × xSc) (J : xJT) (Φ : xO → xM → xH → Prop) (is : List xPI) (ls : xL) (st : List xV) (M : xM) (h : xH) (c n : Nat) (a b : Int) (k : List Nat) (z : List xMD), wpL Cl E J Φ ((.iadd, k, z) :: is) ls (xI b :: xI a :: st) M h c n = (wpL Cl E J Φ is ls (xI (w32 (a + b)) :: st) M h c n)) ∧ (∀ (Cl : xCal) (E : Nat × Nat × Nat × xSc) (J : xJT) (Φ : xO → xM → xH → Prop) (is : List xPI) (ls : xL) (st : List xV) (M : xM) (h : xH) (c n : Nat) (a b : Int) (k : List Nat) (z : List xMD), wpL Cl E J Φ ((.isub, k, z) :: is) ls (xI b :: xI a :: st) M h c n = (wpL Cl E J Φ is ls (xI (w32 (a - b)) :: st) M h c n)) ∧ (∀ (Cl : xCal) (E : Nat × Nat × Nat × xSc) (J : xJT) (Φ : xO → xM → xH → Prop) (is : List xPI) (ls : xL) (st : List xV) (M : xM) (h : xH) (c n : Nat) (a b : Int) (k : List Nat) (z : List xMD), wpL Cl E J Φ ((.imul, k, z) :: is) ls (xI b :: xI a :: st) M h c n = (wpL Cl E J Φ is ls (xI (w32 (a * b)) :: st) M h c n)) ∧ (∀ (Cl : xCal) (E : Nat × Nat × Nat × xSc) (J : xJT) (Φ : xO → xM → xH → Prop) (is : List xPI) (ls : xL) (st : List xV) (M : xM) (h : xH) (c n : Nat) (a b : Int) (k : List Nat) (z : List xMD), wpL Cl E J Φ ((.iand, k, z) :: is) ls (xI b :: xI a :: st) M h c n = (wpL Cl E J Φ is ls (xI (x_and a b) :: st) M h c n)) ∧ (∀ (Cl : xCal) (E : Nat × Nat × Nat × xSc) (J : xJT) (Φ : xO → xM → xH → Prop) (is : List xPI) (ls : xL) (st : List xV) (M : xM) (h : xH) (c n : Nat) (a b : Int) (k : List Nat) (z : List xMD), wpL Cl E J Φ ((.ior, k, z) :: is) ls (xI b :: xI a :: st) M h c n = (wpL Cl E J Φ is ls (xI (x_or a b) :: st) M h c n)) ∧ (∀ (Cl : xCal) (E : Nat × Nat × Nat × xSc) (J : xJT) (Φ : xO → xM → xH → Prop) (is : List xPI) (ls : xL) (st : List xV) (M : xM) (h : xH) (c n : Nat) (a b : Int) (k : List Nat) (z : List xMD), wpL Cl E J Φ ((.ixor, k, z) :: is) ls (xI b :: xI a :: st) M h c n = (wpL Cl E J Φ is ls (xI (x_xor a b) :: st) M h c n)) ∧ (∀ (Cl : xCal) (E : Nat × Nat × Nat × xSc) (J : xJT) (Φ : xO → xM → xH → Prop) (is : List xPI) (ls : xL) (st : List xV) (M : xM) (h : xH) (c n : Nat) (a b : Int) (k : List Nat) (z : List xMD), wpL Cl E J Φ ((.ishl, k, z) :: is) ls (xI b :: xI a :: st) M h c n = (wpL Cl E J Φ is ls (xI (x_shl a b) :: st) M h c n)) ∧ (∀ (Cl : xCal) (E : Nat × Nat × Nat × xSc) (J : xJT) (Φ : xO → xM → xH → Prop) (is : List xPI) (ls : xL) (st : List xV) (M : xM) (h : xH) (c n : Nat) (a b : Int) (k : List Nat) (z : List xMD), wpL Cl E J Φ ((.ishr, k, z) :: is) ls (xI b :: xI a :: st) M h c n = (wpL Cl E J Φ is ls (xI (x_shr a b) :: st) M h c n)) ∧ (∀ (Cl : xCal) (E : Nat × Nat × Nat × xSc) (J : xJT) (Φ : xO → xM → xH → Prop) (is : List xPI) (ls : xL) (st : List xV) (M : xM) (h : xH) (c n : Nat) (a b : Int) (k : List Nat) (z : List xMD), wpL Cl E J Φ ((.idiv, k, z) :: is) ls (xI b :: xI a :: st) M h c n = (b ≠ 0 ∧ wpL Cl E J Φ is ls (xI (x_div a b) :: st) M h c n)) ∧ (∀ (Cl : xCal) (E : Nat × Nat × Nat × xSc) (J : xJT) (Φ : xO → xM → xH → Prop) (is : List xPI) (ls : xL) (st : List xV) (M : xM) (h : xH) (c n : Nat) (a b : Int) (k : List Nat) (z : List xMD), wpL Cl E J Φ ((.irem, k, z) :: is) ls (xI b :: xI a :: st) M h c n = (b ≠ 0 ∧ wpL Cl E J Φ is ls (xI (x_rem a b) :: st) M h c n)) ∧ (∀ (Cl : xCal) (E : Nat × Nat × Nat × xSc) (J : xJT) (Φ : xO → xM → xH → Prop) (is : List xPI) (ls : xL) (st : List xV) (M : xM) (h : xH) (c n : Nat) (a : Int) (k : List Nat) (z : List xMD), wpL Cl E J Φ ((.i2l, k, z) :: is) ls (xI a :: st) M h c n = (wpL Cl E J Φ is ls (xJ a :: st) M h c n)) ∧ (∀ (Cl : xCal) (E : Nat × Nat × Nat × xSc) (J : xJT) (Φ : xO → xM → xH → Prop) (is : List xPI) (ls : xL) (st : List xV) (M : xM) (h : xH) (c n : Nat) (a : Int) (k : List Nat) (z : List xMD), wpL Cl E J Φ ((.l2i, k, z) :: is) ls (xJ a :: st) M h c n = (wpL Cl E J Φ is ls (xI (w32 a) :: st) M h c n)) ∧ (∀ (Cl : xCal) (E : Nat × Nat × Nat × xSc) (J : xJT) (Φ : xO → xM → xH → Prop) (is : List xPI) (ls : xL) (st : List xV) (M : xM) (h : xH) (c n : Nat) (a : Int) (k : List Nat) (z : List xMD), wpL Cl E J Φ ((.i2b, k, z) :: is) ls (xI a :: st) M h c n = (wpL Cl E J Φ is ls (xI (w8 a) :: st) M h c n)) ∧ (∀ (Cl : xCal) (E : Nat × Nat × Nat × xSc) (J : xJT) (Φ : xO → xM → xH → Prop) (is : List xPI) (ls : xL) (st : List xV) (M : xM) (h : xH) (c n : Nat) (a b : Int) (k : List Nat) (z : List xMD), wpL Cl E J Φ ((.ladd, k, z) :: is) ls (xJ b :: xJ a :: st) M h c n = (wpL Cl E J Φ is ls (xJ (w64 (a + b)) :: st) M h c n)) ∧ (∀ (Cl : xCal) (E : Nat × Nat × Nat × xSc) (J : xJT) (Φ : xO → xM → xH → Prop) (is : List xPI) (ls : xL) (st : List xV) (M : xM) (h : xH) (c n : Nat) (a b : Int) (k : List Nat) (z : List xMD), wpL Cl E J Φ ((.lsub, k, z) :: is) ls (xJ b :: xJ a :: st) M h c n = (wpL Cl E J Φ is ls (xJ (w64 (a - b)) :: st) M h c n)) ∧ (∀ (Cl : xCal) (E : Nat × Nat × Nat × xSc) (J : xJT) (Φ : xO → xM → xH → Prop) (is : List xPI) (ls : xL) (st : List xV) (M : xM) (h : xH) (c n : Nat) (a b : Int) (k : List Nat) (z : List xMD), wpL Cl E J Φ ((.lmul, k, z) :: is) ls (xJ b :: xJ a :: st) M h c n = (wpL Cl E J Φ is ls (xJ (w64 (a * b)) :: st) M h c n)) ∧ (∀ (Cl : xCal) (E : Nat × Nat × Nat × xSc) (J : xJT) (Φ : xO → xM → xH → Prop) (is : List xPI) (ls : xL) (st : List xV) (M : xM) (h : xH) (c n : Nat) (a b : Int) (k : List Nat) (z : List xMD), wpL Cl E J Φ ((.land, k, z) :: is) ls (xJ b :: xJ a :: st) M h c n = (wpL Cl E J Φ is ls (xJ (x_landL a b) :: st) M h c n)) ∧ (∀ (Cl : xCal) (E : Nat × Nat × Nat × xSc) (J : xJT) (Φ : xO → xM → xH → Prop) (is : List xPI) (ls : xL) (st : List xV) (M : xM) (h : xH) (c n : Nat) (a b : Int) (k : List Nat) (z : List xMD), wpL Cl E J Φ ((.lshr, k, z) :: is) ls (xI b :: xJ a :: st) M h c n = (wpL Cl E J Φ is ls (xJ (x_shrL a b) :: st) M h c n)) ∧ (∀ (Cl : xCal) (E : Nat × Nat × Nat × xSc) (J : xJT) (Φ : xO → xM → xH → Prop) (is : List xPI) (ls : xL) (st : List xV) (M : xM) (h : xH) (c n : Nat) (a b : Int) (k : List Nat) (z : List xMD), wpL Cl E J Φ ((.lcmp, k, z) :: is) ls (xJ b :: xJ a :: st) M h c n = (wpL Cl E J Φ is ls (xI (x_cmp a b) :: st) M h c n)) ∧ (∀ (Cl : xCal) (E : Nat × Nat × Nat × xSc) (J : xJT) (Φ : xO → xM → xH → Prop) (is : List xPI) (ls : xL) (st : List xV) (M : xM) (h : xH) (c n : Nat) (v : xV) (k : List Nat) (z : List xMD), wpL Cl E J Φ ((.dup, k, z) :: is) ls (v :: st) M h c n = (x_cat v = 1 ∧ wpL Cl E J Φ is ls (v :: v :: st) M h c n)) ∧ (∀ (Cl : xCal) (E : Nat × Nat × Nat × xSc) (J : xJT) (Φ : xO → xM → xH → Prop) (is : List xPI) (ls : xL) (st : List xV) (M : xM) (h : xH) (c n : Nat) (v w : xV) (k : List Nat) (z : List xMD), wpL Cl E J Φ ((.dup2, k, z) :: is) ls (v :: w :: st) M h c n = (x_cat v = 1 ∧ x_cat w = 1 ∧ wpL Cl E J Φ is ls (v :: w :: v :: w :: st) M h c n)) ∧ (∀ (Cl : xCal) (E : Nat × Nat × Nat × xSc) (J : xJT) (Φ : xO → xM → xH → Prop) (is : List xPI) (ls : xL) (st : List xV) (M : xM) (h : xH) (c n : Nat) (v : xV) (k : List Nat) (z : List xMD), wpL Cl E J Φ ((.pop, k, z) :: is) ls (v :: st) M h c n = (x_cat v = 1 ∧ wpL Cl E J Φ is ls st M h c n)) ∧ (∀ (Cl : xCal) (E : Nat × Nat × Nat × xSc) (J : xJT) (Φ : xO → xM → xH → Prop) (is : List xPI) (ls : xL) (st : List xV) (M : xM) (h : xH) (c n : Nat) (a : Int) (o : Int) (t : Nat) (z : List xMD), wpL Cl E J Φ ((.ifCond .eq o, [t], z) :: is) ls (xI a :: st) M h c n = (((a = 0) → J t ls st M h c n) ∧ (¬ (a = 0) → wpL Cl E J Φ is ls st M h c n))) ∧ (∀ (Cl : xCal) (E : Nat × Nat × Nat × xSc) (J : xJT) (Φ : xO → xM → xH → Prop) (is : List xPI) (ls : xL) (st : List xV) (M : xM) (h : xH) (c n : Nat) (a b : Int) (o : Int) (t : Nat) (z : List xMD), wpL Cl E J Φ ((.if_icmp .eq o, [t], z) :: is) ls (xI b :: xI a :: st) M h c n = (((a = b) → J t ls st M h c n) ∧ (¬ (a = b) → wpL Cl E J Φ is ls st M h c n))) ∧ (∀ (Cl : xCal) (E : Nat × Nat × Nat × xSc) (J : xJT) (Φ : xO → xM → xH → Prop) (is : List xPI) (ls : xL) (st : List xV) (M : xM) (h : xH) (c n : Nat) (a : Int) (o : Int) (t : Nat) (z : List xMD), wpL Cl E J Φ ((.ifCond .ne o, [t], z) :: is) ls (xI a :: st) M h c n = (((a ≠ 0) → J t ls st M h c n) ∧ (¬ (a ≠ 0) → wpL Cl E J Φ is ls st M h c n))) ∧ (∀ (Cl : xCal) (E : Nat × Nat × Nat × xSc) (J : xJT) (Φ : xO → xM → xH → Prop) (is : List xPI) (ls : xL) (st : List xV) (M : xM) (h : xH) (c n : Nat) (a b : Int) (o : Int) (t : Nat) (z : List xMD), wpL Cl E J Φ ((.if_icmp .ne o, [t], z) :: is) ls (xI b :: xI a :: st) M h c n = (((a ≠ b) → J t ls st M h c n) ∧ (¬ (a ≠ b) → wpL Cl E J Φ is ls st M h c n))) ∧ (∀ (Cl : xCal) (E : Nat × Nat × Nat × xSc) (J : xJT) (Φ : xO → xM → xH → Prop) (is : List xPI) (ls : xL) (st : List xV) (M : xM) (h : xH) (c n : Nat) (a : Int) (o : Int) (t : Nat) (z : List xMD), wpL Cl E J Φ ((.ifCond .lt o, [t], z) :: is) ls (xI a :: st) M h c n = (((a < 0) → J t ls st M h c n) ∧ (¬ (a < 0) → wpL Cl E J Φ is ls st M h c n))) ∧ (∀ (Cl : xCal) (E : Nat × Nat × Nat × xSc) (J : xJT) (Φ : xO → xM → xH → Prop) (is : List xPI) (ls : xL) (st : List xV) (M : xM) (h : xH) (c n : Nat) (a b : Int) (o : Int) (t : Nat) (z : List xMD), wpL Cl E J Φ ((.if_icmp .lt o, [t], z) :: is) ls (xI b :: xI a :: st) M h c n = (((a < b) → J t ls st M h c n) ∧ (¬ (a < b) → wpL Cl E J Φ is ls st M h c n))) ∧ (∀ (Cl : xCal) (E : Nat × Nat × Nat × xSc) (J : xJT) (Φ : xO → xM → xH → Prop) (is : List xPI) (ls : xL) (st : List xV) (M : xM) (h : xH) (c n : Nat) (a : Int) (o : Int) (t : Nat) (z : List xMD), wpL Cl E J Φ ((.ifCond .ge o, [t], z) :: is) ls (xI a :: st) M h c n = (((0 ≤ a) → J t ls st M h c n) ∧ (¬ (0 ≤ a) → wpL Cl E J Φ is ls st M h c n))) ∧ (∀ (Cl : xCal) (E : Nat × Nat × Nat × xSc) (J : xJT) (Φ : xO → xM → xH → Prop) (is : List xPI) (ls : xL) (st : List xV) (M : xM) (h : xH) (c n : Nat) (a b : Int) (o : Int) (t : Nat) (z : List xMD), wpL Cl E J Φ ((.if_icmp .ge o, [t], z) :: is) ls (xI b :: xI a :: st) M h c n = (((b ≤ a) → J t ls st M h c n) ∧ (¬ (b ≤ a) → wpL Cl E J Φ is ls st M h c n))) ∧ (∀ (Cl : xCal) (E : Nat × Nat × Nat × xSc) (J : xJT) (Φ : xO → xM → xH → Prop) (is : List xPI) (ls : xL) (st : List xV) (M : xM) (h : xH) (c n : Nat) (a : Int) (o : Int) (t : Nat) (z : List xMD), wpL Cl E J Φ ((.ifCond .gt o, [t], z) :: is) ls (xI a :: st) M h c n = (((0 < a) → J t ls st M h c n) ∧ (¬ (0 < a) → wpL Cl E J Φ is ls st M h c n))) ∧ (∀ (Cl : xCal) (E : Nat × Nat × Nat × xSc) (J : xJT) (Φ : xO → xM → xH → Prop) (is : List xPI) (ls : xL) (st : List xV) (M : xM) (h : xH) (c n : Nat) (a b : Int) (o : Int) (t : Nat) (z : List xMD), wpL Cl E J Φ ((.if_icmp .gt o, [t], z) :: is) ls (xI b :: xI a :: st) M h c n = (((b < a) → J t ls st M h c n) ∧ (¬ (b < a) → wpL Cl E J Φ is ls st M h c n))) ∧ (∀ (Cl : xCal) (E : Nat × Nat × Nat × xSc) (J : xJT) (Φ : xO → xM → xH → Prop) (is : List xPI) (ls : xL) (st : List xV) (M : xM) (h : xH) (c n : Nat) (a : Int) (o : Int) (t : Nat) (z : List xMD), wpL Cl E J Φ ((.ifCond .le o, [t], z) :: is) ls (xI a :: st) M h c n = (((a ≤ 0) → J t ls st M h c n) ∧ (¬ (a ≤ 0) → wpL Cl E J Φ is ls st M h c n))) ∧ (∀ (Cl : xCal) (E : Nat × Nat × Nat × xSc) (J : xJT) (Φ : xO → xM → xH → Prop) (is : List xPI) (ls : xL) (st : List xV) (M : xM) (h : xH) (c n : Nat) (a b : Int) (o : Int) (t : Nat) (z : List xMD), wpL Cl E J Φ ((.if_icmp .le o, [t], z) :: is) ls (xI b :: xI a :: st) M h c n = (((a ≤ b) → J t ls st M h c n) ∧ (¬ (a ≤ b) → wpL Cl E J Φ is ls st M h c n))) ∧ (∀ (Cl : xCal) (E : Nat × Nat × Nat × xSc) (J : xJT) (Φ : xO → xM → xH → Prop) (is : List xPI) (ls : xL) (st : List xV) (M : xM) (h : xH) (c n : Nat) (r : Nat) (o : Int) (t : Nat) (z : List xMD), wpL Cl E J Φ ((.ifnull o, [t], z) :: is) ls (xA r :: st) M h c n = ((r = 0 → J t ls st M h c n) ∧ (r ≠ 0 → wpL Cl E J Φ is ls st M h c n))) ∧ (∀ (Cl : xCal) (E : Nat × Nat × Nat × xSc) (J : xJT) (Φ : xO → xM → xH → Prop) (is : List xPI) (ls : xL) (st : List xV) (M : xM) (h : xH) (c n : Nat) (r : Nat) (o : Int) (t : Nat) (z : List xMD), wpL Cl E J Φ ((.ifnonnull o, [t], z) :: is) ls (xA r :: st) M h c n = ((r ≠ 0 → J t ls st M h c n) ∧ (r = 0 → wpL Cl E J Φ is ls st M h c n))) ∧ (∀ (Cl : xCal) (E : Nat × Nat × Nat × xSc) (J : xJT) (Φ : xO → xM → xH → Prop) (is : List xPI) (ls : xL) (st : List xV) (M : xM) (h : xH) (c n : Nat) (o : Int) (t : Nat) (z : List xMD), wpL Cl E J Φ ((.goto o, [t], z) :: is) ls st M h c n = (J t ls st M h c n)) ∧ (∀ (Cl : xCal) (E : Nat × Nat × Nat × xSc) (J : xJT) (Φ : xO → xM → xH → Prop) (is : List xPI) (ls : xL) (st : List xV) (M : xM) (h : xH) (c n : Nat) (d lo hi : Int) (os : Array Int) (t : Nat) (ts : List Nat) (x : Int) (z : List xMD), wpL Cl E J Φ ((.tableswitch d lo hi os, t :: ts, z) :: is) ls (xI x :: st) M h c n = (x_sw J ls st M h c n x (x < lo ∨ hi < x → J t ls st M h c n) lo ts)) ∧ (∀ (Cl : xCal) (E : Nat × Nat × Nat × xSc) (J : xJT) (Φ : xO → xM → xH → Prop) (is : List xPI) (ls : xL) (st : List xV) (M : xM) (h : xH) (c n : Nat) (d : Int) (ps : Array (Int × Int)) (t : Nat) (ts : List Nat) (x : Int) (z : List xMD), wpL Cl E J Φ ((.lookupswitch d ps, t :: ts, z) :: is) ls (xI x :: st) M h c n = (x_lk J ls st M h c n x (J t ls st M h c n) (ps.toList.map (fun p => p.1)) ts)) ∧ (∀ (Cl : xCal) (E : Nat × Nat × Nat × xSc) (J : xJT) (Φ : xO → xM → xH → Prop) (is : List xPI) (ls : xL) (st : List xV) (M : xM) (h : xH) (c n : Nat) (j q i a : Nat) (k : List Nat) (z : List xMD), wpL Cl E J Φ ((.getfield j, q :: i :: 0 :: k, z) :: is) ls (xA a :: st) M h c n = (hK h a = q ∧ wpL Cl E J Φ is ls (xI (M a i) :: st) M h c n)) ∧ (∀ (Cl : xCal) (E : Nat × Nat × Nat × xSc) (J : xJT) (Φ : xO → xM → xH → Prop) (is : List xPI) (ls : xL) (st : List xV) (M : xM) (h : xH) (c n : Nat) (j q i a : Nat) (k : List Nat) (z : List xMD), wpL Cl E J Φ ((.getfield j, q :: i :: 1 :: k, z) :: is) ls (xA a :: st) M h c n = (hK h a = q ∧ wpL Cl E J Φ is ls (xJ (M a i) :: st) M h c n)) ∧ (∀ (Cl : xCal) (E : Nat × Nat × Nat × xSc) (J : xJT) (Φ : xO → xM → xH → Prop) (is : List xPI) (ls : xL) (st : List xV) (M : xM) (h : xH) (c n : Nat) (j q i a : Nat) (k : List Nat) (z : List xMD), wpL Cl E J Φ ((.getfield j, q :: i :: 2 :: k, z) :: is) ls (xA a :: st) M h c n = (hK h a = q ∧ wpL Cl E J Φ is ls (xA (hP h a i) :: st) M h c n)) ∧ (∀ (Cl : xCal) (E : Nat × Nat × Nat × xSc) (J : xJT) (Φ : xO → xM → xH → Prop) (is : List xPI) (ls : xL) (st : List xV) (M : xM) (h : xH) (c n : Nat) (j q i a : Nat) (v : Int) (k : List Nat) (z : List xMD), wpL Cl E J Φ ((.putfield j, q :: i :: 0 :: k, z) :: is) ls (xI v :: xA a :: st) M h c n = (hK h a = q ∧ wpL Cl E J Φ is ls st (x_w M a i v) h c n)) ∧ (∀ (Cl : xCal) (E : Nat × Nat × Nat × xSc) (J : xJT) (Φ : xO → xM → xH → Prop) (is : List xPI) (ls : xL) (st : List xV) (M : xM) (h : xH) (c n : Nat) (j q i a : Nat) (v : Int) (k : List Nat) (z : List xMD), wpL Cl E J Φ ((.putfield j, q :: i :: 1 :: k, z) :: is) ls (xJ v :: xA a :: st) M h c n = (hK h a = q ∧ wpL Cl E J Φ is ls st (x_w M a i v) h c n)) ∧ (∀ (Cl : xCal) (E : Nat × Nat × Nat × xSc) (J : xJT) (Φ : xO → xM → xH → Prop) (is : List xPI) (ls : xL) (st : List xV) (M : xM) (h : xH) (c n : Nat) (j q i a r : Nat) (k : List Nat) (z : List xMD), wpL Cl E J Φ ((.putfield j, q :: i :: 2 :: k, z) :: is) ls (xA r :: xA a :: st) M h c n = (hK h a = q ∧ wpL Cl E J Φ is ls st M (x_pw h a i r) c n)) ∧ (∀ (Cl : xCal) (E : Nat × Nat × Nat × xSc) (J : xJT) (Φ : xO → xM → xH → Prop) (is : List xPI) (ls : xL) (st : List xV) (M : xM) (h : xH) (c n : Nat) (a : Nat) (i : Int) (k : List Nat) (z : List xMD), wpL Cl E J Φ ((.iaload, k, z) :: is) ls (xI i :: xA a :: st) M h c n = (hK h a = 20 ∧ (0 ≤ i ∧ i < hL h a) ∧ wpL Cl E J Φ is ls (xI (M a i) :: st) M h c n)) ∧ (∀ (Cl : xCal) (E : Nat × Nat × Nat × xSc) (J : xJT) (Φ : xO → xM → xH → Prop) (is : List xPI) (ls : xL) (st : List xV) (M : xM) (h : xH) (c n : Nat) (a : Nat) (i : Int) (k : List Nat) (z : List xMD), wpL Cl E J Φ ((.baload, k, z) :: is) ls (xI i :: xA a :: st) M h c n = (hK h a = 21 ∧ (0 ≤ i ∧ i < hL h a) ∧ wpL Cl E J Φ is ls (xI (M a i) :: st) M h c n)) ∧ (∀ (Cl : xCal) (E : Nat × Nat × Nat × xSc) (J : xJT) (Φ : xO → xM → xH → Prop) (is : List xPI) (ls : xL) (st : List xV) (M : xM) (h : xH) (c n : Nat) (a : Nat) (i : Int) (k : List Nat) (z : List xMD), wpL Cl E J Φ ((.aaload, k, z) :: is) ls (xI i :: xA a :: st) M h c n = ((hK h a = 23 ∨ hK h a = 24) ∧ (0 ≤ i ∧ i < hL h a) ∧ wpL Cl E J Φ is ls (xA (hP h a i) :: st) M h c n)) ∧ (∀ (Cl : xCal) (E : Nat × Nat × Nat × xSc) (J : xJT) (Φ : xO → xM → xH → Prop) (is : List xPI) (ls : xL) (st : List xV) (M : xM) (h : xH) (c n : Nat) (a : Nat) (i v : Int) (k : List Nat) (z : List xMD), wpL Cl E J Φ ((.iastore, k, z) :: is) ls (xI v :: xI i :: xA a :: st) M h c n = (hK h a = 20 ∧ (0 ≤ i ∧ i < hL h a) ∧ wpL Cl E J Φ is ls st (x_w M a i v) h c n)) ∧ (∀ (Cl : xCal) (E : Nat × Nat × Nat × xSc) (J : xJT) (Φ : xO → xM → xH → Prop) (is : List xPI) (ls : xL) (st : List xV) (M : xM) (h : xH) (c n : Nat) (a : Nat) (i v : Int) (k : List Nat) (z : List xMD), wpL Cl E J Φ ((.bastore, k, z) :: is) ls (xI v :: xI i :: xA a :: st) M h c n = (hK h a = 21 ∧ (0 ≤ i ∧ i < hL h a) ∧ wpL Cl E J Φ is ls st (x_w M a i (w8 v)) h c n)) ∧ (∀ (Cl : xCal) (E : Nat × Nat × Nat × xSc) (J : xJT) (Φ : xO → xM → xH → Prop) (is : List xPI) (ls : xL) (st : List xV) (M : xM) (h : xH) (c n : Nat) (a r : Nat) (i : Int) (k : List Nat) (z : List xMD), wpL Cl E J Φ ((.aastore, k, z) :: is) ls (xA r :: xI i :: xA a :: st) M h c n = ((hK h a = 23 ∧ (r = 0 ∨ hK h r = 1) ∨ hK h a = 24 ∧ (r = 0 ∨ hK h r = 4)) ∧ (0 ≤ i ∧ i < hL h a) ∧ wpL Cl E J Φ is ls st M (x_pw h a i r) c n)) ∧ (∀ (Cl : xCal) (E : Nat × Nat × Nat × xSc) (J : xJT) (Φ : xO → xM → xH → Prop) (is : List xPI) (ls : xL) (st : List xV) (M : xM) (h : xH) (c n : Nat) (a : Nat) (k : List Nat) (z : List xMD), wpL Cl E J Φ ((.arraylength, k, z) :: is) ls (xA a :: st) M h c n = (20 ≤ hK h a ∧ hK h a ≤ 24 ∧ wpL Cl E J Φ is ls (xI (hL h a) :: st) M h c n)) ∧ (∀ (Cl : xCal) (E : Nat × Nat × Nat × xSc) (J : xJT) (Φ : xO → xM → xH → Prop) (is : List xPI) (ls : xL) (st : List xV) (M : xM) (h : xH) (c n : Nat) (a : Nat) (i : Int) (k : List Nat) (z : List xMD), wpL Cl E J Φ ((.iaload, k, z) :: is) ls (xI i :: xE a :: st) M h c n = (a = E.2.2.2.1 ∧ (0 ≤ i ∧ i < E.2.2.2.2.1) ∧ wpL Cl E J Φ is ls (xI (E.2.2.2.2.2 i) :: st) M h c n)) ∧ (∀ (Cl : xCal) (E : Nat × Nat × Nat × xSc) (J : xJT) (Φ : xO → xM → xH → Prop) (is : List xPI) (ls : xL) (st : List xV) (M : xM) (h : xH) (c n : Nat) (a : Nat) (k : List Nat) (z : List xMD), wpL Cl E J Φ ((.arraylength, k, z) :: is) ls (xE a :: st) M h c n = (a = E.2.2.2.1 ∧ 0 ≤ E.2.2.2.2.1 ∧ wpL Cl E J Φ is ls (xI E.2.2.2.2.1 :: st) M h c n)) ∧ (∀ (Cl : xCal) (E : Nat × Nat × Nat × xSc) (J : xJT) (Φ : xO → xM → xH → Prop) (is : List xPI) (ls : xL) (st : List xV) (M : xM) (h : xH) (c n : Nat) (j q : Nat) (k : List Nat) (z : List xMD), wpL Cl E J Φ ((.new j, q :: k, z) :: is) ls st M h c n = ((c + 1 ≤ E.1 ∧ n + x_N q ≤ E.2.1) ∧ wpL Cl E J Φ is ls (xA (hn h) :: st) (x_z M h) (x_new h q 0) (c + 1) (n + x_N q))) ∧ (∀ (Cl : xCal) (E : Nat × Nat × Nat × xSc) (J : xJT) (Φ : xO → xM → xH → Prop) (is : List xPI) (ls : xL) (st : List xV) (M : xM) (h : xH) (c n : Nat) (j : ArrayType) (q : Nat) (x : Int) (k : List Nat) (z : List xMD), wpL Cl E J Φ ((.newarray j, q :: k, z) :: is) ls (xI x :: st) M h c n = ((0 ≤ x ∧ x ≤ 50000 ∧ c + 1 ≤ E.1 ∧ n + x.toNat ≤ E.2.1) ∧ wpL Cl E J Φ is ls (xA (hn h) :: st) (x_z M h) (x_new h q x) (c + 1) (n + x.toNat))) ∧ (∀ (Cl : xCal) (E : Nat × Nat × Nat × xSc) (J : xJT) (Φ : xO → xM → xH → Prop) (is : List xPI) (ls : xL) (st : List xV) (M : xM) (h : xH) (c n : Nat) (j q : Nat) (x : Int) (k : List Nat) (z : List xMD), wpL Cl E J Φ ((.anewarray j, q :: k, z) :: is) ls (xI x :: st) M h c n = ((0 ≤ x ∧ x ≤ 50000 ∧ c + 1 ≤ E.1 ∧ n + x.toNat ≤ E.2.1) ∧ wpL Cl E J Φ is ls (xA (hn h) :: st) (x_z M h) (x_new h q x) (c + 1) (n + x.toNat))) ∧ (∀ (Cl : xCal) (E : Nat × Nat × Nat × xSc) (J : xJT) (Φ : xO → xM → xH → Prop) (is : List xPI) (ls : xL) (st : List xV) (M : xM) (h : xH) (c n : Nat) (j mc ms q : Nat) (z : xMD) (k : List Nat) (r : Nat), wpL Cl E J Φ ((.invokevirtual j, 0 :: mc :: ms :: q :: k, [z]) :: is) ls (xA r :: st) M h c n = ((q < 50 ∧ hK h r = q) ∧ (c + mc ≤ E.1 ∧ n + ms ≤ E.2.1) ∧ (st.map x_cat).sum ≤ 8 ∧ 0 + 1 ≤ (xA r :: st).length ∧ Cl z [xA r] M h (x_k Cl E J Φ is ls st (c + mc) (n + ms)))) ∧ (∀ (Cl : xCal) (E : Nat × Nat × Nat × xSc) (J : xJT) (Φ : xO → xM → xH → Prop) (is : List xPI) (ls : xL) (st : List xV) (M : xM) (h : xH) (c n : Nat) (j mc ms q : Nat) (z : xMD) (k : List Nat) (r : Nat), wpL Cl E J Φ ((.invokespecial j, 0 :: mc :: ms :: q :: k, [z]) :: is) ls (xA r :: st) M h c n = ((q < 50 ∧ hK h r = q) ∧ (c + mc ≤ E.1 ∧ n + ms ≤ E.2.1) ∧ (st.map x_cat).sum ≤ 8 ∧ 0 + 1 ≤ (xA r :: st).length ∧ Cl z [xA r] M h (x_ki Cl E J Φ is ls st (c + mc) (n + ms)))) ∧ (∀ (Cl : xCal) (E : Nat × Nat × Nat × xSc) (J : xJT) (Φ : xO → xM → xH → Prop) (is : List xPI) (ls : xL) (st : List xV) (M : xM) (h : xH) (c n : Nat) (j mc ms q : Nat) (z : xMD) (k : List Nat) (r : Nat) (a0 : xV), wpL Cl E J Φ ((.invokevirtual j, 1 :: mc :: ms :: q :: k, [z]) :: is) ls (a0 :: xA r :: st) M h c n = ((q < 50 ∧ hK h r = q) ∧ (c + mc ≤ E.1 ∧ n + ms ≤ E.2.1) ∧ (st.map x_cat).sum ≤ 8 ∧ 1 + 1 ≤ (a0 :: xA r :: st).length ∧ Cl z [xA r, a0] M h (x_k Cl E J Φ is ls st (c + mc) (n + ms)))) ∧ (∀ (Cl : xCal) (E : Nat × Nat × Nat × xSc) (J : xJT) (Φ : xO → xM → xH → Prop) (is : List xPI) (ls : xL) (st : List xV) (M : xM) (h : xH) (c n : Nat) (j mc ms q : Nat) (z : xMD) (k : List Nat) (r : Nat) (a0 : xV), wpL Cl E J Φ ((.invokespecial j, 1 :: mc :: ms :: q :: k, [z]) :: is) ls (a0 :: xA r :: st) M h c n = ((q < 50 ∧ hK h r = q) ∧ (c + mc ≤ E.1 ∧ n + ms ≤ E.2.1) ∧ (st.map x_cat).sum ≤ 8 ∧ 1 + 1 ≤ (a0 :: xA r :: st).length ∧ Cl z [xA r, a0] M h (x_ki Cl E J Φ is ls st (c + mc) (n + ms)))) ∧ (∀ (Cl : xCal) (E : Nat × Nat × Nat × xSc) (J : xJT) (Φ : xO → xM → xH → Prop) (is : List xPI) (ls : xL) (st : List xV) (M : xM) (h : xH) (c n : Nat) (j mc ms q : Nat) (z : xMD) (k : List Nat) (r : Nat) (a0 a1 : xV), wpL Cl E J Φ ((.invokevirtual j, 2 :: mc :: ms :: q :: k, [z]) :: is) ls (a1 :: a0 :: xA r :: st) M h c n = ((q < 50 ∧ hK h r = q) ∧ (c + mc ≤ E.1 ∧ n + ms ≤ E.2.1) ∧ (st.map x_cat).sum ≤ 8 ∧ 2 + 1 ≤ (a1 :: a0 :: xA r :: st).length ∧ Cl z [xA r, a0, a1] M h (x_k Cl E J Φ is ls st (c + mc) (n + ms)))) ∧ (∀ (Cl : xCal) (E : Nat × Nat × Nat × xSc) (J : xJT) (Φ : xO → xM → xH → Prop) (is : List xPI) (ls : xL) (st : List xV) (M : xM) (h : xH) (c n : Nat) (j mc ms q : Nat) (z : xMD) (k : List Nat) (r : Nat) (a0 a1 : xV), wpL Cl E J Φ ((.invokespecial j, 2 :: mc :: ms :: q :: k, [z]) :: is) ls (a1 :: a0 :: xA r :: st) M h c n = ((q < 50 ∧ hK h r = q) ∧ (c + mc ≤ E.1 ∧ n + ms ≤ E.2.1) ∧ (st.map x_cat).sum ≤ 8 ∧ 2 + 1 ≤ (a1 :: a0 :: xA r :: st).length ∧ Cl z [xA r, a0, a1] M h (x_ki Cl E J Φ is ls st (c + mc) (n + ms)))) ∧ (∀ (Cl : xCal) (E : Nat × Nat × Nat × xSc) (J : xJT) (Φ : xO → xM → xH → Prop) (is : List xPI) (ls : xL) (st : List xV) (M : xM) (h : xH) (c n : Nat) (j mc ms q : Nat) (z : xMD) (k : List Nat) (r : Nat) (a0 a1 a2 : xV), wpL Cl E J Φ ((.invokevirtual j, 3 :: mc :: ms :: q :: k, [z]) :: is) ls (a2 :: a1 :: a0 :: xA r :: st) M h c n = ((q < 50 ∧ hK h r = q) ∧ (c + mc ≤ E.1 ∧ n + ms ≤ E.2.1) ∧ (st.map x_cat).sum ≤ 8 ∧ 3 + 1 ≤ (a2 :: a1 :: a0 :: xA r :: st).length ∧ Cl z [xA r, a0, a1, a2] M h (x_k Cl E J Φ is ls st (c + mc) (n + ms)))) ∧ (∀ (Cl : xCal) (E : Nat × Nat × Nat × xSc) (J : xJT) (Φ : xO → xM → xH → Prop) (is : List xPI) (ls : xL) (st : List xV) (M : xM) (h : xH) (c n : Nat) (j mc ms q : Nat) (z : xMD) (k : List Nat) (r : Nat) (a0 a1 a2 : xV), wpL Cl E J Φ ((.invokespecial j, 3 :: mc :: ms :: q :: k, [z]) :: is) ls (a2 :: a1 :: a0 :: xA r :: st) M h c n = ((q < 50 ∧ hK h r = q) ∧ (c + mc ≤ E.1 ∧ n + ms ≤ E.2.1) ∧ (st.map x_cat).sum ≤ 8 ∧ 3 + 1 ≤ (a2 :: a1 :: a0 :: xA r :: st).length ∧ Cl z [xA r, a0, a1, a2] M h (x_ki Cl E J Φ is ls st (c + mc) (n + ms)))) ∧ (∀ (Cl : xCal) (E : Nat × Nat × Nat × xSc) (J : xJT) (Φ : xO → xM → xH → Prop) (is : List xPI) (ls : xL) (st : List xV) (M : xM) (h : xH) (c n : Nat) (j mc ms q : Nat) (z : xMD) (k : List Nat) (r : Nat) (a0 a1 a2 a3 : xV), wpL Cl E J Φ ((.invokevirtual j, 4 :: mc :: ms :: q :: k, [z]) :: is) ls (a3 :: a2 :: a1 :: a0 :: xA r :: st) M h c n = ((q < 50 ∧ hK h r = q) ∧ (c + mc ≤ E.1 ∧ n + ms ≤ E.2.1) ∧ (st.map x_cat).sum ≤ 8 ∧ 4 + 1 ≤ (a3 :: a2 :: a1 :: a0 :: xA r :: st).length ∧ Cl z [xA r, a0, a1, a2, a3] M h (x_k Cl E J Φ is ls st (c + mc) (n + ms)))) ∧ (∀ (Cl : xCal) (E : Nat × Nat × Nat × xSc) (J : xJT) (Φ : xO → xM → xH → Prop) (is : List xPI) (ls : xL) (st : List xV) (M : xM) (h : xH) (c n : Nat) (j mc ms q : Nat) (z : xMD) (k : List Nat) (r : Nat) (a0 a1 a2 a3 : xV), wpL Cl E J Φ ((.invokespecial j, 4 :: mc :: ms :: q :: k, [z]) :: is) ls (a3 :: a2 :: a1 :: a0 :: xA r :: st) M h c n = ((q < 50 ∧ hK h r = q) ∧ (c + mc ≤ E.1 ∧ n + ms ≤ E.2.1) ∧ (st.map x_cat).sum ≤ 8 ∧ 4 + 1 ≤ (a3 :: a2 :: a1 :: a0 :: xA r :: st).length ∧ Cl z [xA r, a0, a1, a2, a3] M h (x_ki Cl E J Φ is ls st (c + mc) (n + ms)))) ∧ (∀ (Cl : xCal) (E : Nat × Nat × Nat × xSc) (J : xJT) (Φ : xO → xM → xH → Prop) (is : List xPI) (ls : xL) (st : List xV) (M : xM) (h : xH) (c n : Nat) (j mc ms q : Nat) (z : xMD) (k : List Nat) (r : Nat) (a0 a1 a2 a3 a4 : xV), wpL Cl E J Φ ((.invokevirtual j, 5 :: mc :: ms :: q :: k, [z]) :: is) ls (a4 :: a3 :: a2 :: a1 :: a0 :: xA r :: st) M h c n = ((q < 50 ∧ hK h r = q) ∧ (c + mc ≤ E.1 ∧ n + ms ≤ E.2.1) ∧ (st.map x_cat).sum ≤ 8 ∧ 5 + 1 ≤ (a4 :: a3 :: a2 :: a1 :: a0 :: xA r :: st).length ∧ Cl z [xA r, a0, a1, a2, a3, a4] M h (x_k Cl E J Φ is ls st (c + mc) (n + ms)))) ∧ (∀ (Cl : xCal) (E : Nat × Nat × Nat × xSc) (J : xJT) (Φ : xO → xM → xH → Prop) (is : List xPI) (ls : xL) (st : List xV) (M : xM) (h : xH) (c n : Nat) (j mc ms q : Nat) (z : xMD) (k : List Nat) (r : Nat) (a0 a1 a2 a3 a4 : xV), wpL Cl E J Φ ((.invokespecial j, 5 :: mc :: ms :: q :: k, [z]) :: is) ls (a4 :: a3 :: a2 :: a1 :: a0 :: xA r :: st) M h c n = ((q < 50 ∧ hK h r = q) ∧ (c + mc ≤ E.1 ∧ n + ms ≤ E.2.1) ∧ (st.map x_cat).sum ≤ 8 ∧ 5 + 1 ≤ (a4 :: a3 :: a2 :: a1 :: a0 :: xA r :: st).length ∧ Cl z [xA r, a0, a1, a2, a3, a4] M h (x_ki Cl E J Φ is ls st (c + mc) (n + ms)))) ∧ (∀ (Cl : xCal) (E : Nat × Nat × Nat × xSc) (J : xJT) (Φ : xO → xM → xH → Prop) (is : List xPI) (ls : xL) (st : List xV) (M : xM) (h : xH) (c n : Nat) (j mc ms q : Nat) (z : xMD) (k : List Nat) (r : Nat), wpL Cl E J Φ ((.invokevirtual j, 0 :: mc :: ms :: q :: k, [z]) :: is) ls (xS r :: st) M h c n = (q = 50 ∧ (c + mc ≤ E.1 ∧ n + ms ≤ E.2.1) ∧ (st.map x_cat).sum ≤ 8 ∧ 0 + 1 ≤ (xS r :: st).length ∧ Cl z [xS r] M h (x_k Cl E J Φ is ls st (c + mc) (n + ms)))) ∧ (∀ (Cl : xCal) (E : Nat × Nat × Nat × xSc) (J : xJT) (Φ : xO → xM → xH → Prop) (is : List xPI) (ls : xL) (st : List xV) (M : xM) (h : xH) (c n : Nat) (j mc ms q : Nat) (z : xMD) (k : List Nat) (r : Nat) (a0 : xV), wpL Cl E J Φ ((.invokevirtual j, 1 :: mc :: ms :: q :: k, [z]) :: is) ls (a0 :: xS r :: st) M h c n = (q = 50 ∧ (c + mc ≤ E.1 ∧ n + ms ≤ E.2.1) ∧ (st.map x_cat).sum ≤ 8 ∧ 1 + 1 ≤ (a0 :: xS r :: st).length ∧ Cl z [xS r, a0] M h (x_k Cl E J Φ is ls st (c + mc) (n + ms)))) ∧ (∀ (Cl : xCal) (E : Nat × Nat × Nat × xSc) (J : xJT) (Φ : xO → xM → xH → Prop) (is : List xPI) (ls : xL) (st : List xV) (M : xM) (h : xH) (c n : Nat) (j mc ms : Nat) (z : xMD) (k : List Nat) (a0 : xV), wpL Cl E J Φ ((.invokestatic j, 1 :: mc :: ms :: k, [z]) :: is) ls (a0 :: st) M h c n = ((c + mc ≤ E.1 ∧ n + ms ≤ E.2.1) ∧ (st.map x_cat).sum ≤ 8 ∧ 1 ≤ (a0 :: st).length ∧ Cl z [a0] M h (x_k Cl E J Φ is ls st (c + mc) (n + ms)))) ∧ (∀ (Cl : xCal) (E : Nat × Nat × Nat × xSc) (J : xJT) (Φ : xO → xM → xH → Prop) (is : List xPI) (ls : xL) (st : List xV) (M : xM) (h : xH) (c n : Nat) (j mc ms : Nat) (z : xMD) (k : List Nat) (a0 a1 : xV), wpL Cl E J Φ ((.invokestatic j, 2 :: mc :: ms :: k, [z]) :: is) ls (a1 :: a0 :: st) M h c n = ((c + mc ≤ E.1 ∧ n + ms ≤ E.2.1) ∧ (st.map x_cat).sum ≤ 8 ∧ 2 ≤ (a1 :: a0 :: st).length ∧ Cl z [a0, a1] M h (x_k Cl E J Φ is ls st (c + mc) (n + ms)))) ∧ (∀ (Cl : xCal) (E : Nat × Nat × Nat × xSc) (J : xJT) (Φ : xO → xM → xH → Prop) (is : List xPI) (ls : xL) (st : List xV) (M : xM) (h : xH) (c n : Nat) (j mc ms : Nat) (z : xMD) (k : List Nat) (a0 a1 a2 : xV), wpL Cl E J Φ ((.invokestatic j, 3 :: mc :: ms :: k, [z]) :: is) ls (a2 :: a1 :: a0 :: st) M h c n = ((c + mc ≤ E.1 ∧ n + ms ≤ E.2.1) ∧ (st.map x_cat).sum ≤ 8 ∧ 3 ≤ (a2 :: a1 :: a0 :: st).length ∧ Cl z [a0, a1, a2] M h (x_k Cl E J Φ is ls st (c + mc) (n + ms)))) ∧ (∀ (Cl : xCal) (E : Nat × Nat × Nat × xSc) (J : xJT) (Φ : xO → xM → xH → Prop) (is : List xPI) (ls : xL) (st : List xV) (M : xM) (h : xH) (c n : Nat) (j mc ms : Nat) (z : xMD) (k : List Nat) (a0 a1 a2 a3 : xV), wpL Cl E J Φ ((.invokestatic j, 4 :: mc :: ms :: k, [z]) :: is) ls (a3 :: a2 :: a1 :: a0 :: st) M h c n = ((c + mc ≤ E.1 ∧ n + ms ≤ E.2.1) ∧ (st.map x_cat).sum ≤ 8 ∧ 4 ≤ (a3 :: a2 :: a1 :: a0 :: st).length ∧ Cl z [a0, a1, a2, a3] M h (x_k Cl E J Φ is ls st (c + mc) (n + ms)))) ∧ (∀ (Cl : xCal) (E : Nat × Nat × Nat × xSc) (J : xJT) (Φ : xO → xM → xH → Prop) (is : List xPI) (ls : xL) (st : List xV) (M : xM) (h : xH) (c n : Nat) (j mc ms : Nat) (z : xMD) (k : List Nat) (a0 a1 a2 a3 a4 : xV), wpL Cl E J Φ ((.invokestatic j, 5 :: mc :: ms :: k, [z]) :: is) ls (a4 :: a3 :: a2 :: a1 :: a0 :: st) M h c n = ((c + mc ≤ E.1 ∧ n + ms ≤ E.2.1) ∧ (st.map x_cat).sum ≤ 8 ∧ 5 ≤ (a4 :: a3 :: a2 :: a1 :: a0 :: st).length ∧ Cl z [a0, a1, a2, a3, a4] M h (x_k Cl E J Φ is ls st (c + mc) (n + ms)))) ∧ (∀ (Cl : xCal) (E : Nat × Nat × Nat × xSc) (J : xJT) (Φ : xO → xM → xH → Prop) (is : List xPI) (ls : xL) (st : List xV) (M : xM) (h : xH) (c n : Nat) (j mc ms : Nat) (z : xMD) (k : List Nat) (a0 a1 a2 a3 a4 a5 : xV), wpL Cl E J Φ ((.invokestatic j, 6 :: mc :: ms :: k, [z]) :: is) ls (a5 :: a4 :: a3 :: a2 :: a1 :: a0 :: st) M h c n = ((c + mc ≤ E.1 ∧ n + ms ≤ E.2.1) ∧ (st.map x_cat).sum ≤ 8 ∧ 6 ≤ (a5 :: a4 :: a3 :: a2 :: a1 :: a0 :: st).length ∧ Cl z [a0, a1, a2, a3, a4, a5] M h (x_k Cl E J Φ is ls st (c + mc) (n + ms)))) ∧ (∀ (Cl : xCal) (E : Nat × Nat × Nat × xSc) (J : xJT) (Φ : xO → xM → xH → Prop) (is : List xPI) (ls : xL) (st : List xV) (M : xM) (h : xH) (c n : Nat) (j mc ms : Nat) (z : xMD) (k : List Nat) (a0 a1 a2 a3 a4 a5 a6 : xV), wpL Cl E J Φ ((.invokestatic j, 7 :: mc :: ms :: k, [z]) :: is) ls (a6 :: a5 :: a4 :: a3 :: a2 :: a1 :: a0 :: st) M h c n = ((c + mc ≤ E.1 ∧ n + ms ≤ E.2.1) ∧ (st.map x_cat).sum ≤ 8 ∧ 7 ≤ (a6 :: a5 :: a4 :: a3 :: a2 :: a1 :: a0 :: st).length ∧ Cl z [a0, a1, a2, a3, a4, a5, a6] M h (x_k Cl E J Φ is ls st (c + mc) (n + ms)))) ∧ (∀ (Cl : xCal) (E : Nat × Nat × Nat × xSc) (J : xJT) (Φ : xO → xM → xH → Prop) (is : List xPI) (ls : xL) (st : List xV) (M : xM) (h : xH) (c n : Nat) (j r : Nat) (k : List Nat), wpL Cl E J Φ ((.invokespecial j, 1003 :: k, []) :: is) ls (xA r :: st) M h c n = (hK h r < 25 ∧ (st.map x_cat).sum ≤ 8 ∧ wpL Cl E J Φ is ls st M h c n)) ∧ (∀ (Cl : xCal) (E : Nat × Nat × Nat × xSc) (J : xJT) (Φ : xO → xM → xH → Prop) (is : List xPI) (ls : xL) (st : List xV) (M : xM) (h : xH) (c n : Nat) (j s d : Nat) (m dp sp : Int) (k : List Nat), wpL Cl E J Φ ((.invokestatic j, 1000 :: k, []) :: is) ls (xI m :: xI dp :: xA d :: xI sp :: xA s :: st) M h c n = ((hK h s = 20 ∧ hK h d = 20) ∧ (0 ≤ m ∧ 0 ≤ sp ∧ 0 ≤ dp ∧ sp + m ≤ hL h s ∧ dp + m ≤ hL h d) ∧ (st.map x_cat).sum ≤ 8 ∧ wpL Cl E J Φ is ls st (x_cp M s sp d dp m) h c n)) ∧ (∀ (Cl : xCal) (E : Nat × Nat × Nat × xSc) (J : xJT) (Φ : xO → xM → xH → Prop) (is : List xPI) (ls : xL) (st : List xV) (M : xM) (h : xH) (c n : Nat) (j : Nat) (a b : Int) (k : List Nat), wpL Cl E J Φ ((.invokestatic j, 1001 :: k, []) :: is) ls (xI b :: xI a :: st) M h c n = ((st.map x_cat).sum ≤ 8 ∧ wpL Cl E J Φ is ls (xI (min a b) :: st) M h c n)) ∧ (∀ (Cl : xCal) (E : Nat × Nat × Nat × xSc) (J : xJT) (Φ : xO → xM → xH → Prop) (is : List xPI) (ls : xL) (st : List xV) (M : xM) (h : xH) (c n : Nat) (j : Nat) (a b : Int) (k : List Nat), wpL Cl E J Φ ((.invokestatic j, 1002 :: k, []) :: is) ls (xI b :: xI a :: st) M h c n = ((st.map x_cat).sum ≤ 8 ∧ wpL Cl E J Φ is ls (xI (max a b) :: st) M h c n)) ∧ (∀ (Cl : xCal) (E : Nat × Nat × Nat × xSc) (J : xJT) (Φ : xO → xM → xH → Prop) (is : List xPI) (ls : xL) (M : xM) (h : xH) (c n : Nat) (k : List Nat) (z : List xMD), wpL Cl E J Φ ((.return_, k, z) :: is) ls [] M h c n = (E.2.2.1 = 0 ∧ Φ (.inl none) M h)) ∧ (∀ (Cl : xCal) (E : Nat × Nat × Nat × xSc) (J : xJT) (Φ : xO → xM → xH → Prop) (is : List xPI) (ls : xL) (M : xM) (h : xH) (c n : Nat) (k : List Nat) (z : List xMD) (v : Int), wpL Cl E J Φ ((.ireturn, k, z) :: is) ls [xI v] M h c n = ((E.2.2.1 = 1 ∨ E.2.2.1 = 2 ∧ (v = 0 ∨ v = 1)) ∧ Φ (.inl (some (xI v))) M h)) ∧ (∀ (Cl : xCal) (E : Nat × Nat × Nat × xSc) (J : xJT) (Φ : xO → xM → xH → Prop) (is : List xPI) (ls : xL) (M : xM) (h : xH) (c n : Nat) (k : List Nat) (z : List xMD) (r : Nat), wpL Cl E J Φ ((.areturn, k, z) :: is) ls [xA r] M h c n = (E.2.2.1 = 4 ∧ Φ (.inl (some (xA r))) M h)) ∧ (∀ (Cl : xCal) (E : Nat × Nat × Nat × xSc) (J : xJT) (Φ : xO → xM → xH → Prop) (is : List xPI) (ls : xL) (st : List xV) (M : xM) (h : xH) (c n : Nat) (k : List Nat) (z : List xMD) (e : Nat), wpL Cl E J Φ ((.athrow, e :: k, z) :: is) ls st M h c n = ((c + 1 ≤ E.1 ∧ n + 6 ≤ E.2.1) ∧ (st.map x_cat).sum ≤ 8 ∧ Φ (.inr e) M h)) ∧ (∀ (Cl : xCal) (E : Nat × Nat × Nat × xSc) (J : xJT) (Φ : xO → xM → xH → Prop) (is : List xPI) (ls : xL) (st : List xV) (M : xM) (h : xH) (c n : Nat), x_k Cl E J Φ is ls st c n (.inl none) M h = wpL Cl E J Φ is ls st M h c n) ∧ (∀ (Cl : xCal) (E : Nat × Nat × Nat × xSc) (J : xJT) (Φ : xO → xM → xH → Prop) (is : List xPI) (ls : xL) (st : List xV) (M : xM) (h : xH) (c n : Nat) (v : xV), x_k Cl E J Φ is ls st c n (.inl (some v)) M h = wpL Cl E J Φ is ls (v :: st) M h c n) ∧ (∀ (Cl : xCal) (E : Nat × Nat × Nat × xSc) (J : xJT) (Φ : xO → xM → xH → Prop) (is : List xPI) (ls : xL) (st : List xV) (M : xM) (h : xH) (c n : Nat) (e : Nat), x_k Cl E J Φ is ls st c n (.inr e) M h = Φ (.inr e) M h) ∧ (∀ (Cl : xCal) (E : Nat × Nat × Nat × xSc) (J : xJT) (Φ : xO → xM → xH → Prop) (is : List xPI) (ls : xL) (st : List xV) (M : xM) (h : xH) (c n : Nat), x_ki Cl E J Φ is ls st c n (.inl none) M h = wpL Cl E J Φ is ls st M h c n) ∧ (∀ (Cl : xCal) (E : Nat × Nat × Nat × xSc) (B : xB) (K : xJT) (Φ : xO → xM → xH → Prop) (f t : Nat) (ls : xL) (st : List xV) (M : xM) (h : xH) (c n : Nat), wpG Cl E B K Φ (f + 1) t ls st M h c n = x_g (x_blk B t) Cl E B K Φ f t ls st M h c n) ∧ (∀ (Cl : xCal) (E : Nat × Nat × Nat × xSc) (B : xB) (K : xJT) (Φ : xO → xM → xH → Prop) (f t : Nat) (ls : xL) (st : List xV) (M : xM) (h : xH) (c n : Nat) (is : List xPI), x_g (some (true, is)) Cl E B K Φ f t ls st M h c n = K t ls st M h c n) ∧ (∀ (Cl : xCal) (E : Nat × Nat × Nat × xSc) (B : xB) (K : xJT) (Φ : xO → xM → xH → Prop) (f t : Nat) (ls : xL) (st : List xV) (M : xM) (h : xH) (c n : Nat) (is : List xPI), x_g (some (false, is)) Cl E B K Φ f t ls st M h c n = wpL Cl E (wpG Cl E B K Φ f) Φ is ls st M h c n) ∧ (∀ (ls : xL) (i : Nat) (v : xV) (j : Nat), x_up ls i v j = if j = i then some v else if j + 1 = i then x_nl (ls j) else ls j) ∧ (∀ (ls : xL) (i : Nat) (v : xV) (j : Nat), x_up2 ls i v j = if j = i then some v else if j = i + 1 then none else if j + 1 = i then x_nl (ls j) else ls j) ∧ (∀ (x : Int), x_nl (some (xI x)) = some (xI x)) ∧ (∀ (x : Nat ⊕ Nat ⊕ Nat), x_nl (some (.inr (.inr x))) = some (.inr (.inr x))) ∧ (∀ (x : Int), x_nl (some (xJ x)) = none) ∧ (x_nl none = none) ∧ (∀ (v : xV) (vs : List xV) (i j : Nat), x_ent (v :: vs) i j = if j = i then some v else x_ent vs (i + x_cat v) j) ∧ (∀ (i j : Nat), x_ent [] i j = none) ∧ (∀ (x : Int), x_cat (xI x) = 1) ∧ (∀ (x : Int), x_cat (xJ x) = 2) ∧ (∀ (x : Nat ⊕ Nat ⊕ Nat), x_cat (.inr (.inr x)) = 1) ∧ (∀ (J : xJT) (ls : xL) (st : List xV) (M : xM) (h : xH) (c n : Nat) (x : Int) (d : Prop) (lo : Int), x_sw J ls st M h c n x d lo [] = d) ∧ (∀ (J : xJT) (ls : xL) (st : List xV) (M : xM) (h : xH) (c n : Nat) (x : Int) (d : Prop) (lo : Int) (t : Nat) (ts : List Nat), x_sw J ls st M h c n x d lo (t :: ts) = ((x = lo → J t ls st M h c n) ∧ x_sw J ls st M h c n x d (lo + 1) ts)) ∧ (∀ (J : xJT) (ls : xL) (st : List xV) (M : xM) (h : xH) (c n : Nat) (x : Int) (d : Prop), x_lk J ls st M h c n x d [] [] = d) ∧ (∀ (J : xJT) (ls : xL) (st : List xV) (M : xM) (h : xH) (c n : Nat) (x : Int) (d : Prop) (k : Int) (ks : List Int) (t : Nat) (ts : List Nat), x_lk J ls st M h c n x d (k :: ks) (t :: ts) = ((x = k → J t ls st M h c n) ∧ (x ≠ k → x_lk J ls st M h c n x d ks ts))) ∧ (∀ (Cl : xCal) (E : Nat × Nat × Nat × xSc) (J : xJT) (Φ : xO → xM → xH → Prop) (is : List xPI) (ls : xL) (st : List xV) (M : xM) (h : xH) (c n : Nat) (k : List Nat) (z : List xMD), wpL Cl E J Φ ((.iload_n 0, k, z) :: is) ls st M h c n = x_li (ls 0) Cl E J Φ is ls st M h c n) ∧ (∀ (Cl : xCal) (E : Nat × Nat × Nat × xSc) (J : xJT) (Φ : xO → xM → xH → Prop) (is : List xPI) (ls : xL) (st : List xV) (M : xM) (h : xH) (c n : Nat) (k : List Nat) (z : List xMD), wpL Cl E J Φ ((.lload_n 0, k, z) :: is) ls st M h c n = x_lj (ls 0) Cl E J Φ is ls st M h c n) ∧ (∀ (Cl : xCal) (E : Nat × Nat × Nat × xSc) (J : xJT) (Φ : xO → xM → xH → Prop) (is : List xPI) (ls : xL) (st : List xV) (M : xM) (h : xH) (c n : Nat) (k : List Nat) (z : List xMD), wpL Cl E J Φ ((.aload_n 0, k, z) :: is) ls st M h c n = x_la (ls 0) Cl E J Φ is ls st M h c n) ∧ (∀ (Cl : xCal) (E : Nat × Nat × Nat × xSc) (J : xJT) (Φ : xO → xM → xH → Prop) (is : List xPI) (ls : xL) (st : List xV) (M : xM) (h : xH) (c n : Nat) (k : List Nat) (z : List xMD) (x : Int), wpL Cl E J Φ ((.istore_n 0, k, z) :: is) ls (xI x :: st) M h c n = wpL Cl E J Φ is (x_up ls 0 (xI x)) st M h c n) ∧ (∀ (Cl : xCal) (E : Nat × Nat × Nat × xSc) (J : xJT) (Φ : xO → xM → xH → Prop) (is : List xPI) (ls : xL) (st : List xV) (M : xM) (h : xH) (c n : Nat) (k : List Nat) (z : List xMD) (x : Int), wpL Cl E J Φ ((.lstore_n 0, k, z) :: is) ls (xJ x :: st) M h c n = wpL Cl E J Φ is (x_up2 ls 0 (xJ x)) st M h c n) ∧ (∀ (Cl : xCal) (E : Nat × Nat × Nat × xSc) (J : xJT) (Φ : xO → xM → xH → Prop) (is : List xPI) (ls : xL) (st : List xV) (M : xM) (h : xH) (c n : Nat) (k : List Nat) (z : List xMD) (x : Nat ⊕ Nat ⊕ Nat), wpL Cl E J Φ ((.astore_n 0, k, z) :: is) ls (.inr (.inr x) :: st) M h c n = wpL Cl E J Φ is (x_up ls 0 (.inr (.inr x))) st M h c n) ∧ (∀ (Cl : xCal) (E : Nat × Nat × Nat × xSc) (J : xJT) (Φ : xO → xM → xH → Prop) (is : List xPI) (ls : xL) (st : List xV) (M : xM) (h : xH) (c n : Nat) (k : List Nat) (z : List xMD), wpL Cl E J Φ ((.iload_n 1, k, z) :: is) ls st M h c n = x_li (ls 1) Cl E J Φ is ls st M h c n) ∧ (∀ (Cl : xCal) (E : Nat × Nat × Nat × xSc) (J : xJT) (Φ : xO → xM → xH → Prop) (is : List xPI) (ls : xL) (st : List xV) (M : xM) (h : xH) (c n : Nat) (k : List Nat) (z : List xMD), wpL Cl E J Φ ((.lload_n 1, k, z) :: is) ls st M h c n = x_lj (ls 1) Cl E J Φ is ls st M h c n) ∧ (∀ (Cl : xCal) (E : Nat × Nat × Nat × xSc) (J : xJT) (Φ : xO → xM → xH → Prop) (is : List xPI) (ls : xL) (st : List xV) (M : xM) (h : xH) (c n : Nat) (k : List Nat) (z : List xMD), wpL Cl E J Φ ((.aload_n 1, k, z) :: is) ls st M h c n = x_la (ls 1) Cl E J Φ is ls st M h c n) ∧ (∀ (Cl : xCal) (E : Nat × Nat × Nat × xSc) (J : xJT) (Φ : xO → xM → xH → Prop) (is : List xPI) (ls : xL) (st : List xV) (M : xM) (h : xH) (c n : Nat) (k : List Nat) (z : List xMD) (x : Int), wpL Cl E J Φ ((.istore_n 1, k, z) :: is) ls (xI x :: st) M h c n = wpL Cl E J Φ is (x_up ls 1 (xI x)) st M h c n) ∧ (∀ (Cl : xCal) (E : Nat × Nat × Nat × xSc) (J : xJT) (Φ : xO → xM → xH → Prop) (is : List xPI) (ls : xL) (st : List xV) (M : xM) (h : xH) (c n : Nat) (k : List Nat) (z : List xMD) (x : Int), wpL Cl E J Φ ((.lstore_n 1, k, z) :: is) ls (xJ x :: st) M h c n = wpL Cl E J Φ is (x_up2 ls 1 (xJ x)) st M h c n) ∧ (∀ (Cl : xCal) (E : Nat × Nat × Nat × xSc) (J : xJT) (Φ : xO → xM → xH → Prop) (is : List xPI) (ls : xL) (st : List xV) (M : xM) (h : xH) (c n : Nat) (k : List Nat) (z : List xMD) (x : Nat ⊕ Nat ⊕ Nat), wpL Cl E J Φ ((.astore_n 1, k, z) :: is) ls (.inr (.inr x) :: st) M h c n = wpL Cl E J Φ is (x_up ls 1 (.inr (.inr x))) st M h c n) ∧ (∀ (Cl : xCal) (E : Nat × Nat × Nat × xSc) (J : xJT) (Φ : xO → xM → xH → Prop) (is : List xPI) (ls : xL) (st : List xV) (M : xM) (h : xH) (c n : Nat) (k : List Nat) (z : List xMD), wpL Cl E J Φ ((.iload_n 2, k, z) :: is) ls st M h c n = x_li (ls 2) Cl E J Φ is ls st M h c n) ∧ (∀ (Cl : xCal) (E : Nat × Nat × Nat × xSc) (J : xJT) (Φ : xO → xM → xH → Prop) (is : List xPI) (ls : xL) (st : List xV) (M : xM) (h : xH) (c n : Nat) (k : List Nat) (z : List xMD), wpL Cl E J Φ ((.lload_n 2, k, z) :: is) ls st M h c n = x_lj (ls 2) Cl E J Φ is ls st M h c n) ∧ (∀ (Cl : xCal) (E : Nat × Nat × Nat × xSc) (J : xJT) (Φ : xO → xM → xH → Prop) (is : List xPI) (ls : xL) (st : List xV) (M : xM) (h : xH) (c n : Nat) (k : List Nat) (z : List xMD), wpL Cl E J Φ ((.aload_n 2, k, z) :: is) ls st M h c n = x_la (ls 2) Cl E J Φ is ls st M h c n) ∧ (∀ (Cl : xCal) (E : Nat × Nat × Nat × xSc) (J : xJT) (Φ : xO → xM → xH → Prop) (is : List xPI) (ls : xL) (st : List xV) (M : xM) (h : xH) (c n : Nat) (k : List Nat) (z : List xMD) (x : Int), wpL Cl E J Φ ((.istore_n 2, k, z) :: is) ls (xI x :: st) M h c n = wpL Cl E J Φ is (x_up ls 2 (xI x)) st M h c n) ∧ (∀ (Cl : xCal) (E : Nat × Nat × Nat × xSc) (J : xJT) (Φ : xO → xM → xH → Prop) (is : List xPI) (ls : xL) (st : List xV) (M : xM) (h : xH) (c n : Nat) (k : List Nat) (z : List xMD) (x : Int), wpL Cl E J Φ ((.lstore_n 2, k, z) :: is) ls (xJ x :: st) M h c n = wpL Cl E J Φ is (x_up2 ls 2 (xJ x)) st M h c n) ∧ (∀ (Cl : xCal) (E : Nat × Nat × Nat × xSc) (J : xJT) (Φ : xO → xM → xH → Prop) (is : List xPI) (ls : xL) (st : List xV) (M : xM) (h : xH) (c n : Nat) (k : List Nat) (z : List xMD) (x : Nat ⊕ Nat ⊕ Nat), wpL Cl E J Φ ((.astore_n 2, k, z) :: is) ls (.inr (.inr x) :: st) M h c n = wpL Cl E J Φ is (x_up ls 2 (.inr (.inr x))) st M h c n) ∧ (∀ (Cl : xCal) (E : Nat × Nat × Nat × xSc) (J : xJT) (Φ : xO → xM → xH → Prop) (is : List xPI) (ls : xL) (st : List xV) (M : xM) (h : xH) (c n : Nat) (k : List Nat) (z : List xMD), wpL Cl E J Φ ((.iload_n 3, k, z) :: is) ls st M h c n = x_li (ls 3) Cl E J Φ is ls st M h c n) ∧ (∀ (Cl : xCal) (E : Nat × Nat × Nat × xSc) (J : xJT) (Φ : xO → xM → xH → Prop) (is : List xPI) (ls : xL) (st : List xV) (M : xM) (h : xH) (c n : Nat) (k : List Nat) (z : List xMD), wpL Cl E J Φ ((.lload_n 3, k, z) :: is) ls st M h c n = x_lj (ls 3) Cl E J Φ is ls st M h c n) ∧ (∀ (Cl : xCal) (E : Nat × Nat × Nat × xSc) (J : xJT) (Φ : xO → xM → xH → Prop) (is : List xPI) (ls : xL) (st : List xV) (M : xM) (h : xH) (c n : Nat) (k : List Nat) (z : List xMD), wpL Cl E J Φ ((.aload_n 3, k, z) :: is) ls st M h c n = x_la (ls 3) Cl E J Φ is ls st M h c n) ∧ (∀ (Cl : xCal) (E : Nat × Nat × Nat × xSc) (J : xJT) (Φ : xO → xM → xH → Prop) (is : List xPI) (ls : xL) (st : List xV) (M : xM) (h : xH) (c n : Nat) (k : List Nat) (z : List xMD) (x : Int), wpL Cl E J Φ ((.istore_n 3, k, z) :: is) ls (xI x :: st) M h c n = wpL Cl E J Φ is (x_up ls 3 (xI x)) st M h c n) ∧ (∀ (Cl : xCal) (E : Nat × Nat × Nat × xSc) (J : xJT) (Φ : xO → xM → xH → Prop) (is : List xPI) (ls : xL) (st : List xV) (M : xM) (h : xH) (c n : Nat) (k : List Nat) (z : List xMD) (x : Int), wpL Cl E J Φ ((.lstore_n 3, k, z) :: is) ls (xJ x :: st) M h c n = wpL Cl E J Φ is (x_up2 ls 3 (xJ x)) st M h c n) ∧ (∀ (Cl : xCal) (E : Nat × Nat × Nat × xSc) (J : xJT) (Φ : xO → xM → xH → Prop) (is : List xPI) (ls : xL) (st : List xV) (M : xM) (h : xH) (c n : Nat) (k : List Nat) (z : List xMD) (x : Nat ⊕ Nat ⊕ Nat), wpL Cl E J Φ ((.astore_n 3, k, z) :: is) ls (.inr (.inr x) :: st) M h c n = wpL Cl E J Φ is (x_up ls 3 (.inr (.inr x))) st M h c n) ∧ (∀ (Cl : xCal) (E : Nat × Nat × Nat × xSc) (J : xJT) (Φ : xO → xM → xH → Prop) (is : List xPI) (ls : xL) (st : List xV) (M : xM) (h : xH) (c n : Nat) (a : Int) (k : List Nat) (z : List xMD), wpL Cl E J Φ ((.ineg, k, z) :: is) ls (xI a :: st) M h c n = (wpL Cl E J Φ is ls (xI (w32 (-a)) :: st) M h c n)) ∧ (∀ (Cl : xCal) (E : Nat × Nat × Nat × xSc) (J : xJT) (Φ : xO → xM → xH → Prop) (is : List xPI) (ls : xL) (st : List xV) (M : xM) (h : xH) (c n : Nat) (a : Int) (k : List Nat) (z : List xMD), wpL Cl E J Φ ((.i2c, k, z) :: is) ls (xI a :: st) M h c n = (wpL Cl E J Φ is ls (xI (a % 65536) :: st) M h c n)) ∧ (∀ (Cl : xCal) (E : Nat × Nat × Nat × xSc) (J : xJT) (Φ : xO → xM → xH → Prop) (is : List xPI) (ls : xL) (st : List xV) (M : xM) (h : xH) (c n : Nat) (a b : Int) (k : List Nat) (z : List xMD), wpL Cl E J Φ ((.iushr, k, z) :: is) ls (xI b :: xI a :: st) M h c n = (wpL Cl E J Φ is ls (xI (x_ushr a b) :: st) M h c n)) ∧ (∀ (Cl : xCal) (E : Nat × Nat × Nat × xSc) (J : xJT) (Φ : xO → xM → xH → Prop) (is : List xPI) (ls : xL) (st : List xV) (M : xM) (h : xH) (c n : Nat) (a b : Int) (k : List Nat) (z : List xMD), wpL Cl E J Φ ((.lor, k, z) :: is) ls (xJ b :: xJ a :: st) M h c n = (wpL Cl E J Φ is ls (xJ (x_orL a b) :: st) M h c n)) ∧ (∀ (Cl : xCal) (E : Nat × Nat × Nat × xSc) (J : xJT) (Φ : xO → xM → xH → Prop) (is : List xPI) (ls : xL) (st : List xV) (M : xM) (h : xH) (c n : Nat) (a b : Int) (k : List Nat) (z : List xMD), wpL Cl E J Φ ((.lshl, k, z) :: is) ls (xI b :: xJ a :: st) M h c n = (wpL Cl E J Φ is ls (xJ (x_shlL a b) :: st) M h c n)) ∧ (∀ (Cl : xCal) (E : Nat × Nat × Nat × xSc) (J : xJT) (Φ : xO → xM → xH → Prop) (is : List xPI) (ls : xL) (st : List xV) (M : xM) (h : xH) (c n : Nat) (v w : xV) (k : List Nat) (z : List xMD), wpL Cl E J Φ ((.dup_x1, k, z) :: is) ls (v :: w :: st) M h c n = (x_cat v = 1 ∧ x_cat w = 1 ∧ wpL Cl E J Φ is ls (v :: w :: v :: st) M h c n)) ∧ (∀ (Cl : xCal) (E : Nat × Nat × Nat × xSc) (J : xJT) (Φ : xO → xM → xH → Prop) (is : List xPI) (ls : xL) (st : List xV) (M : xM) (h : xH) (c n : Nat) (j : Nat) (k : List Nat) (z : List xMD), wpL Cl E J Φ ((.getstatic j, 1 :: k, z) :: is) ls st M h c n = (wpL Cl E J Φ is ls (xI 1 :: st) M h c n)) ∧ (∀ (Cl : xCal) (E : Nat × Nat × Nat × xSc) (J : xJT) (Φ : xO → xM → xH → Prop) (is : List xPI) (ls : xL) (st : List xV) (M : xM) (h : xH) (c n : Nat) (j q i a : Nat) (k : List Nat) (z : List xMD), wpL Cl E J Φ ((.getfield j, q :: i :: 3 :: k, z) :: is) ls (xA a :: st) M h c n = (hK h a = q ∧ wpL Cl E J Φ is ls (xI (M a i) :: st) M h c n)) ∧ (∀ (Cl : xCal) (E : Nat × Nat × Nat × xSc) (J : xJT) (Φ : xO → xM → xH → Prop) (is : List xPI) (ls : xL) (st : List xV) (M : xM) (h : xH) (c n : Nat) (j q i a : Nat) (v : Int) (k : List Nat) (z : List xMD), wpL Cl E J Φ ((.putfield j, q :: i :: 3 :: k, z) :: is) ls (xI v :: xA a :: st) M h c n = ((hK h a = q ∧ w8 v = v) ∧ wpL Cl E J Φ is ls st (x_w M a i v) h c n)) ∧ (∀ (Cl : xCal) (E : Nat × Nat × Nat × xSc) (J : xJT) (Φ : xO → xM → xH → Prop) (is : List xPI) (ls : xL) (st : List xV) (M : xM) (h : xH) (c n : Nat) (j s d : Nat) (m dp sp : Int) (k : List Nat), wpL Cl E J Φ ((.invokestatic j, 1005 :: k, []) :: is) ls (xI m :: xI dp :: xA d :: xI sp :: xA s :: st) M h c n = ((hK h s = 21 ∧ hK h d = 21) ∧ (0 ≤ m ∧ 0 ≤ sp ∧ 0 ≤ dp ∧ sp + m ≤ hL h s ∧ dp + m ≤ hL h d) ∧ (∀ j : Int, sp ≤ j → j < sp + m → -128 ≤ M s j ∧ M s j < 128) ∧ (st.map x_cat).sum ≤ 8 ∧ wpL Cl E J Φ is ls st (x_cp M s sp d dp m) h c n)) ∧ (∀ (Cl : xCal) (E : Nat × Nat × Nat × xSc) (J : xJT) (Φ : xO → xM → xH → Prop) (is : List xPI) (ls : xL) (st : List xV) (M : xM) (h : xH) (c n : Nat) (j mc ms q : Nat) (z zx : xMD) (k : List Nat) (r : Nat), wpL Cl E J Φ ((.invokevirtual j, 0 :: mc :: ms :: q :: k, [z, zx]) :: is) ls (xA r :: st) M h c n = (x_rc h q (xA r :: st) ∧ (c + mc ≤ E.1 ∧ n + ms ≤ E.2.1) ∧ (st.map x_cat).sum ≤ 8 ∧ 0 + 1 ≤ (xA r :: st).length ∧ Cl z [xA r] M h (x_ki Cl E J Φ is ls st (c + mc) (n + ms)))) ∧ (∀ (Cl : xCal) (E : Nat × Nat × Nat × xSc) (J : xJT) (Φ : xO → xM → xH → Prop) (is : List xPI) (ls : xL) (st : List xV) (M : xM) (h : xH) (c n : Nat) (j mc ms q : Nat) (z zx : xMD) (k : List Nat) (r : Nat), wpL Cl E J Φ ((.invokespecial j, 0 :: mc :: ms :: q :: k, [z, zx]) :: is) ls (xA r :: st) M h c n = (x_rc h q (xA r :: st) ∧ (c + mc ≤ E.1 ∧ n + ms ≤ E.2.1) ∧ (st.map x_cat).sum ≤ 8 ∧ 0 + 1 ≤ (xA r :: st).length ∧ Cl z [xA r] M h (x_ki Cl E J Φ is ls st (c + mc) (n + ms)))) ∧ (∀ (Cl : xCal) (E : Nat × Nat × Nat × xSc) (J : xJT) (Φ : xO → xM → xH → Prop) (is : List xPI) (ls : xL) (st : List xV) (M : xM) (h : xH) (c n : Nat) (j mc ms q : Nat) (z zx : xMD) (k : List Nat) (r : Nat) (a0 : xV), wpL Cl E J Φ ((.invokevirtual j, 1 :: mc :: ms :: q :: k, [z, zx]) :: is) ls (a0 :: xA r :: st) M h c n = (x_rc h q (xA r :: st) ∧ (c + mc ≤ E.1 ∧ n + ms ≤ E.2.1) ∧ (st.map x_cat).sum ≤ 8 ∧ 1 + 1 ≤ (a0 :: xA r :: st).length ∧ Cl z [xA r, a0] M h (x_ki Cl E J Φ is ls st (c + mc) (n + ms)))) ∧ (∀ (Cl : xCal) (E : Nat × Nat × Nat × xSc) (J : xJT) (Φ : xO → xM → xH → Prop) (is : List xPI) (ls : xL) (st : List xV) (M : xM) (h : xH) (c n : Nat) (j mc ms q : Nat) (z zx : xMD) (k : List Nat) (r : Nat) (a0 : xV), wpL Cl E J Φ ((.invokespecial j, 1 :: mc :: ms :: q :: k, [z, zx]) :: is) ls (a0 :: xA r :: st) M h c n = (x_rc h q (xA r :: st) ∧ (c + mc ≤ E.1 ∧ n + ms ≤ E.2.1) ∧ (st.map x_cat).sum ≤ 8 ∧ 1 + 1 ≤ (a0 :: xA r :: st).length ∧ Cl z [xA r, a0] M h (x_ki Cl E J Φ is ls st (c + mc) (n + ms)))) ∧ (∀ (Cl : xCal) (E : Nat × Nat × Nat × xSc) (J : xJT) (Φ : xO → xM → xH → Prop) (is : List xPI) (ls : xL) (st : List xV) (M : xM) (h : xH) (c n : Nat) (j mc ms q : Nat) (z zx : xMD) (k : List Nat) (r : Nat) (a0 a1 : xV), wpL Cl E J Φ ((.invokevirtual j, 2 :: mc :: ms :: q :: k, [z, zx]) :: is) ls (a1 :: a0 :: xA r :: st) M h c n = (x_rc h q (xA r :: st) ∧ (c + mc ≤ E.1 ∧ n + ms ≤ E.2.1) ∧ (st.map x_cat).sum ≤ 8 ∧ 2 + 1 ≤ (a1 :: a0 :: xA r :: st).length ∧ Cl z [xA r, a0, a1] M h (x_ki Cl E J Φ is ls st (c + mc) (n + ms)))) ∧ (∀ (Cl : xCal) (E : Nat × Nat × Nat × xSc) (J : xJT) (Φ : xO → xM → xH → Prop) (is : List xPI) (ls : xL) (st : List xV) (M : xM) (h : xH) (c n : Nat) (j mc ms q : Nat) (z zx : xMD) (k : List Nat) (r : Nat) (a0 a1 : xV), wpL Cl E J Φ ((.invokespecial j, 2 :: mc :: ms :: q :: k, [z, zx]) :: is) ls (a1 :: a0 :: xA r :: st) M h c n = (x_rc h q (xA r :: st) ∧ (c + mc ≤ E.1 ∧ n + ms ≤ E.2.1) ∧ (st.map x_cat).sum ≤ 8 ∧ 2 + 1 ≤ (a1 :: a0 :: xA r :: st).length ∧ Cl z [xA r, a0, a1] M h (x_ki Cl E J Φ is ls st (c + mc) (n + ms)))) ∧ (∀ (Cl : xCal) (E : Nat × Nat × Nat × xSc) (J : xJT) (Φ : xO → xM → xH → Prop) (is : List xPI) (ls : xL) (st : List xV) (M : xM) (h : xH) (c n : Nat) (r : Nat) (o : Int) (t : Nat) (z : List xMD), wpL Cl E J Φ ((.ifnonnull o, [t], z) :: is) ls (xS r :: st) M h c n = (J t ls st M h c n)) ∧ (∀ (Cl : xCal) (E : Nat × Nat × Nat × xSc) (J : xJT) (Φ : xO → xM → xH → Prop) (is : List xPI) (ls : xL) (M : xM) (h : xH) (c n : Nat) (k : List Nat) (z : List xMD) (v : Int), wpL Cl E J Φ ((.lreturn, k, z) :: is) ls [xJ v] M h c n = (E.2.2.1 = 3 ∧ Φ (.inl (some (xJ v))) M h)) ∧ (∀ (Cl : xCal) (E : Nat × Nat × Nat × xSc) (J : xJT) (Φ : xO → xM → xH → Prop) (is : List xPI) (ls : xL) (st : List xV) (M : xM) (h : xH) (c n : Nat) (v : xV), x_ki Cl E J Φ is ls st c n (.inl (some v)) M h = wpL Cl E J Φ is ls (v :: st) M h c n) := ⟨wq_nop, wq_iconst, wq_bipush, wq_sipush, wq_lconst, wq_null, wq_ldc1, wq_ldc2, wq_ldcl, wq_iload, wq_lload, wq_aload, wq_iinc, wq_li, wq_lj, wq_la, wq_ii, wq_istore, wq_astore, wq_lstore, wq_iadd, wq_isub, wq_imul, wq_iand, wq_ior, wq_ixor, wq_ishl, wq_ishr, wq_idiv, wq_irem, wq_i2l, wq_l2i, wq_i2b, wq_ladd, wq_lsub, wq_lmul, wq_land, wq_lshr, wq_lcmp, wq_dup, wq_dup2, wq_pop, wq_if_eq, wq_ic_eq, wq_if_ne, wq_ic_ne, wq_if_lt, wq_ic_lt, wq_if_ge, wq_ic_ge, wq_if_gt, wq_ic_gt, wq_if_le, wq_ic_le, wq_ifnull, wq_ifnonnull, wq_goto, wq_ts, wq_lk, wq_gf0, wq_gf1, wq_gf2, wq_pf0, wq_pf1, wq_pf2, wq_iaload, wq_baload, wq_aaload, wq_iastore, wq_bastore, wq_aastore, wq_alen, wq_sld, wq_slen, wq_new, wq_newa, wq_anew, wq_invokevirtual0, wq_invokespecial0, wq_invokevirtual1, wq_invokespecial1, wq_invokevirtual2, wq_invokespecial2, wq_invokevirtual3, wq_invokespecial3, wq_invokevirtual4, wq_invokespecial4, wq_invokevirtual5, wq_invokespecial5, wq_invokestr0, wq_invokestr1, wq_invokestatic1, wq_invokestatic2, wq_invokestatic3, wq_invokestatic4, wq_invokestatic5, wq_invokestatic6, wq_invokestatic7, wq_obj, wq_acp, wq_min, wq_max, wq_ret, wq_iret, wq_aret, wq_throw, wq_k0, wq_k1, wq_k2, wq_ki, wq_g, wq_g1, wq_g2, wq_up, wq_up2, wq_nl0, wq_nl1, wq_nl2, wq_nl3, wq_ent, wq_ent0, wq_cat0, wq_cat1, wq_cat2, wq_sw0, wq_sw1, wq_lk0, wq_lk1, w_iload0, w_lload0, w_aload0, w_istore0, w_lstore0, w_astore0, w_iload1, w_lload1, w_aload1, w_istore1, w_lstore1, w_astore1, w_iload2, w_lload2, w_aload2, w_istore2, w_lstore2, w_astore2, w_iload3, w_lload3, w_aload3, w_istore3, w_lstore3, w_astore3, wq_ineg, wq_i2c, wq_iushr, wq_lor, wq_lshl, wq_dupx1, wq_gst, wq_gf3, wq_pf3, wq_acpb, wq_invokevirtualX0, wq_invokespecialX0, wq_invokevirtualX1, wq_invokespecialX1, wq_invokevirtualX2, wq_invokespecialX2, wq_ifnonnullS, wq_lret, wq_ki1⟩
end
section
/-! what the small machine's words mean of the machine's state -/
def x_i32 (x : Int) : Prop := -2147483648 ≤ x ∧ x < 2147483648
def x_i64 (x : Int) : Prop := -9223372036854775808 ≤ x ∧ x < 9223372036854775808
theorem w32_in (x : Int) : x_i32 (w32 x) := by
  have h1 := Int.le_bmod (x := x) (m := 4294967296) (by decide)
  have h2 := Int.bmod_lt (x := x) (m := 4294967296) (by decide)
  unfold x_i32 w32
  constructor <;> omega
theorem w64_in (x : Int) : x_i64 (w64 x) := by
  have h1 := Int.le_bmod (x := x) (m := 18446744073709551616) (by decide)
  have h2 := Int.bmod_lt (x := x) (m := 18446744073709551616) (by decide)
  unfold x_i64 w64
  constructor <;> omega
theorem w8_in (x : Int) : x_i32 (w8 x) := by
  have h1 := Int.le_bmod (x := x) (m := 256) (by decide)
  have h2 := Int.bmod_lt (x := x) (m := 256) (by decide)
  unfold x_i32 w8
  constructor <;> omega
theorem w32_id {x : Int} (h : x_i32 x) : w32 x = x := by obtain ⟨a, b⟩ := h; unfold w32; exact Int.bmod_eq_of_le (by omega) (by omega)
theorem w64_id {x : Int} (h : x_i64 x) : w64 x = x := by obtain ⟨a, b⟩ := h; unfold w64; exact Int.bmod_eq_of_le (by omega) (by omega)
theorem i32_to {x : Int} (h : x_i32 x) : (Int32.ofInt x).toInt = x := Int32.toInt_ofInt_of_le (by obtain ⟨a, b⟩ := h; omega) (by obtain ⟨a, b⟩ := h; omega)
theorem i64_to {x : Int} (h : x_i64 x) : (Int64.ofInt x).toInt = x := Int64.toInt_ofInt_of_le (by obtain ⟨a, b⟩ := h; omega) (by obtain ⟨a, b⟩ := h; omega)
theorem i32_of (x : Int32) : x_i32 x.toInt := ⟨by have := x.le_toInt; omega, by have := x.toInt_lt; omega⟩
theorem i64_of (x : Int64) : x_i64 x.toInt := ⟨by have := x.le_toInt; omega, by have := x.toInt_lt; omega⟩
theorem i32_w (x : Int) : Int32.ofInt (w32 x) = Int32.ofInt x := Int32.toInt_inj.mp (by rw [i32_to (w32_in x), Int32.toInt_ofInt]; rfl)
theorem i64_w (x : Int) : Int64.ofInt (w64 x) = Int64.ofInt x := Int64.toInt_inj.mp (by rw [i64_to (w64_in x), Int64.toInt_ofInt]; rfl)
theorem i32_eq {x y : Int} (hx : x_i32 x) (hy : x_i32 y) : Int32.ofInt x = Int32.ofInt y ↔ x = y := ⟨fun h => by rw [← i32_to hx, ← i32_to hy, h], fun h => by rw [h]⟩
theorem i32_lt {x y : Int} (hx : x_i32 x) (hy : x_i32 y) : Int32.ofInt x < Int32.ofInt y ↔ x < y := by rw [Int32.lt_iff_toInt_lt, i32_to hx, i32_to hy]
theorem i32_le {x y : Int} (hx : x_i32 x) (hy : x_i32 y) : Int32.ofInt x ≤ Int32.ofInt y ↔ x ≤ y := by rw [Int32.le_iff_toInt_le, i32_to hx, i32_to hy]
theorem i32_0 : x_i32 0 := ⟨by decide, by decide⟩
theorem i32_cl {x : Int} (h : x_i32 x) : (Int32.ofInt x).toNatClampNeg = x.toNat := by rw [← Int32.toNat_toInt, i32_to h]
theorem i32_vin {x L : Int} (h : x_i32 x) (h0 : 0 ≤ x) (h1 : x < L) : vp_in (Int32.ofInt x) L.toNat := by
  rw [vp_in_iff, i32_to h]
  omega
abbrev xX : Type := va_G × (Nat → ClassId) × (Nat → Nat) × (Nat → Nat) × Nat × (Nat × Nat × (Nat → Int32))
def XD (X : xX) : va_G := X.1
def XA (X : xX) : Nat → ClassId := X.2.1
def XK (X : xX) : Nat → Nat := X.2.2.1
def XV (X : xX) : Nat → Nat := X.2.2.2.1
def XB (X : xX) : Nat := X.2.2.2.2.1
def XS (X : xX) : Nat × Nat × (Nat → Int32) := X.2.2.2.2.2
def x_rf (ρ : Nat → Nat) (r : Nat) : Option Nat := if r = 0 then none else some (ρ r)
def x_c (X : xX) (ρ : Nat → Nat) : xV → Value
  | .inl x => .int (Int32.ofInt x)
  | .inr (.inl x) => .long (Int64.ofInt x)
  | .inr (.inr (.inl r)) => va_rf (x_rf ρ r)
  | .inr (.inr (.inr (.inl a))) => .ref a
  | .inr (.inr (.inr (.inr i))) => .ref (XK X i)
def x_vk (h : xH) : xV → Prop
  | .inl x => x_i32 x
  | .inr (.inl x) => x_i64 x
  | .inr (.inr (.inl r)) => r < hn h
  | .inr (.inr (.inr (.inl _))) => True
  | .inr (.inr (.inr (.inr i))) => i < 22
def x_fv (ρ : Nat → Nat) (t : FieldType) (m : Int) (r : Nat) : Value := match t with
  | .int => .int (Int32.ofInt m)
  | .long => .long (Int64.ofInt m)
  | .byte => .int (Int32.ofInt m)
  | .boolean => .int (Int32.ofInt m)
  | _ => va_rf (x_rf ρ r)
def x_cell (X : xX) (ρ : Nat → Nat) (M : xM) (h : xH) (id : Nat) : va_E :=
  if hK h id < 10 then .inr (hK h id, (List.range (x_N (hK h id))).map fun i => x_fv ρ (x_ty (hK h id) i) (M id i) (hP h id i))
  else if hK h id < 22 then .inl (XA X (hK h id - 20), (hL h id).toNat, .inl fun j => Int32.ofInt (M id j))
  else if hK h id < 23 then .inl (XA X 0, (hL h id).toNat, .inl fun j => Int32.ofInt (M id j))
  else .inl (XA X (hK h id - 20), (hL h id).toNat, .inr (.inr (.inr (.inr fun j => x_rf ρ (hP h id j)))))
def x_ws (X : xX) (ρ : Nat → Nat) (M : xM) (h : xH) : va_W := (List.range (hn h - 1)).map fun i => (ρ (i + 1), x_cell X ρ M h (i + 1))
/-- is the place a long's -/
def x_isl (k : Nat) (i : Int) : Bool := (k == 8 && x_ty 8 i.toNat == .long)
def x_rng (k : Nat) (i v : Int) : Prop := if x_isl k i = true then x_i64 v else x_i32 v
def x_ok (M : xM) (h : xH) : Prop := 1 ≤ hn h ∧ (∀ id, hK h id < 25 → 1 ≤ id ∧ id < hn h) ∧ (∀ id, 1 ≤ id → id < hn h → hK h id < 10 ∨ (20 ≤ hK h id ∧ hK h id < 25)) ∧
  (∀ id, 0 ≤ hL h id ∧ hL h id < 2147483648) ∧ (∀ id i, hK h id < 25 → x_rng (hK h id) i (M id i)) ∧ ∀ id i, hP h id i < hn h
def x_tys (X : xX) : List (ClassId × FieldType) := [(XA X 0, .int), (XA X 1, .byte), (XA X 0, .int), (XA X 3, .object RX1), (XA X 4, .object RX4)]
/-- the String constants: class, entry, text -/
def x_str : List (String × Nat × String) := [(RX5, 73, "bars"), (RX5, 82, "mark"), (RX5, 87, "text"), (RX5, 95, "double"), (RX5, 100, "cut"), (RX5, 105, "part"), (RX5, 154, "rest"), (RX5, 156, "play"), (RX5, 158, "cue"), ("ScorePartsLaw", 39, "bars "), ("ScorePartsLaw", 48, ";bars "), ("ScorePartsLaw", 54, " "), ("ScorePartsLaw", 56, ";"), ("ScorePartsLaw", 65, "mark "), ("ScorePartsLaw", 70, "text "), ("ScorePartsLaw", 72, ";double "), ("ScorePartsLaw", 74, "cut "), ("ScorePartsLaw", 82, "part "), ("ScorePartsLaw", 84, " play "), ("ScorePartsLaw", 86, " cue "), ("ScorePartsLaw", 88, " rest "), ("java/util/Arrays", 337, " > ")]
def x_byt : List (List Int32) := x_str.map fun q => q.2.2.toList.map fun ch => Int32.ofNat ch.toNat
def x_len : List Nat := x_byt.map List.length
/-- the world outside the class's objects, as far as it is used: the two statics of Throwable's, the String constants, the script -/
def x_odd (w : Jvm.Cond) : Bool := match w with
  | .declares _ => true
  | .castable .. => true
  | .methodLinkNest .. => true
  | .arrayOver (.object _) => true
  | _ => false
/-- the exceptions that are not one another -/
def x_ncl : List (String × String) := [("java/lang/IllegalStateException", "java/lang/IllegalArgumentException"), ("java/lang/IllegalStateException", "java/util/NoSuchElementException"), ("java/lang/IllegalStateException", "java/lang/IndexOutOfBoundsException"), ("java/lang/IllegalArgumentException", "java/lang/IllegalStateException"), ("java/lang/IllegalArgumentException", "java/util/NoSuchElementException"), ("java/lang/IllegalArgumentException", "java/lang/IndexOutOfBoundsException"), ("java/util/NoSuchElementException", "java/lang/IllegalStateException"), ("java/util/NoSuchElementException", "java/lang/IllegalArgumentException"), ("java/util/NoSuchElementException", "java/lang/IndexOutOfBoundsException"), ("java/lang/IndexOutOfBoundsException", "java/lang/IllegalStateException"), ("java/lang/IndexOutOfBoundsException", "java/lang/IllegalArgumentException"), ("java/lang/IndexOutOfBoundsException", "java/util/NoSuchElementException")]
def x_d1 (j : Nat) : Int32 := Int32.ofInt (48 + (j : Int) % 10)
def x_d2 (j : Nat) : Int32 := Int32.ofInt (48 + (j : Int) / 10)
/-- Integer's two tables of digits, at the addresses XK X 90 and XK X 91 -/
def x_Dg (X : xX) (U : State) (H : Heap) : Prop :=
  (va_Z "java/lang/Integer" "DigitOnes" "[B" (.ref (XK X 90)) (fun q => XB X ≤ q) U H ∧ va_T .byte (XK X 90) 100 (fun j => .int (x_d1 j)) (fun q => XB X ≤ q) U H) ∧
  (va_Z "java/lang/Integer" "DigitTens" "[B" (.ref (XK X 91)) (fun q => XB X ≤ q) U H ∧ va_T .byte (XK X 91) 100 (fun j => .int (x_d2 j)) (fun q => XB X ≤ q) U H)
theorem x_Dg.warm {X : xX} {u U : State} {H : Heap} (hW : u.WarmedH U.vm) (h : x_Dg X u H) : x_Dg X U H := ⟨⟨va_Z.moved hW.alike h.1.1, va_T.moved hW.alike h.1.2⟩, va_Z.moved hW.alike h.2.1, va_T.moved hW.alike h.2.2⟩
theorem x_Dg.kept {X : xX} {U : State} {H H1 : Heap} (h : x_Dg X U H) (hq : ∀ a : Nat, a < H.size → ¬ (XB X ≤ a) → H1[a]? = H[a]?) : x_Dg X U H1 := ⟨⟨va_Z.kept h.1.1 hq, va_T.kept h.1.2 hq⟩, va_Z.kept h.2.1 hq, va_T.kept h.2.2 hq⟩
def x_O (X : xX) (U : State) (H : Heap) : Prop :=
  vx_Zq Bundle.tN "UNASSIGNED_STACK" Bundle.steD (fun q => XB X ≤ q) U H ∧ vx_Zq Bundle.tN "SUPPRESSED_SENTINEL" Bundle.listD (fun q => XB X ≤ q) U H ∧
  ((∀ w ∈ x_tbl, x_odd w = true → w.before #[] U = true) ∧ ∀ q ∈ x_ncl, va_Nc q.1 q.2 U) ∧
  ((∀ i : Nat, i < 22 → vk_S 1 [x_len.getD i 0] [x_byt.getD i []] (fun _ => XK X i) (fun _ => XV X i) (fun q => XB X ≤ q) U H) ∧ ∀ (i : Nat) (q : String × Nat × String), x_str[i]? = some q → vk_R q.1 q.2.1 q.2.2 (XK X i) U) ∧
  (va_X (XS X).1 (XS X).2.1 (XS X).2.2 U H ∧ (XS X).1 < XB X) ∧
  va_Z "java/lang/String" "COMPACT_STRINGS" "Z" (.int 1) (fun q => XB X ≤ q) U H ∧ va_Zq "jdk/internal/util/Preconditions" "SIOOBE_FORMATTER" "Ljava/util/function/BiFunction;" (fun q => XB X ≤ q) U H ∧ x_Dg X U H
theorem x_odd_warm {w : Jvm.Cond} (ho : x_odd w = true) {s U : State} (hW : s.WarmedH U.vm) (h : w.before #[] s = true) : w.before #[] U = true := by
  cases w <;> first | (exact va_Nw.warmD hW h) | (exact va_Nw.warmC hW h) | (exact va_Nw.warmM hW h) | (simp [x_odd] at ho; done) | skip
  case arrayOver t =>
    cases t with
    | object C => exact va_AO.moved hW.alike h
    | _ => simp [x_odd] at ho
theorem x_O.warm {X : xX} {u U : State} {H : Heap} (hW : u.WarmedH U.vm) (h : x_O X u H) : x_O X U H :=
  ⟨vx_Zq.moved hW.alike h.1, vx_Zq.moved hW.alike h.2.1, ⟨fun w hw ho => x_odd_warm ho hW (h.2.2.1.1 w hw ho), fun q hq => (h.2.2.1.2 q hq).moved hW.alike⟩, ⟨fun i hi => vk_S.moved hW.alike (h.2.2.2.1.1 i hi), fun i q hq => (h.2.2.2.1.2 i q hq).warm hW⟩, ⟨h.2.2.2.2.1.1.moved hW.alike, h.2.2.2.2.1.2⟩, va_Z.moved hW.alike h.2.2.2.2.2.1, va_Zq.moved hW.alike h.2.2.2.2.2.2.1, h.2.2.2.2.2.2.2.warm hW⟩
theorem x_O.kept {X : xX} {U : State} {H H1 : Heap} (h : x_O X U H) (hq : ∀ a : Nat, a < H.size → ¬ (XB X ≤ a) → H1[a]? = H[a]?) : x_O X U H1 :=
  ⟨h.1.kept hq, h.2.1.kept hq, h.2.2.1, ⟨fun i hi => (h.2.2.2.1.1 i hi).kept hq, h.2.2.2.1.2⟩, ⟨h.2.2.2.2.1.1.kept (by obtain ⟨scr, h1, -⟩ := h.2.2.2.2.1.1; exact hq _ (Array.getElem?_eq_some_iff.mp h1).1 (by have := h.2.2.2.2.1.2; omega)), h.2.2.2.2.1.2⟩, va_Z.kept h.2.2.2.2.2.1 hq, va_Zq.kept h.2.2.2.2.2.2.1 hq, h.2.2.2.2.2.2.2.kept hq⟩
theorem x_O.str {X : xX} {U : State} {H : Heap} (h : x_O X U H) {i : Nat} (hi : i < 22) : va_O "java/lang/String" (XK X i) (fun q => XB X ≤ q) U H ∧ va_OF "java/lang/String" "coder" "B" (.int 0) (XK X i) (fun q => XB X ≤ q) U H ∧ va_OF "java/lang/String" "value" "[B" (.ref (XV X i)) (XK X i) (fun q => XB X ≤ q) U H ∧ va_T .byte (XV X i) (x_len.getD i 0) (fun j => .int ((x_byt.getD i []).getD j 0)) (fun q => XB X ≤ q) U H := (h.2.2.2.1.1 i hi).1 0 Nat.zero_lt_one
def x_A (X : xX) : Nat → Prop := fun q => XB X ≤ q
def x_P (X : xX) (ρ : Nat → Nat) (M : xM) (h : xH) (H : Heap) : Prop := va_P (XD X) vwCl (x_ws X ρ M h) H ∧ va_D (x_A X) (x_ws X ρ M h) ∧ x_ok M h
def x_ext (ρ0 ρ : Nat → Nat) (n0 : Nat) : Prop := ∀ id, id < n0 → ρ id = ρ0 id
def x_tb : List Jvm.Cond := x_tbl.filter goodWord
def x_en : Nat → String
  | 0 => "java/lang/IllegalStateException"
  | 1 => "java/lang/IllegalArgumentException"
  | 2 => "java/util/NoSuchElementException"
  | _ => "java/lang/IndexOutOfBoundsException"
/-- the law's helpers (they catch): their frames' number has 1000 on top; their handlers -/
def x_hht : List (String × List (Nat × Nat × Nat × Nat)) := [("load", [(10, 15, 16, 34)]), ("inserted", [(0, 7, 8, 34)]), ("erased", [(0, 5, 6, 34)]), ("made", [(0, 6, 7, 106), (0, 6, 11, 34)]), ("opened", [(0, 5, 6, 111)]), ("put", [(0, 6, 7, 34)]), ("removed", [(0, 5, 6, 111)]), ("undone", [(0, 4, 5, 34)]), ("mark", [(0, 6, 7, 111)]), ("from", [(0, 6, 7, 111)])]
def x_hh (z : xMD) : List (Nat × Nat × Nat × Nat) := (x_hht.lookup (zN z).name).getD []
def x_cw (z : xMD) : Jvm.Cond := if zF z < 1000 then .code (zN z) (zB z) (zL z) (zR z) else .codeWith (zN z) (zB z) (zL z) (zR z) (x_hh z)
theorem x_cw_n {z : xMD} (h : zF z < 1000) : x_cw z = .code (zN z) (zB z) (zL z) (zR z) := if_pos h
theorem x_cw_h {z : xMD} (h : ¬ zF z < 1000) : x_cw z = .codeWith (zN z) (zB z) (zL z) (zR z) (x_hh z) := if_neg h
def x_rm (z : xMD) : Room := { frames := zF z % 1000, cells := zC z, slots := zS z, locals := zO z }
def x_w1 (z : xMD) : List Jvm.Cond := x_cw z :: x_tb
def x_Pc (X : xX) (ρ : Nat → Nat) (args : List xV) (M : xM) (h : xH) : Array Value → State → Prop := fun v U => v = (args.map (x_c X ρ)).toArray ∧ (∀ a ∈ args, x_vk h a) ∧ XB X ≤ U.heap.size ∧ x_P X ρ M h U.heap ∧ va_K (XD X) vwCl (x_tys X) U ∧ x_O X U U.heap
def x_Qc (X : xX) (ρ0 : Nat → Nat) (n0 : Nat) (Φ : xO → xM → xH → Prop) : Array Value → State → Outcome → State → Prop := fun _ st o t =>
  (∃ (r : Option xV) (ρ : Nat → Nat) (M : xM) (h : xH), o = .returned (r.map (x_c X ρ)) ∧ Φ (.inl r) M h ∧ (∀ v, r = some v → x_vk h v) ∧ x_ext ρ0 ρ n0 ∧ n0 ≤ hn h ∧ x_P X ρ M h t.heap) ∧ va_F (x_A X) st t
def x_XC (X : xX) (ρ0 : Nat → Nat) (n0 : Nat) (Φ : xO → xM → xH → Prop) : String → State → State → Prop := fun E st t =>
  (∃ (e : Nat) (ρ : Nat → Nat) (M : xM) (h : xH), E = x_en e ∧ Φ (.inr e) M h ∧ x_ext ρ0 ρ n0 ∧ n0 ≤ hn h ∧ x_P X ρ M h t.heap) ∧ va_F (x_A X) st t
/-- A CALL of z with these arguments in this memory ends as Φ says -/
def x_Cal : xCal := fun z args M h Φ => ∀ l : Launch, l.stackTraces = false → ∀ (X : xX) (ρ : Nat → Nat), vx_Met l (zN z) (x_w1 z) (x_rm z) (x_Pc X ρ args M h) (x_Qc X ρ (hn h) Φ) (x_XC X ρ (hn h) Φ) (zC z) (zS z) (x_A X)
/-- what stands fixed through a body -/
def x_Cx (X : xX) (z : xMD) (p : Program) (l : Launch) (R : Room) (s : State) (m : MethodId) (args : Array Value) (meth : Method) (c : Code) : Prop :=
  p.tables.exec = Jvm.exec ∧ c.code = zB z ∧ c.maxLocals = zL z ∧ s.vm.findClass (zN z).cls = some m.cls ∧ (∀ w ∈ x_tb, w.before args s = true) ∧ meth.sig.returnType = zR z ∧ meth.locks = false ∧ l.stackTraces = false ∧ (∀ x ∈ c.exceptionTable.toList, False) ∧ R = x_rm z ∧ meth.name = (zN z).name ∧ va_K (XD X) vwCl (x_tys X) s ∧ x_O X s s.heap ∧ XB X ≤ s.heap.size
/-- what a point of the body holds -/
def x_St (X : xX) (ρ0 : Nat → Nat) (n0 nL : Nat) (s : State) (ρ : Nat → Nat) (lsC : Array Slot) (H : Heap) (locs : List Loc) (ls : xL) (st : List xV) (M : xM) (h : xH) : Prop :=
  (lsC.size = nL ∧ lv_wf lsC ∧ ∀ i v, ls i = some v → lsC[i]? = some (.val (x_c X ρ v)) ∧ x_vk h v) ∧ (∀ v ∈ st, x_vk h v) ∧ x_P X ρ M h H ∧ va_S (x_A X) s.heap H locs ∧ x_ext ρ0 ρ n0 ∧ n0 ≤ hn h
/-- the machine goes on well from a point that holds this -/
def x_Wt (X : xX) (ρ0 : Nat → Nat) (n0 nL : Nat) (p : Program) (l : Launch) (e : Env) (R : Room) (s : State) (m : MethodId) (args : Array Value) (below : List Frame) (meth : Method) (c : Code) (Q : State → Prop) : xJT := fun pc ls st M h cells slots =>
  ∀ (ρ : Nat → Nat) (lsC : Array Slot) (H : Heap) (locs : List Loc), x_St X ρ0 n0 nL s ρ lsC H locs ls st M h → W p l e R s m args below meth c H locs cells slots Q (F0 m pc lsC (st.map (x_c X ρ)))
end
section
/-! the state's parts under the small machine's moves -/
theorem x_ws_get {X : xX} {ρ : Nat → Nat} {M : xM} {h : xH} {id : Nat} (h1 : 1 ≤ id) (h2 : id < hn h) : (x_ws X ρ M h)[id - 1]? = some (ρ id, x_cell X ρ M h id) := by
  unfold x_ws
  rw [List.getElem?_map, List.getElem?_range (by omega)]
  show some (ρ (id - 1 + 1), x_cell X ρ M h (id - 1 + 1)) = _
  rw [show id - 1 + 1 = id by omega]
theorem x_ws_set {X : xX} {ρ : Nat → Nat} {M M' : xM} {h h' : xH} {id : Nat} {e : va_E} (h1 : 1 ≤ id) (h2 : id < hn h) (hh : hn h' = hn h) (ho : ∀ q, q ≠ id → x_cell X ρ M' h' q = x_cell X ρ M h q) (he : x_cell X ρ M' h' id = e) : (x_ws X ρ M h).set (id - 1) (ρ id, e) = x_ws X ρ M' h' := by
  apply List.ext_getElem?
  intro k
  unfold x_ws
  rw [hh]
  by_cases hk : k = id - 1
  · subst hk
    rw [List.getElem?_set_self (by simp; omega), List.getElem?_map, List.getElem?_range (by omega)]
    show _ = some (ρ (id - 1 + 1), x_cell X ρ M' h' (id - 1 + 1))
    rw [show id - 1 + 1 = id by omega, he]
  · rw [List.getElem?_set_ne (fun q => hk q.symm), List.getElem?_map, List.getElem?_map]
    cases hr : (List.range (hn h - 1))[k]? with
    | none => rfl
    | some j =>
      have hj : j = k := by
        have := List.getElem?_eq_some_iff.mp hr
        obtain ⟨w, hw⟩ := this
        rw [List.getElem_range] at hw
        exact hw.symm
      subst hj
      show some (ρ (j + 1), x_cell X ρ M h (j + 1)) = some (ρ (j + 1), x_cell X ρ M' h' (j + 1))
      rw [ho (j + 1) (by omega)]
theorem x_ws_new {X : xX} {ρ ρ' : Nat → Nat} {M M' : xM} {h h' : xH} {e : va_E} {q : Nat} (h0 : 1 ≤ hn h) (hh : hn h' = hn h + 1) (ho : ∀ id, id < hn h → ρ' id = ρ id ∧ x_cell X ρ' M' h' id = x_cell X ρ M h id) (hq : ρ' (hn h) = q) (he : x_cell X ρ' M' h' (hn h) = e) : x_ws X ρ M h ++ [(q, e)] = x_ws X ρ' M' h' := by
  unfold x_ws
  rw [hh, show hn h + 1 - 1 = (hn h - 1) + 1 by omega, List.range_succ, List.map_append]
  congr 1
  · apply List.map_congr_left
    intro j hj
    have hj' := List.mem_range.mp hj
    rw [(ho (j + 1) (by omega)).1, (ho (j + 1) (by omega)).2]
  · show _ = [(ρ' (hn h - 1 + 1), x_cell X ρ' M' h' (hn h - 1 + 1))]
    rw [show hn h - 1 + 1 = hn h by omega, hq, he]
section XS
variable {X : xX} {ρ0 : Nat → Nat} {n0 nL : Nat} {s : State} {ρ : Nat → Nat} {lsC : Array Slot} {H : Heap} {locs : List Loc} {ls : xL} {st : List xV} {M : xM} {h : xH}
theorem x_St.pop {v : xV} (S : x_St X ρ0 n0 nL s ρ lsC H locs ls (v :: st) M h) : x_St X ρ0 n0 nL s ρ lsC H locs ls st M h := ⟨S.1, fun w hw => S.2.1 w (List.mem_cons_of_mem _ hw), S.2.2⟩
theorem x_St.top {v : xV} (S : x_St X ρ0 n0 nL s ρ lsC H locs ls (v :: st) M h) : x_vk h v := S.2.1 v List.mem_cons_self
theorem x_St.push {v : xV} (S : x_St X ρ0 n0 nL s ρ lsC H locs ls st M h) (hv : x_vk h v) : x_St X ρ0 n0 nL s ρ lsC H locs ls (v :: st) M h :=
  ⟨S.1, fun w hw => by
    rcases List.mem_cons.mp hw with rfl | hw
    · exact hv
    · exact S.2.1 w hw, S.2.2⟩
theorem x_St.loc {i : Nat} {v : xV} (S : x_St X ρ0 n0 nL s ρ lsC H locs ls st M h) (hi : ls i = some v) : lsC[i]? = some (.val (x_c X ρ v)) ∧ x_vk h v := S.1.2.2 i v hi
theorem x_cat_c (v : xV) : (x_c X ρ v).category = x_cat v := by
  rcases v with x | x | r | a | i
  · rfl
  · rfl
  · show (va_rf (x_rf ρ r)).category = 1
    unfold x_rf
    split <;> rfl
  · rfl
  · rfl
theorem x_nl_some {o : Option xV} {w : xV} (hw : x_nl o = some w) : o = some w ∧ x_cat w = 1 := by
  rcases o with _ | (x | x | r)
  · cases hw
  · cases hw; exact ⟨rfl, rfl⟩
  · cases hw
  · cases hw; exact ⟨rfl, rfl⟩
/-- the known locals as a list -/
def x_ll (X : xX) (ρ : Nat → Nat) (nL : Nat) (ls : xL) : List (Nat × Value) := (List.range nL).filterMap fun j => (ls j).map fun w => (j, x_c X ρ w)
theorem x_ll_mem {j : Nat} {w : xV} (hj : j < nL) (hw : ls j = some w) : (j, x_c X ρ w) ∈ x_ll X ρ nL ls := List.mem_filterMap.mpr ⟨j, List.mem_range.mpr hj, by rw [hw]; rfl⟩
theorem x_St.has (S : x_St X ρ0 n0 nL s ρ lsC H locs ls st M h) : lv_has lsC nL (x_ll X ρ nL ls) := by
  refine ⟨S.1.1, S.1.2.1, fun q hq => ?_⟩
  obtain ⟨j, -, hj⟩ := List.mem_filterMap.mp hq
  cases hl : ls j with
  | none => rw [hl] at hj; cases hj
  | some w =>
    rw [hl] at hj
    cases hj
    exact (S.loc hl).1
theorem x_St.lt {i : Nat} {v : xV} (S : x_St X ρ0 n0 nL s ρ lsC H locs ls st M h) (hi : ls i = some v) : i < nL := by
  have h1 := (Array.getElem?_eq_some_iff.mp (S.loc hi).1).1
  have h2 := S.1.1
  omega
theorem x_St.store {i : Nat} {v : xV} {lsD : Array Slot} (S : x_St X ρ0 n0 nL s ρ lsC H locs ls st M h) (hv : x_vk h v)
    (hd : lv_has lsD nL ((i, x_c X ρ v) :: (x_ll X ρ nL ls).filter (fun q => !(q.1 == i) && !(q.1 + 1 == i && q.2.category == 2)))) : x_St X ρ0 n0 nL s ρ lsD H locs (x_up ls i v) st M h := by
  obtain ⟨d1, d2, d3⟩ := hd
  refine ⟨⟨d1, d2, fun j w hw => ?_⟩, S.2⟩
  unfold x_up at hw
  by_cases hj : j = i
  · rw [if_pos hj] at hw
    cases hw
    subst hj
    exact ⟨d3 _ List.mem_cons_self, hv⟩
  · rw [if_neg hj] at hw
    have key : ls j = some w ∧ (j + 1 = i → x_cat w = 1) := by
      by_cases hj1 : j + 1 = i
      · rw [if_pos hj1] at hw
        exact ⟨(x_nl_some hw).1, fun _ => (x_nl_some hw).2⟩
      · rw [if_neg hj1] at hw
        exact ⟨hw, fun q => absurd q hj1⟩
    refine ⟨?_, (S.loc key.1).2⟩
    refine d3 (j, x_c X ρ w) (List.mem_cons_of_mem _ (List.mem_filter.mpr ⟨x_ll_mem (S.lt key.1) key.1, ?_⟩))
    by_cases hj1 : j + 1 = i
    · simp [hj, x_cat_c, key.2 hj1]
    · simp [hj, hj1]
theorem x_St.store2 {i : Nat} {v : xV} {lsD : Array Slot} (S : x_St X ρ0 n0 nL s ρ lsC H locs ls st M h) (hv : x_vk h v)
    (hd : lv_has lsD nL ((i, x_c X ρ v) :: (x_ll X ρ nL ls).filter (fun q => !(q.1 == i) && (!(q.1 == i + 1) && !(q.1 + 1 == i && q.2.category == 2))))) : x_St X ρ0 n0 nL s ρ lsD H locs (x_up2 ls i v) st M h := by
  obtain ⟨d1, d2, d3⟩ := hd
  refine ⟨⟨d1, d2, fun j w hw => ?_⟩, S.2⟩
  unfold x_up2 at hw
  by_cases hj : j = i
  · rw [if_pos hj] at hw
    cases hw
    subst hj
    exact ⟨d3 _ List.mem_cons_self, hv⟩
  · rw [if_neg hj] at hw
    by_cases hj2 : j = i + 1
    · rw [if_pos hj2] at hw
      cases hw
    · rw [if_neg hj2] at hw
      have key : ls j = some w ∧ (j + 1 = i → x_cat w = 1) := by
        by_cases hj1 : j + 1 = i
        · rw [if_pos hj1] at hw
          exact ⟨(x_nl_some hw).1, fun _ => (x_nl_some hw).2⟩
        · rw [if_neg hj1] at hw
          exact ⟨hw, fun q => absurd q hj1⟩
      refine ⟨?_, (S.loc key.1).2⟩
      refine d3 (j, x_c X ρ w) (List.mem_cons_of_mem _ (List.mem_filter.mpr ⟨x_ll_mem (S.lt key.1) key.1, ?_⟩))
      by_cases hj1 : j + 1 = i
      · simp [hj, hj2, x_cat_c, key.2 hj1]
      · simp [hj, hj1, hj2]
end XS
theorem x_pick {s : State} {args : Array Value} {w : Jvm.Cond} (hts : ∀ w ∈ x_tb, w.before args s = true) (p : Nat) (hp : x_tbl[p]? = some w) (hg : goodWord w = true) : w.before args s = true :=
  hts w (List.mem_filter.mpr ⟨List.mem_of_getElem? hp, hg⟩)
end
section
section SN
variable {X : xX} {ρ0 : Nat → Nat} {n0 : Nat} {z : xMD} {p : Program} {l : Launch} {e : Env} {R : Room} {s : State} {m : MethodId} {args : Array Value} {below : List Frame} {meth : Method} {c : Code} {Q : State → Prop}
variable {pc cells slots : Nat} {ls : xL} {st : List xV} {M : xM} {h : xH}
theorem sn_iconst (hx : x_Cx X z p l R s m args meth c) {k : Int} (hk : x_i32 k) (d : decode (zB z) pc = .ok (.iconst k, 1)) (kk : x_Wt X ρ0 n0 (zL z) p l e R s m args below meth c Q (pc + 1) ls (xI k :: st) M h cells slots) : x_Wt X ρ0 n0 (zL z) p l e R s m args below meth c Q (pc) ls st M h cells slots := by
  intro ρ lsC H locs S
  exact lv_iconst hx.1 hx.2.1 d rfl (kk ρ lsC H locs (S.push hk))
theorem sn_bipush (hx : x_Cx X z p l R s m args meth c) {k : Int} (hk : x_i32 k) (he : (Int8.ofInt k).toInt32 = Int32.ofInt k) (d : decode (zB z) pc = .ok (.bipush k, 2)) (kk : x_Wt X ρ0 n0 (zL z) p l e R s m args below meth c Q (pc + 2) ls (xI k :: st) M h cells slots) : x_Wt X ρ0 n0 (zL z) p l e R s m args below meth c Q (pc) ls st M h cells slots := by
  intro ρ lsC H locs S
  exact lv_bipush hx.1 hx.2.1 d he (kk ρ lsC H locs (S.push hk))
theorem sn_sipush (hx : x_Cx X z p l R s m args meth c) {k : Int} (hk : x_i32 k) (he : (Int16.ofInt k).toInt32 = Int32.ofInt k) (d : decode (zB z) pc = .ok (.sipush k, 3)) (kk : x_Wt X ρ0 n0 (zL z) p l e R s m args below meth c Q (pc + 3) ls (xI k :: st) M h cells slots) : x_Wt X ρ0 n0 (zL z) p l e R s m args below meth c Q (pc) ls st M h cells slots := by
  intro ρ lsC H locs S
  exact lv_sipush hx.1 hx.2.1 d he (kk ρ lsC H locs (S.push hk))
theorem sn_lconst (hx : x_Cx X z p l R s m args meth c) {k : Fin 2} (d : decode (zB z) pc = .ok (.lconst k, 1)) (kk : x_Wt X ρ0 n0 (zL z) p l e R s m args below meth c Q (pc + 1) ls (xJ k.val :: st) M h cells slots) : x_Wt X ρ0 n0 (zL z) p l e R s m args below meth c Q (pc) ls st M h cells slots := by
  intro ρ lsC H locs S
  exact lv_lconst hx.1 hx.2.1 d (v := Int64.ofInt k.val) (by rw [Int64.ofInt_eq_ofNat]) (kk ρ lsC H locs (S.push (v := xJ k.val) (by show x_i64 _; unfold x_i64; omega)))
theorem sn_null (hx : x_Cx X z p l R s m args meth c) (d : decode (zB z) pc = .ok (.aconst_null, 1)) (kk : x_Wt X ρ0 n0 (zL z) p l e R s m args below meth c Q (pc + 1) ls (xA 0 :: st) M h cells slots) : x_Wt X ρ0 n0 (zL z) p l e R s m args below meth c Q (pc) ls st M h cells slots := by
  intro ρ lsC H locs S
  exact lv_null hx.1 hx.2.1 d (kk ρ lsC H locs (S.push (v := xA 0) (Nat.lt_of_lt_of_le Nat.zero_lt_one S.2.2.1.2.2.1)))
theorem sn_iload (hx : x_Cx X z p l R s m args meth c) {i : Nat} {x : Int} (hl : ls i = some (xI x)) (d : decode (zB z) pc = .ok (.iload i, 2)) (kk : x_Wt X ρ0 n0 (zL z) p l e R s m args below meth c Q (pc + 2) ls (xI x :: st) M h cells slots) : x_Wt X ρ0 n0 (zL z) p l e R s m args below meth c Q (pc) ls st M h cells slots := by
  intro ρ lsC H locs S
  exact lv_iload hx.1 hx.2.1 d (S.loc hl).1 (kk ρ lsC H locs (S.push (S.loc hl).2))
theorem sn_iload_n (hx : x_Cx X z p l R s m args meth c) {i : Fin 4} {x : Int} (hl : ls i.val = some (xI x)) (d : decode (zB z) pc = .ok (.iload_n i, 1)) (kk : x_Wt X ρ0 n0 (zL z) p l e R s m args below meth c Q (pc + 1) ls (xI x :: st) M h cells slots) : x_Wt X ρ0 n0 (zL z) p l e R s m args below meth c Q (pc) ls st M h cells slots := by
  intro ρ lsC H locs S
  exact lv_iload_n hx.1 hx.2.1 d rfl (S.loc hl).1 (kk ρ lsC H locs (S.push (S.loc hl).2))
theorem sn_lload (hx : x_Cx X z p l R s m args meth c) {i : Nat} {x : Int} (hl : ls i = some (xJ x)) (d : decode (zB z) pc = .ok (.lload i, 2)) (kk : x_Wt X ρ0 n0 (zL z) p l e R s m args below meth c Q (pc + 2) ls (xJ x :: st) M h cells slots) : x_Wt X ρ0 n0 (zL z) p l e R s m args below meth c Q (pc) ls st M h cells slots := by
  intro ρ lsC H locs S
  exact lv_lload hx.1 hx.2.1 d (S.loc hl).1 (kk ρ lsC H locs (S.push (S.loc hl).2))
theorem sn_lload_n (hx : x_Cx X z p l R s m args meth c) {i : Fin 4} {x : Int} (hl : ls i.val = some (xJ x)) (d : decode (zB z) pc = .ok (.lload_n i, 1)) (kk : x_Wt X ρ0 n0 (zL z) p l e R s m args below meth c Q (pc + 1) ls (xJ x :: st) M h cells slots) : x_Wt X ρ0 n0 (zL z) p l e R s m args below meth c Q (pc) ls st M h cells slots := by
  intro ρ lsC H locs S
  exact lv_lload_n hx.1 hx.2.1 d rfl (S.loc hl).1 (kk ρ lsC H locs (S.push (S.loc hl).2))
theorem sn_aload (hx : x_Cx X z p l R s m args meth c) {i : Nat} {x : Nat ⊕ Nat ⊕ Nat} (hl : ls i = some (.inr (.inr x))) (d : decode (zB z) pc = .ok (.aload i, 2)) (kk : x_Wt X ρ0 n0 (zL z) p l e R s m args below meth c Q (pc + 2) ls (.inr (.inr x) :: st) M h cells slots) : x_Wt X ρ0 n0 (zL z) p l e R s m args below meth c Q (pc) ls st M h cells slots := by
  intro ρ lsC H locs S
  have h1 := S.loc hl
  have k1 := kk ρ lsC H locs (S.push h1.2)
  rcases x with r | a | j
  · have h2 : lsC[i]? = some (.val (va_rf (x_rf ρ r))) := h1.1
    have k2 : W p l e R s m args below meth c H locs cells slots Q (F0 m (pc + 2) lsC (va_rf (x_rf ρ r) :: st.map (x_c X ρ))) := k1
    generalize x_rf ρ r = y at h2 k2
    cases y with
    | none => exact lv_aloadN hx.1 hx.2.1 d h2 k2
    | some y => exact lv_aload hx.1 hx.2.1 d h2 k2
  · exact lv_aload hx.1 hx.2.1 d h1.1 k1
  · exact lv_aload hx.1 hx.2.1 d h1.1 k1
theorem sn_istore (hx : x_Cx X z p l R s m args meth c) {i : Nat} {x : Int} (hi : i < zL z) (d : decode (zB z) pc = .ok (.istore i, 2)) (kk : x_Wt X ρ0 n0 (zL z) p l e R s m args below meth c Q (pc + 2) (x_up ls i (xI x)) st M h cells slots) : x_Wt X ρ0 n0 (zL z) p l e R s m args below meth c Q (pc) ls (xI x :: st) M h cells slots := by
  intro ρ lsC H locs S
  exact lv_istore hx.1 hx.2.1 d S.has hi rfl (fun lsD hd => kk ρ lsD H locs (S.pop.store S.top hd))
theorem sn_lstore (hx : x_Cx X z p l R s m args meth c) {i : Nat} {x : Int} (hi : i + 1 < zL z) (d : decode (zB z) pc = .ok (.lstore i, 2)) (kk : x_Wt X ρ0 n0 (zL z) p l e R s m args below meth c Q (pc + 2) (x_up2 ls i (xJ x)) st M h cells slots) : x_Wt X ρ0 n0 (zL z) p l e R s m args below meth c Q (pc) ls (xJ x :: st) M h cells slots := by
  intro ρ lsC H locs S
  exact lv_lstore hx.1 hx.2.1 d S.has hi rfl (fun lsD hd => kk ρ lsD H locs (S.pop.store2 S.top hd))
theorem sn_astore (hx : x_Cx X z p l R s m args meth c) {i : Nat} {x : Nat ⊕ Nat ⊕ Nat} (hi : i < zL z) (d : decode (zB z) pc = .ok (.astore i, 2)) (kk : x_Wt X ρ0 n0 (zL z) p l e R s m args below meth c Q (pc + 2) (x_up ls i (.inr (.inr x))) st M h cells slots) : x_Wt X ρ0 n0 (zL z) p l e R s m args below meth c Q (pc) ls (.inr (.inr x) :: st) M h cells slots := by
  intro ρ lsC H locs S
  have k1 : ∀ lsD : Array Slot, lv_has lsD (zL z) ((i, x_c X ρ (.inr (.inr x))) :: (x_ll X ρ (zL z) ls).filter (fun q => !(q.1 == i) && !(q.1 + 1 == i && q.2.category == 2))) → W p l e R s m args below meth c H locs cells slots Q (F0 m (pc + 2) lsD (st.map (x_c X ρ))) := fun lsD hd => kk ρ lsD H locs (S.pop.store S.top hd)
  rcases x with r | a | j
  · show W p l e R s m args below meth c H locs cells slots Q (F0 m pc lsC (va_rf (x_rf ρ r) :: st.map (x_c X ρ)))
    have k2 : ∀ lsD : Array Slot, lv_has lsD (zL z) ((i, va_rf (x_rf ρ r)) :: (x_ll X ρ (zL z) ls).filter (fun q => !(q.1 == i) && !(q.1 + 1 == i && q.2.category == 2))) → W p l e R s m args below meth c H locs cells slots Q (F0 m (pc + 2) lsD (st.map (x_c X ρ))) := k1
    generalize x_rf ρ r = y at k2 ⊢
    cases y with
    | none => exact lv_astoreN hx.1 hx.2.1 d S.has hi rfl k2
    | some y => exact lv_astore hx.1 hx.2.1 d S.has hi rfl k2
  · exact lv_astore hx.1 hx.2.1 d S.has hi rfl k1
  · exact lv_astore hx.1 hx.2.1 d S.has hi rfl k1
theorem sn_aload_n (hx : x_Cx X z p l R s m args meth c) {i : Fin 4} {x : Nat ⊕ Nat ⊕ Nat} (hl : ls i.val = some (.inr (.inr x))) (d : decode (zB z) pc = .ok (.aload_n i, 1)) (kk : x_Wt X ρ0 n0 (zL z) p l e R s m args below meth c Q (pc + 1) ls (.inr (.inr x) :: st) M h cells slots) : x_Wt X ρ0 n0 (zL z) p l e R s m args below meth c Q (pc) ls st M h cells slots := by
  intro ρ lsC H locs S
  have h1 := S.loc hl
  have k1 := kk ρ lsC H locs (S.push h1.2)
  rcases x with r | a | j
  · have h2 : lsC[i.val]? = some (.val (va_rf (x_rf ρ r))) := h1.1
    have k2 : W p l e R s m args below meth c H locs cells slots Q (F0 m (pc + 1) lsC (va_rf (x_rf ρ r) :: st.map (x_c X ρ))) := k1
    generalize x_rf ρ r = y at h2 k2
    cases y with
    | none => exact lv_aload_nN hx.1 hx.2.1 d rfl h2 k2
    | some y => exact lv_aload_n hx.1 hx.2.1 d rfl h2 k2
  · exact lv_aload_n hx.1 hx.2.1 d rfl h1.1 k1
  · exact lv_aload_n hx.1 hx.2.1 d rfl h1.1 k1
theorem sn_istore_n (hx : x_Cx X z p l R s m args meth c) {i : Fin 4} {x : Int} (hi : i.val < zL z) (d : decode (zB z) pc = .ok (.istore_n i, 1)) (kk : x_Wt X ρ0 n0 (zL z) p l e R s m args below meth c Q (pc + 1) (x_up ls i.val (xI x)) st M h cells slots) : x_Wt X ρ0 n0 (zL z) p l e R s m args below meth c Q (pc) ls (xI x :: st) M h cells slots := by
  intro ρ lsC H locs S
  exact lv_istore_n hx.1 hx.2.1 d rfl S.has hi rfl (fun lsD hd => kk ρ lsD H locs (S.pop.store S.top hd))
theorem sn_lstore_n (hx : x_Cx X z p l R s m args meth c) {i : Fin 4} {x : Int} (hi : i.val + 1 < zL z) (d : decode (zB z) pc = .ok (.lstore_n i, 1)) (kk : x_Wt X ρ0 n0 (zL z) p l e R s m args below meth c Q (pc + 1) (x_up2 ls i.val (xJ x)) st M h cells slots) : x_Wt X ρ0 n0 (zL z) p l e R s m args below meth c Q (pc) ls (xJ x :: st) M h cells slots := by
  intro ρ lsC H locs S
  exact lv_lstore_n hx.1 hx.2.1 d rfl S.has hi rfl (fun lsD hd => kk ρ lsD H locs (S.pop.store2 S.top hd))
theorem sn_astore_n (hx : x_Cx X z p l R s m args meth c) {i : Fin 4} {x : Nat ⊕ Nat ⊕ Nat} (hi : i.val < zL z) (d : decode (zB z) pc = .ok (.astore_n i, 1)) (kk : x_Wt X ρ0 n0 (zL z) p l e R s m args below meth c Q (pc + 1) (x_up ls i.val (.inr (.inr x))) st M h cells slots) : x_Wt X ρ0 n0 (zL z) p l e R s m args below meth c Q (pc) ls (.inr (.inr x) :: st) M h cells slots := by
  intro ρ lsC H locs S
  have k1 : ∀ lsD : Array Slot, lv_has lsD (zL z) ((i.val, x_c X ρ (.inr (.inr x))) :: (x_ll X ρ (zL z) ls).filter (fun q => !(q.1 == i.val) && !(q.1 + 1 == i.val && q.2.category == 2))) → W p l e R s m args below meth c H locs cells slots Q (F0 m (pc + 1) lsD (st.map (x_c X ρ))) := fun lsD hd => kk ρ lsD H locs (S.pop.store S.top hd)
  rcases x with r | a | j
  · show W p l e R s m args below meth c H locs cells slots Q (F0 m pc lsC (va_rf (x_rf ρ r) :: st.map (x_c X ρ)))
    have k2 : ∀ lsD : Array Slot, lv_has lsD (zL z) ((i.val, va_rf (x_rf ρ r)) :: (x_ll X ρ (zL z) ls).filter (fun q => !(q.1 == i.val) && !(q.1 + 1 == i.val && q.2.category == 2))) → W p l e R s m args below meth c H locs cells slots Q (F0 m (pc + 1) lsD (st.map (x_c X ρ))) := k1
    generalize x_rf ρ r = y at k2 ⊢
    cases y with
    | none => exact lv_astore_nN hx.1 hx.2.1 d rfl S.has hi rfl k2
    | some y => exact lv_astore_n hx.1 hx.2.1 d rfl S.has hi rfl k2
  · exact lv_astore_n hx.1 hx.2.1 d rfl S.has hi rfl k1
  · exact lv_astore_n hx.1 hx.2.1 d rfl S.has hi rfl k1
theorem sn_iinc (hx : x_Cx X z p l R s m args meth c) {i : Nat} {k x : Int} (hl : ls i = some (xI x)) (d : decode (zB z) pc = .ok (.iinc i k, 3)) (kk : x_Wt X ρ0 n0 (zL z) p l e R s m args below meth c Q (pc + 3) (x_up ls i (xI (w32 (x + k)))) st M h cells slots) : x_Wt X ρ0 n0 (zL z) p l e R s m args below meth c Q (pc) ls st M h cells slots := by
  intro ρ lsC H locs S
  obtain ⟨j, hj⟩ := List.getElem?_of_mem (x_ll_mem (X := X) (ρ := ρ) (S.lt hl) hl)
  refine lv_iinc hx.1 hx.2.1 d S.has (k := j) hj (v := Int32.ofInt (w32 (x + k))) (by rw [i32_w, Int32.ofInt_add]) (S.lt hl) rfl (fun lsD hd => kk ρ lsD H locs (S.store (v := xI (w32 (x + k))) (w32_in _) hd))
theorem sn_iincW (hx : x_Cx X z p l R s m args meth c) {i : Nat} {k x : Int} (hl : ls i = some (xI x)) (d : decode (zB z) pc = .ok (.iinc i k, 6)) (kk : x_Wt X ρ0 n0 (zL z) p l e R s m args below meth c Q (pc + 6) (x_up ls i (xI (w32 (x + k)))) st M h cells slots) : x_Wt X ρ0 n0 (zL z) p l e R s m args below meth c Q (pc) ls st M h cells slots := by
  intro ρ lsC H locs S
  obtain ⟨j, hj⟩ := List.getElem?_of_mem (x_ll_mem (X := X) (ρ := ρ) (S.lt hl) hl)
  refine lv_iincW hx.1 hx.2.1 d S.has (k := j) hj (v := Int32.ofInt (w32 (x + k))) (by rw [i32_w, Int32.ofInt_add]) (S.lt hl) rfl (fun lsD hd => kk ρ lsD H locs (S.store (v := xI (w32 (x + k))) (w32_in _) hd))
theorem sn_iadd (hx : x_Cx X z p l R s m args meth c) {a b : Int} (d : decode (zB z) pc = .ok (.iadd, 1)) (kk : x_Wt X ρ0 n0 (zL z) p l e R s m args below meth c Q (pc + 1) ls (xI (w32 (a + b)) :: st) M h cells slots) : x_Wt X ρ0 n0 (zL z) p l e R s m args below meth c Q (pc) ls (xI b :: xI a :: st) M h cells slots := by
  intro ρ lsC H locs S
  have k1 := kk ρ lsC H locs (S.pop.pop.push (v := xI (w32 (a + b))) (w32_in _))
  refine lv_iadd hx.1 hx.2.1 d ?_
  rw [← Int32.ofInt_add, ← i32_w]
  exact k1
theorem sn_isub (hx : x_Cx X z p l R s m args meth c) {a b : Int} (d : decode (zB z) pc = .ok (.isub, 1)) (kk : x_Wt X ρ0 n0 (zL z) p l e R s m args below meth c Q (pc + 1) ls (xI (w32 (a - b)) :: st) M h cells slots) : x_Wt X ρ0 n0 (zL z) p l e R s m args below meth c Q (pc) ls (xI b :: xI a :: st) M h cells slots := by
  intro ρ lsC H locs S
  have k1 := kk ρ lsC H locs (S.pop.pop.push (v := xI (w32 (a - b))) (w32_in _))
  refine lv_isub hx.1 hx.2.1 d ?_
  rw [← Int32.ofInt_sub, ← i32_w]
  exact k1
theorem sn_imul (hx : x_Cx X z p l R s m args meth c) {a b : Int} (d : decode (zB z) pc = .ok (.imul, 1)) (kk : x_Wt X ρ0 n0 (zL z) p l e R s m args below meth c Q (pc + 1) ls (xI (w32 (a * b)) :: st) M h cells slots) : x_Wt X ρ0 n0 (zL z) p l e R s m args below meth c Q (pc) ls (xI b :: xI a :: st) M h cells slots := by
  intro ρ lsC H locs S
  have k1 := kk ρ lsC H locs (S.pop.pop.push (v := xI (w32 (a * b))) (w32_in _))
  refine lv_imul hx.1 hx.2.1 d ?_
  rw [← Int32.ofInt_mul, ← i32_w]
  exact k1
theorem sn_iand (hx : x_Cx X z p l R s m args meth c) {a b : Int} (d : decode (zB z) pc = .ok (.iand, 1)) (kk : x_Wt X ρ0 n0 (zL z) p l e R s m args below meth c Q (pc + 1) ls (xI (x_and a b) :: st) M h cells slots) : x_Wt X ρ0 n0 (zL z) p l e R s m args below meth c Q (pc) ls (xI b :: xI a :: st) M h cells slots := by
  intro ρ lsC H locs S
  have k1 := kk ρ lsC H locs (S.pop.pop.push (v := xI (x_and a b)) (i32_of _))
  refine lv_iand hx.1 hx.2.1 d ?_
  rw [show Int32.ofInt a &&& Int32.ofInt b = Int32.ofInt (x_and a b) from (Int32.ofInt_toInt _).symm]
  exact k1
theorem sn_ior (hx : x_Cx X z p l R s m args meth c) {a b : Int} (d : decode (zB z) pc = .ok (.ior, 1)) (kk : x_Wt X ρ0 n0 (zL z) p l e R s m args below meth c Q (pc + 1) ls (xI (x_or a b) :: st) M h cells slots) : x_Wt X ρ0 n0 (zL z) p l e R s m args below meth c Q (pc) ls (xI b :: xI a :: st) M h cells slots := by
  intro ρ lsC H locs S
  have k1 := kk ρ lsC H locs (S.pop.pop.push (v := xI (x_or a b)) (i32_of _))
  refine lv_ior hx.1 hx.2.1 d ?_
  rw [show Int32.ofInt a ||| Int32.ofInt b = Int32.ofInt (x_or a b) from (Int32.ofInt_toInt _).symm]
  exact k1
theorem sn_ixor (hx : x_Cx X z p l R s m args meth c) {a b : Int} (d : decode (zB z) pc = .ok (.ixor, 1)) (kk : x_Wt X ρ0 n0 (zL z) p l e R s m args below meth c Q (pc + 1) ls (xI (x_xor a b) :: st) M h cells slots) : x_Wt X ρ0 n0 (zL z) p l e R s m args below meth c Q (pc) ls (xI b :: xI a :: st) M h cells slots := by
  intro ρ lsC H locs S
  have k1 := kk ρ lsC H locs (S.pop.pop.push (v := xI (x_xor a b)) (i32_of _))
  refine lv_ixor hx.1 hx.2.1 d ?_
  rw [show Int32.ofInt a ^^^ Int32.ofInt b = Int32.ofInt (x_xor a b) from (Int32.ofInt_toInt _).symm]
  exact k1
theorem sn_ishl (hx : x_Cx X z p l R s m args meth c) {a b : Int} (d : decode (zB z) pc = .ok (.ishl, 1)) (kk : x_Wt X ρ0 n0 (zL z) p l e R s m args below meth c Q (pc + 1) ls (xI (x_shl a b) :: st) M h cells slots) : x_Wt X ρ0 n0 (zL z) p l e R s m args below meth c Q (pc) ls (xI b :: xI a :: st) M h cells slots := by
  intro ρ lsC H locs S
  have k1 := kk ρ lsC H locs (S.pop.pop.push (v := xI (x_shl a b)) (i32_of _))
  refine lv_ishl hx.1 hx.2.1 d ?_
  rw [show Int32.ofInt a <<< (Int32.ofInt b &&& 31) = Int32.ofInt (x_shl a b) from (Int32.ofInt_toInt _).symm]
  exact k1
theorem sn_ishr (hx : x_Cx X z p l R s m args meth c) {a b : Int} (d : decode (zB z) pc = .ok (.ishr, 1)) (kk : x_Wt X ρ0 n0 (zL z) p l e R s m args below meth c Q (pc + 1) ls (xI (x_shr a b) :: st) M h cells slots) : x_Wt X ρ0 n0 (zL z) p l e R s m args below meth c Q (pc) ls (xI b :: xI a :: st) M h cells slots := by
  intro ρ lsC H locs S
  have k1 := kk ρ lsC H locs (S.pop.pop.push (v := xI (x_shr a b)) (i32_of _))
  refine lv_ishr hx.1 hx.2.1 d ?_
  rw [show Int32.ofInt a >>> (Int32.ofInt b &&& 31) = Int32.ofInt (x_shr a b) from (Int32.ofInt_toInt _).symm]
  exact k1
theorem sn_idiv (hx : x_Cx X z p l R s m args meth c) {a b : Int} (hb0 : b ≠ 0) (d : decode (zB z) pc = .ok (.idiv, 1)) (kk : x_Wt X ρ0 n0 (zL z) p l e R s m args below meth c Q (pc + 1) ls (xI (x_div a b) :: st) M h cells slots) : x_Wt X ρ0 n0 (zL z) p l e R s m args below meth c Q (pc) ls (xI b :: xI a :: st) M h cells slots := by
  intro ρ lsC H locs S
  have k1 := kk ρ lsC H locs (S.pop.pop.push (v := xI (x_div a b)) (i32_of _))
  refine lv_idiv hx.1 hx.2.1 d (by rw [show (0 : Int32) = Int32.ofInt 0 from rfl, i32_eq S.top i32_0]; exact hb0) ?_
  rw [show Int32.ofInt a / Int32.ofInt b = Int32.ofInt (x_div a b) from (Int32.ofInt_toInt _).symm]
  exact k1
theorem sn_irem (hx : x_Cx X z p l R s m args meth c) {a b : Int} (hb0 : b ≠ 0) (d : decode (zB z) pc = .ok (.irem, 1)) (kk : x_Wt X ρ0 n0 (zL z) p l e R s m args below meth c Q (pc + 1) ls (xI (x_rem a b) :: st) M h cells slots) : x_Wt X ρ0 n0 (zL z) p l e R s m args below meth c Q (pc) ls (xI b :: xI a :: st) M h cells slots := by
  intro ρ lsC H locs S
  have k1 := kk ρ lsC H locs (S.pop.pop.push (v := xI (x_rem a b)) (i32_of _))
  refine lv_irem hx.1 hx.2.1 d (by rw [show (0 : Int32) = Int32.ofInt 0 from rfl, i32_eq S.top i32_0]; exact hb0) ?_
  rw [show Int32.ofInt a - Int32.ofInt a / Int32.ofInt b * Int32.ofInt b = Int32.ofInt (x_rem a b) from (Int32.ofInt_toInt _).symm]
  exact k1
theorem sn_ladd (hx : x_Cx X z p l R s m args meth c) {a b : Int} (d : decode (zB z) pc = .ok (.ladd, 1)) (kk : x_Wt X ρ0 n0 (zL z) p l e R s m args below meth c Q (pc + 1) ls (xJ (w64 (a + b)) :: st) M h cells slots) : x_Wt X ρ0 n0 (zL z) p l e R s m args below meth c Q (pc) ls (xJ b :: xJ a :: st) M h cells slots := by
  intro ρ lsC H locs S
  have k1 := kk ρ lsC H locs (S.pop.pop.push (v := xJ (w64 (a + b))) (w64_in _))
  refine lv_ladd hx.1 hx.2.1 d ?_
  rw [← Int64.ofInt_add, ← i64_w]
  exact k1
theorem sn_lsub (hx : x_Cx X z p l R s m args meth c) {a b : Int} (d : decode (zB z) pc = .ok (.lsub, 1)) (kk : x_Wt X ρ0 n0 (zL z) p l e R s m args below meth c Q (pc + 1) ls (xJ (w64 (a - b)) :: st) M h cells slots) : x_Wt X ρ0 n0 (zL z) p l e R s m args below meth c Q (pc) ls (xJ b :: xJ a :: st) M h cells slots := by
  intro ρ lsC H locs S
  have k1 := kk ρ lsC H locs (S.pop.pop.push (v := xJ (w64 (a - b))) (w64_in _))
  refine lv_lsub hx.1 hx.2.1 d ?_
  rw [← Int64.ofInt_sub, ← i64_w]
  exact k1
theorem sn_lmul (hx : x_Cx X z p l R s m args meth c) {a b : Int} (d : decode (zB z) pc = .ok (.lmul, 1)) (kk : x_Wt X ρ0 n0 (zL z) p l e R s m args below meth c Q (pc + 1) ls (xJ (w64 (a * b)) :: st) M h cells slots) : x_Wt X ρ0 n0 (zL z) p l e R s m args below meth c Q (pc) ls (xJ b :: xJ a :: st) M h cells slots := by
  intro ρ lsC H locs S
  have k1 := kk ρ lsC H locs (S.pop.pop.push (v := xJ (w64 (a * b))) (w64_in _))
  refine lv_lmul hx.1 hx.2.1 d ?_
  rw [← Int64.ofInt_mul, ← i64_w]
  exact k1
theorem sn_land (hx : x_Cx X z p l R s m args meth c) {a b : Int} (d : decode (zB z) pc = .ok (.land, 1)) (kk : x_Wt X ρ0 n0 (zL z) p l e R s m args below meth c Q (pc + 1) ls (xJ (x_landL a b) :: st) M h cells slots) : x_Wt X ρ0 n0 (zL z) p l e R s m args below meth c Q (pc) ls (xJ b :: xJ a :: st) M h cells slots := by
  intro ρ lsC H locs S
  have k1 := kk ρ lsC H locs (S.pop.pop.push (v := xJ (x_landL a b)) (i64_of _))
  refine lv_land hx.1 hx.2.1 d ?_
  rw [show Int64.ofInt a &&& Int64.ofInt b = Int64.ofInt (x_landL a b) from (Int64.ofInt_toInt _).symm]
  exact k1
theorem sn_lshr (hx : x_Cx X z p l R s m args meth c) {a b : Int} (d : decode (zB z) pc = .ok (.lshr, 1)) (kk : x_Wt X ρ0 n0 (zL z) p l e R s m args below meth c Q (pc + 1) ls (xJ (x_shrL a b) :: st) M h cells slots) : x_Wt X ρ0 n0 (zL z) p l e R s m args below meth c Q (pc) ls (xI b :: xJ a :: st) M h cells slots := by
  intro ρ lsC H locs S
  exact lv_lshr hx.1 hx.2.1 d (v := Int64.ofInt (x_shrL a b)) (Int64.ofInt_toInt _).symm (kk ρ lsC H locs (S.pop.pop.push (v := xJ (x_shrL a b)) (i64_of _)))
theorem sn_i2l (hx : x_Cx X z p l R s m args meth c) {a : Int} (d : decode (zB z) pc = .ok (.i2l, 1)) (kk : x_Wt X ρ0 n0 (zL z) p l e R s m args below meth c Q (pc + 1) ls (xJ a :: st) M h cells slots) : x_Wt X ρ0 n0 (zL z) p l e R s m args below meth c Q (pc) ls (xI a :: st) M h cells slots := by
  intro ρ lsC H locs S
  have ha : x_i32 a := S.top
  exact lv_i2l hx.1 hx.2.1 d (v := Int64.ofInt a) (Int64.toInt_inj.mp (by rw [Int32.toInt_toInt64, i32_to ha, i64_to (by unfold x_i64; unfold x_i32 at ha; omega)])) (kk ρ lsC H locs (S.pop.push (v := xJ a) (by show x_i64 a; unfold x_i64; unfold x_i32 at ha; omega)))
theorem sn_l2i (hx : x_Cx X z p l R s m args meth c) {a : Int} (d : decode (zB z) pc = .ok (.l2i, 1)) (kk : x_Wt X ρ0 n0 (zL z) p l e R s m args below meth c Q (pc + 1) ls (xI (w32 a) :: st) M h cells slots) : x_Wt X ρ0 n0 (zL z) p l e R s m args below meth c Q (pc) ls (xJ a :: st) M h cells slots := by
  intro ρ lsC H locs S
  have ha : x_i64 a := S.top
  exact lv_l2i hx.1 hx.2.1 d (v := Int32.ofInt (w32 a)) (by rw [i32_w]; show Int32.ofInt (Int64.ofInt a).toInt = _; rw [i64_to ha]) (kk ρ lsC H locs (S.pop.push (v := xI (w32 a)) (w32_in _)))
theorem sn_i2b (hx : x_Cx X z p l R s m args meth c) {a : Int} (d : decode (zB z) pc = .ok (.i2b, 1)) (kk : x_Wt X ρ0 n0 (zL z) p l e R s m args below meth c Q (pc + 1) ls (xI (w8 a) :: st) M h cells slots) : x_Wt X ρ0 n0 (zL z) p l e R s m args below meth c Q (pc) ls (xI a :: st) M h cells slots := by
  intro ρ lsC H locs S
  exact lv_i2b hx.1 hx.2.1 d (v := Int32.ofInt (w8 a)) (Int32.toInt_inj.mp (by rw [i32_to (w8_in a), Int8.toInt_toInt32, Int32.toInt8_ofInt, Int8.toInt_ofInt]; rfl)) (kk ρ lsC H locs (S.pop.push (v := xI (w8 a)) (w8_in _)))
theorem sn_lcmp (hx : x_Cx X z p l R s m args meth c) {a b : Int} (d : decode (zB z) pc = .ok (.lcmp, 1)) (kk : x_Wt X ρ0 n0 (zL z) p l e R s m args below meth c Q (pc + 1) ls (xI (x_cmp a b) :: st) M h cells slots) : x_Wt X ρ0 n0 (zL z) p l e R s m args below meth c Q (pc) ls (xJ b :: xJ a :: st) M h cells slots := by
  intro ρ lsC H locs S
  have hb : x_i64 b := S.top
  have ha : x_i64 a := S.pop.top
  refine W.lcmp hx.1 hx.2.1 d ?_
  have e : lg_cmp (Int64.ofInt a) (Int64.ofInt b) = Int32.ofInt (x_cmp a b) := by
    unfold lg_cmp x_cmp
    simp only [Int64.lt_iff_toInt_lt, ← Int64.toInt_inj, i64_to ha, i64_to hb, GT.gt]
    by_cases h1 : a < b
    · rw [if_neg (show ¬ b < a by omega), if_neg (show ¬ a = b by omega), if_pos h1]; rfl
    · by_cases h2 : a = b
      · rw [if_neg (show ¬ b < a by omega), if_pos h2, if_neg h1, if_pos h2]; rfl
      · rw [if_pos (show b < a by omega), if_neg h1, if_neg h2]; rfl
  rw [e]
  exact kk ρ lsC H locs (S.pop.pop.push (v := xI (x_cmp a b)) (by show x_i32 _; unfold x_i32 x_cmp; split <;> (try split) <;> omega))
theorem sn_dup (hx : x_Cx X z p l R s m args meth c) {v : xV} (hv : x_cat v = 1) (d : decode (zB z) pc = .ok (.dup, 1)) (kk : x_Wt X ρ0 n0 (zL z) p l e R s m args below meth c Q (pc + 1) ls (v :: v :: st) M h cells slots) : x_Wt X ρ0 n0 (zL z) p l e R s m args below meth c Q (pc) ls (v :: st) M h cells slots := by
  intro ρ lsC H locs S
  exact lv_dup hx.1 hx.2.1 d (by rw [x_cat_c]; exact hv) (kk ρ lsC H locs (S.push S.top))
theorem sn_pop (hx : x_Cx X z p l R s m args meth c) {v : xV} (hv : x_cat v = 1) (d : decode (zB z) pc = .ok (.pop, 1)) (kk : x_Wt X ρ0 n0 (zL z) p l e R s m args below meth c Q (pc + 1) ls st M h cells slots) : x_Wt X ρ0 n0 (zL z) p l e R s m args below meth c Q (pc) ls (v :: st) M h cells slots := by
  intro ρ lsC H locs S
  exact lv_pop hx.1 hx.2.1 d (by rw [x_cat_c]; exact hv) (kk ρ lsC H locs S.pop)
theorem sn_dup2 (hx : x_Cx X z p l R s m args meth c) {v w : xV} (hv : x_cat v = 1) (hw : x_cat w = 1) (d : decode (zB z) pc = .ok (.dup2, 1)) (kk : x_Wt X ρ0 n0 (zL z) p l e R s m args below meth c Q (pc + 1) ls (v :: w :: v :: w :: st) M h cells slots) : x_Wt X ρ0 n0 (zL z) p l e R s m args below meth c Q (pc) ls (v :: w :: st) M h cells slots := by
  intro ρ lsC H locs S
  exact lv_dup2_11 hx.1 hx.2.1 d (by rw [x_cat_c]; exact hv) (by rw [x_cat_c]; exact hw) (kk ρ lsC H locs ((S.push S.pop.top).push S.top))
theorem sn_icmp_eq (hx : x_Cx X z p l R s m args meth c) {a b o : Int} {t : Nat} (ht : (pc : Int) + o = (t : Int)) (d : decode (zB z) pc = .ok (.if_icmp .eq o, 3)) (k1 : a = b → x_Wt X ρ0 n0 (zL z) p l e R s m args below meth c Q (t) ls st M h cells slots) (k2 : ¬ (a = b) → x_Wt X ρ0 n0 (zL z) p l e R s m args below meth c Q (pc + 3) ls st M h cells slots) : x_Wt X ρ0 n0 (zL z) p l e R s m args below meth c Q (pc) ls (xI b :: xI a :: st) M h cells slots := by
  intro ρ lsC H locs S
  have e := i32_eq S.pop.top S.top
  refine lv_icmp_eq hx.1 hx.2.1 d ht (fun hc => k1 ?_ ρ lsC H locs S.pop.pop) (fun hc => k2 ?_ ρ lsC H locs S.pop.pop)
  · first | exact e.mp hc | exact (not_congr e).mp hc | exact (fun z => hc (e.mpr z))
  · first | exact (not_congr e).mp hc | exact (fun z => z (e.mp hc))
theorem sn_if_eq (hx : x_Cx X z p l R s m args meth c) {a o : Int} {t : Nat} (ht : (pc : Int) + o = (t : Int)) (d : decode (zB z) pc = .ok (.ifCond .eq o, 3)) (k1 : a = 0 → x_Wt X ρ0 n0 (zL z) p l e R s m args below meth c Q (t) ls st M h cells slots) (k2 : ¬ (a = 0) → x_Wt X ρ0 n0 (zL z) p l e R s m args below meth c Q (pc + 3) ls st M h cells slots) : x_Wt X ρ0 n0 (zL z) p l e R s m args below meth c Q (pc) ls (xI a :: st) M h cells slots := by
  intro ρ lsC H locs S
  have e := i32_eq S.top i32_0
  refine lv_if_eq hx.1 hx.2.1 d ht (fun hc => k1 ?_ ρ lsC H locs S.pop) (fun hc => k2 ?_ ρ lsC H locs S.pop)
  · first | exact e.mp hc | exact (not_congr e).mp hc | exact (fun z => hc (e.mpr z))
  · first | exact (not_congr e).mp hc | exact (fun z => z (e.mp hc))
theorem sn_icmp_ne (hx : x_Cx X z p l R s m args meth c) {a b o : Int} {t : Nat} (ht : (pc : Int) + o = (t : Int)) (d : decode (zB z) pc = .ok (.if_icmp .ne o, 3)) (k1 : a ≠ b → x_Wt X ρ0 n0 (zL z) p l e R s m args below meth c Q (t) ls st M h cells slots) (k2 : ¬ (a ≠ b) → x_Wt X ρ0 n0 (zL z) p l e R s m args below meth c Q (pc + 3) ls st M h cells slots) : x_Wt X ρ0 n0 (zL z) p l e R s m args below meth c Q (pc) ls (xI b :: xI a :: st) M h cells slots := by
  intro ρ lsC H locs S
  have e := i32_eq S.pop.top S.top
  refine lv_icmp_ne hx.1 hx.2.1 d ht (fun hc => k1 ?_ ρ lsC H locs S.pop.pop) (fun hc => k2 ?_ ρ lsC H locs S.pop.pop)
  · first | exact e.mp hc | exact (not_congr e).mp hc | exact (fun z => hc (e.mpr z))
  · first | exact (not_congr e).mp hc | exact (fun z => z (e.mp hc))
theorem sn_if_ne (hx : x_Cx X z p l R s m args meth c) {a o : Int} {t : Nat} (ht : (pc : Int) + o = (t : Int)) (d : decode (zB z) pc = .ok (.ifCond .ne o, 3)) (k1 : a ≠ 0 → x_Wt X ρ0 n0 (zL z) p l e R s m args below meth c Q (t) ls st M h cells slots) (k2 : ¬ (a ≠ 0) → x_Wt X ρ0 n0 (zL z) p l e R s m args below meth c Q (pc + 3) ls st M h cells slots) : x_Wt X ρ0 n0 (zL z) p l e R s m args below meth c Q (pc) ls (xI a :: st) M h cells slots := by
  intro ρ lsC H locs S
  have e := i32_eq S.top i32_0
  refine lv_if_ne hx.1 hx.2.1 d ht (fun hc => k1 ?_ ρ lsC H locs S.pop) (fun hc => k2 ?_ ρ lsC H locs S.pop)
  · first | exact e.mp hc | exact (not_congr e).mp hc | exact (fun z => hc (e.mpr z))
  · first | exact (not_congr e).mp hc | exact (fun z => z (e.mp hc))
theorem sn_icmp_lt (hx : x_Cx X z p l R s m args meth c) {a b o : Int} {t : Nat} (ht : (pc : Int) + o = (t : Int)) (d : decode (zB z) pc = .ok (.if_icmp .lt o, 3)) (k1 : a < b → x_Wt X ρ0 n0 (zL z) p l e R s m args below meth c Q (t) ls st M h cells slots) (k2 : ¬ (a < b) → x_Wt X ρ0 n0 (zL z) p l e R s m args below meth c Q (pc + 3) ls st M h cells slots) : x_Wt X ρ0 n0 (zL z) p l e R s m args below meth c Q (pc) ls (xI b :: xI a :: st) M h cells slots := by
  intro ρ lsC H locs S
  have e := i32_lt S.pop.top S.top
  refine lv_icmp_lt hx.1 hx.2.1 d ht (fun hc => k1 ?_ ρ lsC H locs S.pop.pop) (fun hc => k2 ?_ ρ lsC H locs S.pop.pop)
  · first | exact e.mp hc | exact (not_congr e).mp hc | exact (fun z => hc (e.mpr z))
  · first | exact (not_congr e).mp hc | exact (fun z => z (e.mp hc))
theorem sn_if_lt (hx : x_Cx X z p l R s m args meth c) {a o : Int} {t : Nat} (ht : (pc : Int) + o = (t : Int)) (d : decode (zB z) pc = .ok (.ifCond .lt o, 3)) (k1 : a < 0 → x_Wt X ρ0 n0 (zL z) p l e R s m args below meth c Q (t) ls st M h cells slots) (k2 : ¬ (a < 0) → x_Wt X ρ0 n0 (zL z) p l e R s m args below meth c Q (pc + 3) ls st M h cells slots) : x_Wt X ρ0 n0 (zL z) p l e R s m args below meth c Q (pc) ls (xI a :: st) M h cells slots := by
  intro ρ lsC H locs S
  have e := i32_lt S.top i32_0
  refine lv_if_lt hx.1 hx.2.1 d ht (fun hc => k1 ?_ ρ lsC H locs S.pop) (fun hc => k2 ?_ ρ lsC H locs S.pop)
  · first | exact e.mp hc | exact (not_congr e).mp hc | exact (fun z => hc (e.mpr z))
  · first | exact (not_congr e).mp hc | exact (fun z => z (e.mp hc))
theorem sn_icmp_ge (hx : x_Cx X z p l R s m args meth c) {a b o : Int} {t : Nat} (ht : (pc : Int) + o = (t : Int)) (d : decode (zB z) pc = .ok (.if_icmp .ge o, 3)) (k1 : b ≤ a → x_Wt X ρ0 n0 (zL z) p l e R s m args below meth c Q (t) ls st M h cells slots) (k2 : ¬ (b ≤ a) → x_Wt X ρ0 n0 (zL z) p l e R s m args below meth c Q (pc + 3) ls st M h cells slots) : x_Wt X ρ0 n0 (zL z) p l e R s m args below meth c Q (pc) ls (xI b :: xI a :: st) M h cells slots := by
  intro ρ lsC H locs S
  have e := i32_le S.top S.pop.top
  refine lv_icmp_ge hx.1 hx.2.1 d ht (fun hc => k1 ?_ ρ lsC H locs S.pop.pop) (fun hc => k2 ?_ ρ lsC H locs S.pop.pop)
  · first | exact e.mp hc | exact (not_congr e).mp hc | exact (fun z => hc (e.mpr z))
  · first | exact (not_congr e).mp hc | exact (fun z => z (e.mp hc))
theorem sn_if_ge (hx : x_Cx X z p l R s m args meth c) {a o : Int} {t : Nat} (ht : (pc : Int) + o = (t : Int)) (d : decode (zB z) pc = .ok (.ifCond .ge o, 3)) (k1 : 0 ≤ a → x_Wt X ρ0 n0 (zL z) p l e R s m args below meth c Q (t) ls st M h cells slots) (k2 : ¬ (0 ≤ a) → x_Wt X ρ0 n0 (zL z) p l e R s m args below meth c Q (pc + 3) ls st M h cells slots) : x_Wt X ρ0 n0 (zL z) p l e R s m args below meth c Q (pc) ls (xI a :: st) M h cells slots := by
  intro ρ lsC H locs S
  have e := i32_le i32_0 S.top
  refine lv_if_ge hx.1 hx.2.1 d ht (fun hc => k1 ?_ ρ lsC H locs S.pop) (fun hc => k2 ?_ ρ lsC H locs S.pop)
  · first | exact e.mp hc | exact (not_congr e).mp hc | exact (fun z => hc (e.mpr z))
  · first | exact (not_congr e).mp hc | exact (fun z => z (e.mp hc))
theorem sn_icmp_gt (hx : x_Cx X z p l R s m args meth c) {a b o : Int} {t : Nat} (ht : (pc : Int) + o = (t : Int)) (d : decode (zB z) pc = .ok (.if_icmp .gt o, 3)) (k1 : b < a → x_Wt X ρ0 n0 (zL z) p l e R s m args below meth c Q (t) ls st M h cells slots) (k2 : ¬ (b < a) → x_Wt X ρ0 n0 (zL z) p l e R s m args below meth c Q (pc + 3) ls st M h cells slots) : x_Wt X ρ0 n0 (zL z) p l e R s m args below meth c Q (pc) ls (xI b :: xI a :: st) M h cells slots := by
  intro ρ lsC H locs S
  have e := i32_lt S.top S.pop.top
  refine lv_icmp_gt hx.1 hx.2.1 d ht (fun hc => k1 ?_ ρ lsC H locs S.pop.pop) (fun hc => k2 ?_ ρ lsC H locs S.pop.pop)
  · first | exact e.mp hc | exact (not_congr e).mp hc | exact (fun z => hc (e.mpr z))
  · first | exact (not_congr e).mp hc | exact (fun z => z (e.mp hc))
theorem sn_if_gt (hx : x_Cx X z p l R s m args meth c) {a o : Int} {t : Nat} (ht : (pc : Int) + o = (t : Int)) (d : decode (zB z) pc = .ok (.ifCond .gt o, 3)) (k1 : 0 < a → x_Wt X ρ0 n0 (zL z) p l e R s m args below meth c Q (t) ls st M h cells slots) (k2 : ¬ (0 < a) → x_Wt X ρ0 n0 (zL z) p l e R s m args below meth c Q (pc + 3) ls st M h cells slots) : x_Wt X ρ0 n0 (zL z) p l e R s m args below meth c Q (pc) ls (xI a :: st) M h cells slots := by
  intro ρ lsC H locs S
  have e := i32_lt i32_0 S.top
  refine lv_if_gt hx.1 hx.2.1 d ht (fun hc => k1 ?_ ρ lsC H locs S.pop) (fun hc => k2 ?_ ρ lsC H locs S.pop)
  · first | exact e.mp hc | exact (not_congr e).mp hc | exact (fun z => hc (e.mpr z))
  · first | exact (not_congr e).mp hc | exact (fun z => z (e.mp hc))
theorem sn_icmp_le (hx : x_Cx X z p l R s m args meth c) {a b o : Int} {t : Nat} (ht : (pc : Int) + o = (t : Int)) (d : decode (zB z) pc = .ok (.if_icmp .le o, 3)) (k1 : a ≤ b → x_Wt X ρ0 n0 (zL z) p l e R s m args below meth c Q (t) ls st M h cells slots) (k2 : ¬ (a ≤ b) → x_Wt X ρ0 n0 (zL z) p l e R s m args below meth c Q (pc + 3) ls st M h cells slots) : x_Wt X ρ0 n0 (zL z) p l e R s m args below meth c Q (pc) ls (xI b :: xI a :: st) M h cells slots := by
  intro ρ lsC H locs S
  have e := i32_le S.pop.top S.top
  refine lv_icmp_le hx.1 hx.2.1 d ht (fun hc => k1 ?_ ρ lsC H locs S.pop.pop) (fun hc => k2 ?_ ρ lsC H locs S.pop.pop)
  · first | exact e.mp hc | exact (not_congr e).mp hc | exact (fun z => hc (e.mpr z))
  · first | exact (not_congr e).mp hc | exact (fun z => z (e.mp hc))
theorem sn_if_le (hx : x_Cx X z p l R s m args meth c) {a o : Int} {t : Nat} (ht : (pc : Int) + o = (t : Int)) (d : decode (zB z) pc = .ok (.ifCond .le o, 3)) (k1 : a ≤ 0 → x_Wt X ρ0 n0 (zL z) p l e R s m args below meth c Q (t) ls st M h cells slots) (k2 : ¬ (a ≤ 0) → x_Wt X ρ0 n0 (zL z) p l e R s m args below meth c Q (pc + 3) ls st M h cells slots) : x_Wt X ρ0 n0 (zL z) p l e R s m args below meth c Q (pc) ls (xI a :: st) M h cells slots := by
  intro ρ lsC H locs S
  have e := i32_le S.top i32_0
  refine lv_if_le hx.1 hx.2.1 d ht (fun hc => k1 ?_ ρ lsC H locs S.pop) (fun hc => k2 ?_ ρ lsC H locs S.pop)
  · first | exact e.mp hc | exact (not_congr e).mp hc | exact (fun z => hc (e.mpr z))
  · first | exact (not_congr e).mp hc | exact (fun z => z (e.mp hc))
theorem x_rf_0 {ρ : Nat → Nat} : x_rf ρ 0 = none := rfl
theorem x_rf_s {ρ : Nat → Nat} {r : Nat} (h : r ≠ 0) : x_rf ρ r = some (ρ r) := if_neg h
theorem sn_ifnull (hx : x_Cx X z p l R s m args meth c) {o : Int} {t r : Nat} (ht : (pc : Int) + o = (t : Int)) (d : decode (zB z) pc = .ok (.ifnull o, 3)) (k1 : r = 0 → x_Wt X ρ0 n0 (zL z) p l e R s m args below meth c Q (t) ls st M h cells slots) (k2 : r ≠ 0 → x_Wt X ρ0 n0 (zL z) p l e R s m args below meth c Q (pc + 3) ls st M h cells slots) : x_Wt X ρ0 n0 (zL z) p l e R s m args below meth c Q (pc) ls (xA r :: st) M h cells slots := by
  intro ρ lsC H locs S
  show W p l e R s m args below meth c H locs cells slots Q (F0 m pc lsC (va_rf (x_rf ρ r) :: st.map (x_c X ρ)))
  by_cases hr : r = 0
  · rw [hr]
    exact lv_ifnullN hx.1 hx.2.1 d ht (k1 hr ρ lsC H locs S.pop)
  · rw [x_rf_s hr]
    exact lv_ifnull hx.1 hx.2.1 d (k2 hr ρ lsC H locs S.pop)
theorem sn_ifnonnull (hx : x_Cx X z p l R s m args meth c) {o : Int} {t r : Nat} (ht : (pc : Int) + o = (t : Int)) (d : decode (zB z) pc = .ok (.ifnonnull o, 3)) (k1 : r ≠ 0 → x_Wt X ρ0 n0 (zL z) p l e R s m args below meth c Q (t) ls st M h cells slots) (k2 : r = 0 → x_Wt X ρ0 n0 (zL z) p l e R s m args below meth c Q (pc + 3) ls st M h cells slots) : x_Wt X ρ0 n0 (zL z) p l e R s m args below meth c Q (pc) ls (xA r :: st) M h cells slots := by
  intro ρ lsC H locs S
  show W p l e R s m args below meth c H locs cells slots Q (F0 m pc lsC (va_rf (x_rf ρ r) :: st.map (x_c X ρ)))
  by_cases hr : r = 0
  · rw [hr]
    exact lv_ifnonnullN hx.1 hx.2.1 d (k2 hr ρ lsC H locs S.pop)
  · rw [x_rf_s hr]
    exact lv_ifnonnull hx.1 hx.2.1 d ht (k1 hr ρ lsC H locs S.pop)
theorem sn_goto (hx : x_Cx X z p l R s m args meth c) {o : Int} {t : Nat} (ht : (pc : Int) + o = (t : Int)) (d : decode (zB z) pc = .ok (.goto o, 3)) (kk : x_Wt X ρ0 n0 (zL z) p l e R s m args below meth c Q (t) ls st M h cells slots) : x_Wt X ρ0 n0 (zL z) p l e R s m args below meth c Q (pc) ls st M h cells slots := fun ρ lsC H locs S => lv_goto hx.1 hx.2.1 d ht (kk ρ lsC H locs S)
theorem sn_ineg (hx : x_Cx X z p l R s m args meth c) {a : Int} (d : decode (zB z) pc = .ok (.ineg, 1)) (kk : x_Wt X ρ0 n0 (zL z) p l e R s m args below meth c Q (pc + 1) ls (xI (w32 (-a)) :: st) M h cells slots) : x_Wt X ρ0 n0 (zL z) p l e R s m args below meth c Q (pc) ls (xI a :: st) M h cells slots := by
  intro ρ lsC H locs S
  have k1 := kk ρ lsC H locs (S.pop.push (v := xI (w32 (-a))) (w32_in _))
  refine lv_ineg hx.1 hx.2.1 d ?_
  rw [← Int32.ofInt_neg, ← i32_w]
  exact k1
theorem u32c (x : Int32) : (x.toUInt32 % 65536).toInt32.toInt = x.toInt % 65536 := by
  have h1 : x.toUInt32.toNat = (x.toInt % 4294967296).toNat := by
    have := x.toInt_lt
    have := x.le_toInt
    have e : x.toInt = x.toUInt32.toBitVec.toInt := rfl
    rw [e, BitVec.toInt_eq_toNat_cond]
    show x.toUInt32.toBitVec.toNat = _
    have := x.toUInt32.toBitVec.isLt
    split <;> omega
  have h2 : (x.toUInt32 % 65536).toNat = x.toUInt32.toNat % 65536 := by simp
  have e2 : (x.toUInt32 % 65536).toInt32.toInt = ((x.toUInt32 % 65536).toBitVec).toInt := rfl
  rw [e2, BitVec.toInt_eq_toNat_cond]
  have h3 : (x.toUInt32 % 65536).toBitVec.toNat = x.toUInt32.toNat % 65536 := h2
  rw [h3, h1]
  have := x.toInt_lt
  have := x.le_toInt
  split <;> omega
theorem sn_i2c (hx : x_Cx X z p l R s m args meth c) {a : Int} (d : decode (zB z) pc = .ok (.i2c, 1)) (kk : x_Wt X ρ0 n0 (zL z) p l e R s m args below meth c Q (pc + 1) ls (xI (a % 65536) :: st) M h cells slots) : x_Wt X ρ0 n0 (zL z) p l e R s m args below meth c Q (pc) ls (xI a :: st) M h cells slots := by
  intro ρ lsC H locs S
  have ha : x_i32 a := S.top
  have hr : x_i32 (a % 65536) := by unfold x_i32; omega
  exact lv_i2c hx.1 hx.2.1 d (v := Int32.ofInt (a % 65536)) (Int32.toInt_inj.mp (by rw [u32c, i32_to ha, i32_to hr])) (kk ρ lsC H locs (S.pop.push (v := xI (a % 65536)) hr))
theorem sn_iushr (hx : x_Cx X z p l R s m args meth c) {a b : Int} (d : decode (zB z) pc = .ok (.iushr, 1)) (kk : x_Wt X ρ0 n0 (zL z) p l e R s m args below meth c Q (pc + 1) ls (xI (x_ushr a b) :: st) M h cells slots) : x_Wt X ρ0 n0 (zL z) p l e R s m args below meth c Q (pc) ls (xI b :: xI a :: st) M h cells slots := by
  intro ρ lsC H locs S
  refine lv_iushr hx.1 hx.2.1 d (v := Int32.ofInt (x_ushr a b)) ?_ (kk ρ lsC H locs (S.pop.pop.push (v := xI (x_ushr a b)) (i32_of _)))
  unfold x_ushr
  rw [Int32.ofInt_toInt]
theorem sn_lor (hx : x_Cx X z p l R s m args meth c) {a b : Int} (d : decode (zB z) pc = .ok (.lor, 1)) (kk : x_Wt X ρ0 n0 (zL z) p l e R s m args below meth c Q (pc + 1) ls (xJ (x_orL a b) :: st) M h cells slots) : x_Wt X ρ0 n0 (zL z) p l e R s m args below meth c Q (pc) ls (xJ b :: xJ a :: st) M h cells slots := by
  intro ρ lsC H locs S
  have k1 := kk ρ lsC H locs (S.pop.pop.push (v := xJ (x_orL a b)) (i64_of _))
  refine lv_lor hx.1 hx.2.1 d ?_
  have e : Int64.ofInt (x_orL a b) = Int64.ofInt a ||| Int64.ofInt b := by unfold x_orL; rw [Int64.ofInt_toInt]
  rw [← e]
  exact k1
theorem sn_lshl (hx : x_Cx X z p l R s m args meth c) {a b : Int} (d : decode (zB z) pc = .ok (.lshl, 1)) (kk : x_Wt X ρ0 n0 (zL z) p l e R s m args below meth c Q (pc + 1) ls (xJ (x_shlL a b) :: st) M h cells slots) : x_Wt X ρ0 n0 (zL z) p l e R s m args below meth c Q (pc) ls (xI b :: xJ a :: st) M h cells slots := by
  intro ρ lsC H locs S
  refine lv_lshl hx.1 hx.2.1 d (v := Int64.ofInt (x_shlL a b)) ?_ (kk ρ lsC H locs (S.pop.pop.push (v := xJ (x_shlL a b)) (i64_of _)))
  unfold x_shlL
  rw [Int64.ofInt_toInt]
theorem sn_dup_x1 (hx : x_Cx X z p l R s m args meth c) {v w : xV} (hv : x_cat v = 1) (hw : x_cat w = 1) (d : decode (zB z) pc = .ok (.dup_x1, 1)) (kk : x_Wt X ρ0 n0 (zL z) p l e R s m args below meth c Q (pc + 1) ls (v :: w :: v :: st) M h cells slots) : x_Wt X ρ0 n0 (zL z) p l e R s m args below meth c Q (pc) ls (v :: w :: st) M h cells slots := by
  intro ρ lsC H locs S
  exact lv_dup_x1 hx.1 hx.2.1 d (by rw [x_cat_c]; exact hv) (by rw [x_cat_c]; exact hw) (kk ρ lsC H locs ((S.pop.pop.push S.top).push S.pop.top |>.push S.top))
end SN
end
section
/-! the classes, by their numbers in vwCl -/
def x_cl : Nat → vw_C
  | 0 => (RX0, TX0, 3)
  | 1 => (RX1, TX1, 6)
  | 2 => (RX2, TX2, 2)
  | 3 => (RX3, TX3, 3)
  | 4 => (RX4, TX4, 13)
  | 5 => (RX5, TX5, 12)
  | 6 => (RX6, TX6, 10)
  | 7 => (RX7, TX7, 7)
  | 8 => (RJ0, TJ0, 4)
  | _ => (RJ4, TJ4, 4)
theorem xc_in0 : GoodIn x_tbl (u_ws RX0 TX0 3) := goodIn_r _ [292, 294, 296] (by decide +kernel) (by decide +kernel)
theorem xc_in1 : GoodIn x_tbl (u_ws RX1 TX1 6) := goodIn_r _ [603, 605, 607, 609, 611, 613] (by decide +kernel) (by decide +kernel)
theorem xc_in2 : GoodIn x_tbl (u_ws RX2 TX2 2) := goodIn_r _ [307, 309] (by decide +kernel) (by decide +kernel)
theorem xc_in3 : GoodIn x_tbl (u_ws RX3 TX3 3) := goodIn_r _ [273, 275, 277] (by decide +kernel) (by decide +kernel)
theorem xc_in4 : GoodIn x_tbl (u_ws RX4 TX4 13) := goodIn_r _ [138, 140, 142, 144, 146, 148, 150, 152, 154, 156, 158, 160, 162] (by decide +kernel) (by decide +kernel)
theorem xc_in5 : GoodIn x_tbl (u_ws RX5 TX5 12) := goodIn_r _ [180, 182, 184, 186, 188, 190, 192, 194, 196, 198, 200, 202] (by decide +kernel) (by decide +kernel)
theorem xc_in6 : GoodIn x_tbl (u_ws RX6 TX6 10) := goodIn_r _ [240, 242, 244, 246, 248, 250, 252, 254, 256, 258] (by decide +kernel) (by decide +kernel)
theorem xc_in7 : GoodIn x_tbl (u_ws RX7 TX7 7) := goodIn_r _ [319, 321, 323, 325, 327, 329, 331] (by decide +kernel) (by decide +kernel)
theorem xc_in8 : GoodIn x_tbl (u_ws RJ0 TJ0 4) := goodIn_r _ [1030, 1032, 1034, 1036] (by decide +kernel) (by decide +kernel)
theorem xc_in9 : GoodIn x_tbl (u_ws RJ4 TJ4 4) := goodIn_r _ [828, 830, 832, 834] (by decide +kernel) (by decide +kernel)
def x_clok (q : Nat) : Prop := vwCl[q]? = some (x_cl q) ∧ (∀ w ∈ u_ws (x_cl q).1 (x_cl q).2.1 (x_cl q).2.2, w ∈ x_tb) ∧ (∀ k, k < (x_cl q).2.2 → parseFieldDescriptor ((x_cl q).2.1 k).2.2.1 = some (x_ty q k)) ∧ (∀ a, a < (x_cl q).2.2 → ∀ b, b < (x_cl q).2.2 → a ≠ b → ((x_cl q).2.1 a).2.1 ≠ ((x_cl q).2.1 b).2.1) ∧ (x_cl q).2.2 = x_N q
theorem x_tb_of {ws : List Jvm.Cond} (h : GoodIn x_tbl ws) (hg : ws.all goodWord = true) : ∀ w ∈ ws, w ∈ x_tb := fun w hw => List.mem_filter.mpr ⟨(h w hw).1, List.all_eq_true.mp hg w hw⟩
theorem xc_ok : ∀ q, q < 10 → x_clok q
  | 0, _ => ⟨rfl, x_tb_of xc_in0 (by decide +kernel), tyX0_ok, nmX0, rfl⟩
  | 1, _ => ⟨rfl, x_tb_of xc_in1 (by decide +kernel), tyX1_ok, nmX1, rfl⟩
  | 2, _ => ⟨rfl, x_tb_of xc_in2 (by decide +kernel), tyX2_ok, nmX2, rfl⟩
  | 3, _ => ⟨rfl, x_tb_of xc_in3 (by decide +kernel), tyX3_ok, nmX3, rfl⟩
  | 4, _ => ⟨rfl, x_tb_of xc_in4 (by decide +kernel), tyX4_ok, nmX4, rfl⟩
  | 5, _ => ⟨rfl, x_tb_of xc_in5 (by decide +kernel), tyX5_ok, nmX5, rfl⟩
  | 6, _ => ⟨rfl, x_tb_of xc_in6 (by decide +kernel), tyX6_ok, nmX6, rfl⟩
  | 7, _ => ⟨rfl, x_tb_of xc_in7 (by decide +kernel), tyX7_ok, nmX7, rfl⟩
  | 8, _ => ⟨rfl, x_tb_of xc_in8 (by decide +kernel), tyJ0_ok, nmJ0, rfl⟩
  | 9, _ => ⟨rfl, x_tb_of xc_in9 (by decide +kernel), tyJ4_ok, nmJ4, rfl⟩
  | q + 10, h => absurd h (by omega)
end
section
theorem x_cell_obj {X : xX} {ρ : Nat → Nat} {M : xM} {h : xH} {a q : Nat} (hk : hK h a = q) (hq : q < 10) : x_cell X ρ M h a = .inr (q, (List.range (x_N q)).map fun i => x_fv ρ (x_ty q i) (M a i) (hP h a i)) := by
  unfold x_cell; subst hk; rw [if_pos hq]
theorem x_cell_i {X : xX} {ρ : Nat → Nat} {M : xM} {h : xH} {a q : Nat} (hk : hK h a = q) (hq : q = 20 ∨ q = 21) : x_cell X ρ M h a = .inl (XA X (q - 20), (hL h a).toNat, .inl fun j => Int32.ofInt (M a j)) := by
  unfold x_cell; subst hk; rw [if_neg (by omega), if_pos (by omega)]
theorem x_cell_l {X : xX} {ρ : Nat → Nat} {M : xM} {h : xH} {a : Nat} (hk : hK h a = 22) : x_cell X ρ M h a = .inl (XA X 0, (hL h a).toNat, .inl fun j => Int32.ofInt (M a j)) := by
  unfold x_cell; rw [hk, if_neg (by omega), if_neg (by omega), if_pos (by omega)]
theorem x_cell_r {X : xX} {ρ : Nat → Nat} {M : xM} {h : xH} {a q : Nat} (hk : hK h a = q) (hq : q = 23 ∨ q = 24) : x_cell X ρ M h a = .inl (XA X (q - 20), (hL h a).toNat, .inr (.inr (.inr (.inr fun j => x_rf ρ (hP h a j))))) := by
  unfold x_cell; subst hk; rw [if_neg (by omega), if_neg (by omega), if_neg (by omega)]
theorem x_mrs {α : Type} (f g : Nat → α) (N i : Nat) (v : α) (hi : i < N) (hv : g i = v) (ho : ∀ j, j ≠ i → g j = f j) : ((List.range N).map f).set i v = (List.range N).map g := by
  apply List.ext_getElem?
  intro k
  by_cases hk : k = i
  · subst hk
    rw [List.getElem?_set_self (by simp; omega), List.getElem?_map, List.getElem?_range hi, ← hv]
    rfl
  · rw [List.getElem?_set_ne (fun q => hk q.symm), List.getElem?_map, List.getElem?_map]
    cases hr : (List.range N)[k]? with
    | none => rfl
    | some j =>
      obtain ⟨w, hw⟩ := List.getElem?_eq_some_iff.mp hr
      rw [List.getElem_range] at hw
      subst hw
      show some _ = some _
      rw [ho k hk]
theorem x_ok.lt {M : xM} {h : xH} (k : x_ok M h) {a q : Nat} (hk : hK h a = q) (hq : q < 25) : 1 ≤ a ∧ a < hn h := k.2.1 a (by omega)
theorem x_ok.w {M : xM} {h : xH} (k : x_ok M h) (a : Nat) (i v : Int) (hv : hK h a < 25 → x_rng (hK h a) i v) : x_ok (x_w M a i v) h := by
  obtain ⟨k1, k2, k3, k4, k5, k6⟩ := k
  refine ⟨k1, k2, k3, k4, fun id j hk => ?_, k6⟩
  unfold x_w
  by_cases hj : id = a ∧ j = i
  · rw [if_pos hj]
    obtain ⟨rfl, rfl⟩ := hj
    exact hv hk
  · rw [if_neg hj]
    exact k5 id j hk
theorem x_ok.pw {M : xM} {h : xH} (k : x_ok M h) (a : Nat) (i : Int) (r : Nat) (hr : r < hn h) : x_ok M (x_pw h a i r) := by
  obtain ⟨k1, k2, k3, k4, k5, k6⟩ := k
  refine ⟨k1, k2, k3, k4, k5, fun id j => ?_⟩
  show (if id = a ∧ j = i then r else hP h id j) < hn h
  split
  · exact hr
  · exact k6 id j
theorem x_w_o {X : xX} {ρ : Nat → Nat} {M : xM} {h : xH} {a : Nat} {i v : Int} (q : Nat) (hq : q ≠ a) : x_cell X ρ (x_w M a i v) h q = x_cell X ρ M h q := by
  have : ∀ j, x_w M a i v q j = M q j := fun j => if_neg (fun z => hq z.1)
  unfold x_cell
  simp only [this]
theorem x_pw_o {X : xX} {ρ : Nat → Nat} {M : xM} {h : xH} {a r : Nat} {i : Int} (q : Nat) (hq : q ≠ a) : x_cell X ρ M (x_pw h a i r) q = x_cell X ρ M h q := by
  have : ∀ j, hP (x_pw h a i r) q j = hP h q j := fun j => if_neg (fun z => hq z.1)
  unfold x_cell
  simp only [this]
  rfl
theorem x_vk.same {h h' : xH} (hn' : hn h' = hn h) {v : xV} (k : x_vk h v) : x_vk h' v := by
  rcases v with x | x | r | a | i
  · exact k
  · exact k
  · show r < hn h'
    rw [hn']
    exact k
  · exact k
  · exact k
/-- the same point over another memory of the same size -/
theorem x_St.mem {X : xX} {ρ0 : Nat → Nat} {n0 nL : Nat} {s : State} {ρ : Nat → Nat} {lsC : Array Slot} {H H1 : Heap} {locs locs1 : List Loc} {ls : xL} {st : List xV} {M M' : xM} {h h' : xH} (S : x_St X ρ0 n0 nL s ρ lsC H locs ls st M h) (hh : hn h' = hn h) (P : va_P (XD X) vwCl (x_ws X ρ M' h') H1) (D : va_D (x_A X) (x_ws X ρ M' h')) (K : x_ok M' h') (hS : va_S (x_A X) s.heap H1 locs1) : x_St X ρ0 n0 nL s ρ lsC H1 locs1 ls st M' h' :=
  ⟨⟨S.1.1, S.1.2.1, fun i v hi => ⟨(S.loc hi).1, (S.loc hi).2.same hh⟩⟩, fun v hv => (S.2.1 v hv).same hh, ⟨P, D, K⟩, hS, S.2.2.2.2.1, by rw [hh]; exact S.2.2.2.2.2⟩
theorem rng_i {q : Nat} {i v : Int} (hl : x_isl q i = false) (hv : x_i32 v) : x_rng q i v := by unfold x_rng; rw [if_neg (by rw [hl]; decide)]; exact hv
theorem rng_l {q : Nat} {i v : Int} (hl : x_isl q i = true) (hv : x_i64 v) : x_rng q i v := by unfold x_rng; rw [if_pos hl]; exact hv
theorem rng_i' {q : Nat} {i v : Int} (hl : x_isl q i = false) (hv : x_rng q i v) : x_i32 v := by unfold x_rng at hv; rw [if_neg (by rw [hl]; decide)] at hv; exact hv
theorem rng_l' {q : Nat} {i v : Int} (hl : x_isl q i = true) (hv : x_rng q i v) : x_i64 v := by unfold x_rng at hv; rw [if_pos hl] at hv; exact hv
section SM
variable {X : xX} {ρ0 : Nat → Nat} {n0 : Nat} {z : xMD} {p : Program} {l : Launch} {e : Env} {R : Room} {s : State} {m : MethodId} {args : Array Value} {below : List Frame} {meth : Method} {c : Code} {Q : State → Prop}
variable {pc cells slots : Nat} {ls : xL} {st : List xV} {M : xM} {h : xH}
theorem x_Cx.K (hx : x_Cx X z p l R s m args meth c) : va_K (XD X) vwCl (x_tys X) s := hx.2.2.2.2.2.2.2.2.2.2.2.1
theorem x_Cx.B (hx : x_Cx X z p l R s m args meth c) : XB X ≤ s.heap.size := hx.2.2.2.2.2.2.2.2.2.2.2.2.2
theorem x_Cx.O (hx : x_Cx X z p l R s m args meth c) : x_O X s s.heap := hx.2.2.2.2.2.2.2.2.2.2.2.2.1
theorem x_Cx.hts (hx : x_Cx X z p l R s m args meth c) : ∀ w ∈ x_tb, w.before args s = true := hx.2.2.2.2.1
theorem x_Cx.own (hx : x_Cx X z p l R s m args meth c) : s.vm.findClass (zN z).cls = some m.cls := hx.2.2.2.1
theorem sn_getf (hx : x_Cx X z p l R s m args meth c) {q i idx a : Nat} (hq : q < 10) (hi : i < x_N q) (hw : (Jvm.Cond.fieldLink (zN z).cls idx ((x_cl q).2.1 i).1 ((x_cl q).2.1 i).2.1 ((x_cl q).2.1 i).2.2.1).before args s = true) (d : decode (zB z) pc = .ok (.getfield idx, 3)) (hk : hK h a = q) {v : xV} (hv : ∀ ρ, x_c X ρ v = x_fv ρ (x_ty q i) (M a i) (hP h a i)) (hvk : x_ok M h → x_vk h v) (kk : x_Wt X ρ0 n0 (zL z) p l e R s m args below meth c Q (pc + 3) ls (v :: st) M h cells slots) : x_Wt X ρ0 n0 (zL z) p l e R s m args below meth c Q (pc) ls (xA a :: st) M h cells slots := by
  intro ρ lsC H locs S
  obtain ⟨c1, c2, c3, c4, c5⟩ := xc_ok q hq
  have ok := S.2.2.1.2.2
  obtain ⟨a1, a2⟩ := ok.lt hk (by omega)
  have he := x_ws_get (X := X) (ρ := ρ) (M := M) a1 a2
  rw [x_cell_obj hk hq] at he
  show W p l e R s m args below meth c H locs cells slots Q (F0 m pc lsC (va_rf (x_rf ρ a) :: st.map (x_c X ρ)))
  rw [x_rf_s (show a ≠ 0 by omega)]
  exact va_get (v := x_c X ρ v) (ref := ((x_cl q).2.1 i).1) hx.1 hx.2.1 hx.hts c2 hx.own hx.K S.2.2.1.1 (a - 1) he c1 i (by rw [c5]; exact hi) hw (fun x hx => hx) (by rw [List.getElem?_map, List.getElem?_range hi, hv]; rfl) d (kk ρ lsC H locs (S.pop.push (hvk ok)))
theorem sn_putf (hx : x_Cx X z p l R s m args meth c) {q i idx a : Nat} (hq : q < 10) (hi : i < x_N q) (hw : (Jvm.Cond.fieldLink (zN z).cls idx ((x_cl q).2.1 i).1 ((x_cl q).2.1 i).2.1 ((x_cl q).2.1 i).2.2.1).before args s = true) (hf : ((x_cl q).2.1 i).2.2.2 = false) (d : decode (zB z) pc = .ok (.putfield idx, 3)) (hk : hK h a = q) {v : xV} {M' : xM} {h' : xH} (hh : hn h' = hn h) (hkk : hK h' a = q)
    (hfn : ∀ ρ, x_c X ρ v = x_fv ρ (x_ty q i) (M' a i) (hP h' a i) ∧ narrow (x_ty q i) (x_c X ρ v) = x_c X ρ v ∧ fits (x_ty q i) (x_c X ρ v) = true) (ho : ∀ (ρ : Nat → Nat) (j : Nat), j ≠ i → x_fv ρ (x_ty q j) (M' a j) (hP h' a j) = x_fv ρ (x_ty q j) (M a j) (hP h a j)) (hc : ∀ (ρ : Nat → Nat) (b : Nat), b ≠ a → x_cell X ρ M' h' b = x_cell X ρ M h b) (hok : x_ok M h → x_vk h v → x_ok M' h')
    (kk : x_Wt X ρ0 n0 (zL z) p l e R s m args below meth c Q (pc + 3) ls st M' h' cells slots) : x_Wt X ρ0 n0 (zL z) p l e R s m args below meth c Q (pc) ls (v :: xA a :: st) M h cells slots := by
  intro ρ lsC H locs S
  obtain ⟨c1, c2, c3, c4, c5⟩ := xc_ok q hq
  have ok := S.2.2.1.2.2
  obtain ⟨a1, a2⟩ := ok.lt hk (by omega)
  have he := x_ws_get (X := X) (ρ := ρ) (M := M) a1 a2
  rw [x_cell_obj hk hq] at he
  obtain ⟨f1, f2, f3⟩ := hfn ρ
  show W p l e R s m args below meth c H locs cells slots Q (F0 m pc lsC (x_c X ρ v :: va_rf (x_rf ρ a) :: st.map (x_c X ρ)))
  rw [x_rf_s (show a ≠ 0 by omega)]
  refine va_put (ref := ((x_cl q).2.1 i).1) (ty := x_ty q i) hx.1 hx.2.1 hx.hts c2 (x_ty q) c3 c4 hx.own hx.K S.2.2.1.1 S.2.2.1.2.1 S.2.2.2.1 (a - 1) he c1 i (by rw [c5]; exact hi) hw (fun x hx => hx) hf (c3 i (by rw [c5]; exact hi)) f2 f3 (by simp; exact hi) d (fun H1 locs1 P1 D1 S1 => ?_)
  have e1 : (x_ws X ρ M h).set (a - 1) (ρ a, .inr (q, ((List.range (x_N q)).map fun i => x_fv ρ (x_ty q i) (M a i) (hP h a i)).set i (x_c X ρ v))) = x_ws X ρ M' h' :=
    x_ws_set a1 a2 hh (hc ρ) (by rw [x_cell_obj hkk hq, x_mrs _ (fun i => x_fv ρ (x_ty q i) (M' a i) (hP h' a i)) _ _ _ hi f1.symm (ho ρ)])
  rw [e1] at P1 D1
  exact kk ρ lsC H1 locs1 (S.pop.pop.mem hh P1 D1 (hok ok S.top) S1)
theorem sn_putfF (hx : x_Cx X z p l R s m args meth c) {q i idx a : Nat} (hq : q < 10) (hi : i < x_N q) (hw : (Jvm.Cond.fieldLink (zN z).cls idx ((x_cl q).2.1 i).1 ((x_cl q).2.1 i).2.1 ((x_cl q).2.1 i).2.2.1).before args s = true) (hf : ((x_cl q).2.1 i).2.2.2 = true) (hin : (zN z).name = "<init>") (hdc : ((x_cl q).2.1 i).1 = (zN z).cls) (d : decode (zB z) pc = .ok (.putfield idx, 3)) (hk : hK h a = q) {v : xV} {M' : xM} {h' : xH} (hh : hn h' = hn h) (hkk : hK h' a = q)
    (hfn : ∀ ρ, x_c X ρ v = x_fv ρ (x_ty q i) (M' a i) (hP h' a i) ∧ narrow (x_ty q i) (x_c X ρ v) = x_c X ρ v ∧ fits (x_ty q i) (x_c X ρ v) = true) (ho : ∀ (ρ : Nat → Nat) (j : Nat), j ≠ i → x_fv ρ (x_ty q j) (M' a j) (hP h' a j) = x_fv ρ (x_ty q j) (M a j) (hP h a j)) (hc : ∀ (ρ : Nat → Nat) (b : Nat), b ≠ a → x_cell X ρ M' h' b = x_cell X ρ M h b) (hok : x_ok M h → x_vk h v → x_ok M' h')
    (kk : x_Wt X ρ0 n0 (zL z) p l e R s m args below meth c Q (pc + 3) ls st M' h' cells slots) : x_Wt X ρ0 n0 (zL z) p l e R s m args below meth c Q (pc) ls (v :: xA a :: st) M h cells slots := by
  intro ρ lsC H locs S
  obtain ⟨c1, c2, c3, c4, c5⟩ := xc_ok q hq
  have ok := S.2.2.1.2.2
  obtain ⟨a1, a2⟩ := ok.lt hk (by omega)
  have he := x_ws_get (X := X) (ρ := ρ) (M := M) a1 a2
  rw [x_cell_obj hk hq] at he
  obtain ⟨f1, f2, f3⟩ := hfn ρ
  show W p l e R s m args below meth c H locs cells slots Q (F0 m pc lsC (x_c X ρ v :: va_rf (x_rf ρ a) :: st.map (x_c X ρ)))
  rw [x_rf_s (show a ≠ 0 by omega)]
  refine va_putF (ref := ((x_cl q).2.1 i).1) (ty := x_ty q i) hx.1 hx.2.1 hx.hts c2 (x_ty q) c3 c4 hx.own hx.K S.2.2.1.1 S.2.2.1.2.1 S.2.2.2.1 (a - 1) he c1 i (by rw [c5]; exact hi) hw (fun x hx => hx) hf (hx.2.2.2.2.2.2.2.2.2.2.1.trans hin) hdc (c3 i (by rw [c5]; exact hi)) f2 f3 (by simp; exact hi) d (fun H1 locs1 P1 D1 S1 => ?_)
  have e1 : (x_ws X ρ M h).set (a - 1) (ρ a, .inr (q, ((List.range (x_N q)).map fun i => x_fv ρ (x_ty q i) (M a i) (hP h a i)).set i (x_c X ρ v))) = x_ws X ρ M' h' :=
    x_ws_set a1 a2 hh (hc ρ) (by rw [x_cell_obj hkk hq, x_mrs _ (fun i => x_fv ρ (x_ty q i) (M' a i) (hP h' a i)) _ _ _ hi f1.symm (ho ρ)])
  rw [e1] at P1 D1
  exact kk ρ lsC H1 locs1 (S.pop.pop.mem hh P1 D1 (hok ok S.top) S1)
theorem sn_iaload (hx : x_Cx X z p l R s m args meth c) {i : Int} {a : Nat} (d : decode (zB z) pc = .ok (.iaload, 1)) (hk : hK h a = 20) (hi : 0 ≤ i ∧ i < hL h a) (kk : x_Wt X ρ0 n0 (zL z) p l e R s m args below meth c Q (pc + 1) ls (xI (M a i) :: st) M h cells slots) : x_Wt X ρ0 n0 (zL z) p l e R s m args below meth c Q (pc) ls (xI i :: xA a :: st) M h cells slots := by
  intro ρ lsC H locs S
  have ok := S.2.2.1.2.2
  obtain ⟨a1, a2⟩ := ok.lt hk (by omega)
  have he := x_ws_get (X := X) (ρ := ρ) (M := M) a1 a2
  rw [x_cell_i hk (Or.inl rfl)] at he
  show W p l e R s m args below meth c H locs cells slots Q (F0 m pc lsC (.int (Int32.ofInt i) :: va_rf (x_rf ρ a) :: st.map (x_c X ρ)))
  rw [x_rf_s (show a ≠ 0 by omega)]
  refine va_iald hx.1 hx.2.1 hx.K S.2.2.1.1 (a - 1) 0 he rfl (i32_vin S.top hi.1 hi.2) d ?_
  rw [i32_cl S.top]
  have k1 := kk ρ lsC H locs (S.pop.pop.push (v := xI (M a i)) (rng_i' (q := 20) rfl (by have := ok.2.2.2.2.1 a i (by omega); rw [hk] at this; exact this)))
  have e1 : ((i.toNat : Nat) : Int) = i := Int.toNat_of_nonneg hi.1
  rw [e1]
  exact k1
theorem sn_baload (hx : x_Cx X z p l R s m args meth c) {i : Int} {a : Nat} (d : decode (zB z) pc = .ok (.baload, 1)) (hk : hK h a = 21) (hi : 0 ≤ i ∧ i < hL h a) (kk : x_Wt X ρ0 n0 (zL z) p l e R s m args below meth c Q (pc + 1) ls (xI (M a i) :: st) M h cells slots) : x_Wt X ρ0 n0 (zL z) p l e R s m args below meth c Q (pc) ls (xI i :: xA a :: st) M h cells slots := by
  intro ρ lsC H locs S
  have ok := S.2.2.1.2.2
  obtain ⟨a1, a2⟩ := ok.lt hk (by omega)
  have he := x_ws_get (X := X) (ρ := ρ) (M := M) a1 a2
  rw [x_cell_i hk (Or.inr rfl)] at he
  show W p l e R s m args below meth c H locs cells slots Q (F0 m pc lsC (.int (Int32.ofInt i) :: va_rf (x_rf ρ a) :: st.map (x_c X ρ)))
  rw [x_rf_s (show a ≠ 0 by omega)]
  refine va_bald hx.1 hx.2.1 hx.K S.2.2.1.1 (a - 1) 1 he rfl (i32_vin S.top hi.1 hi.2) d ?_
  rw [i32_cl S.top]
  have k1 := kk ρ lsC H locs (S.pop.pop.push (v := xI (M a i)) (rng_i' (q := 21) rfl (by have := ok.2.2.2.2.1 a i (by omega); rw [hk] at this; exact this)))
  have e1 : ((i.toNat : Nat) : Int) = i := Int.toNat_of_nonneg hi.1
  rw [e1]
  exact k1
theorem sn_aaload23 (hx : x_Cx X z p l R s m args meth c) {i : Int} {a : Nat} (d : decode (zB z) pc = .ok (.aaload, 1)) (hk : hK h a = 23) (hi : 0 ≤ i ∧ i < hL h a) (kk : x_Wt X ρ0 n0 (zL z) p l e R s m args below meth c Q (pc + 1) ls (xA (hP h a i) :: st) M h cells slots) : x_Wt X ρ0 n0 (zL z) p l e R s m args below meth c Q (pc) ls (xI i :: xA a :: st) M h cells slots := by
  intro ρ lsC H locs S
  have ok := S.2.2.1.2.2
  obtain ⟨a1, a2⟩ := ok.lt hk (by omega)
  have he := x_ws_get (X := X) (ρ := ρ) (M := M) a1 a2
  rw [x_cell_r hk (by omega)] at he
  show W p l e R s m args below meth c H locs cells slots Q (F0 m pc lsC (.int (Int32.ofInt i) :: va_rf (x_rf ρ a) :: st.map (x_c X ρ)))
  rw [x_rf_s (show a ≠ 0 by omega)]
  refine va_aldq hx.1 hx.2.1 hx.K S.2.2.1.1 (a - 1) 3 he rfl (i32_vin S.top hi.1 hi.2) d ?_
  rw [i32_cl S.top]
  have k1 := kk ρ lsC H locs (S.pop.pop.push (v := xA (hP h a i)) (ok.2.2.2.2.2 a i))
  have e1 : ((i.toNat : Nat) : Int) = i := Int.toNat_of_nonneg hi.1
  rw [e1]
  exact k1
theorem sn_aaload24 (hx : x_Cx X z p l R s m args meth c) {i : Int} {a : Nat} (d : decode (zB z) pc = .ok (.aaload, 1)) (hk : hK h a = 24) (hi : 0 ≤ i ∧ i < hL h a) (kk : x_Wt X ρ0 n0 (zL z) p l e R s m args below meth c Q (pc + 1) ls (xA (hP h a i) :: st) M h cells slots) : x_Wt X ρ0 n0 (zL z) p l e R s m args below meth c Q (pc) ls (xI i :: xA a :: st) M h cells slots := by
  intro ρ lsC H locs S
  have ok := S.2.2.1.2.2
  obtain ⟨a1, a2⟩ := ok.lt hk (by omega)
  have he := x_ws_get (X := X) (ρ := ρ) (M := M) a1 a2
  rw [x_cell_r hk (by omega)] at he
  show W p l e R s m args below meth c H locs cells slots Q (F0 m pc lsC (.int (Int32.ofInt i) :: va_rf (x_rf ρ a) :: st.map (x_c X ρ)))
  rw [x_rf_s (show a ≠ 0 by omega)]
  refine va_aldq hx.1 hx.2.1 hx.K S.2.2.1.1 (a - 1) 4 he rfl (i32_vin S.top hi.1 hi.2) d ?_
  rw [i32_cl S.top]
  have k1 := kk ρ lsC H locs (S.pop.pop.push (v := xA (hP h a i)) (ok.2.2.2.2.2 a i))
  have e1 : ((i.toNat : Nat) : Int) = i := Int.toNat_of_nonneg hi.1
  rw [e1]
  exact k1
theorem sn_iastore (hx : x_Cx X z p l R s m args meth c) {i v : Int} {a : Nat} (d : decode (zB z) pc = .ok (.iastore, 1)) (hk : hK h a = 20) (hi : 0 ≤ i ∧ i < hL h a) (kk : x_Wt X ρ0 n0 (zL z) p l e R s m args below meth c Q (pc + 1) ls st (x_w M a i v) h cells slots) : x_Wt X ρ0 n0 (zL z) p l e R s m args below meth c Q (pc) ls (xI v :: xI i :: xA a :: st) M h cells slots := by
  intro ρ lsC H locs S
  have ok := S.2.2.1.2.2
  obtain ⟨a1, a2⟩ := ok.lt hk (by omega)
  have he := x_ws_get (X := X) (ρ := ρ) (M := M) a1 a2
  rw [x_cell_i hk (Or.inl rfl)] at he
  show W p l e R s m args below meth c H locs cells slots Q (F0 m pc lsC (.int (Int32.ofInt v) :: .int (Int32.ofInt i) :: va_rf (x_rf ρ a) :: st.map (x_c X ρ)))
  rw [x_rf_s (show a ≠ 0 by omega)]
  refine va_iast hx.1 hx.2.1 hx.K S.2.2.1.1 S.2.2.1.2.1 S.2.2.2.1 (a - 1) 0 he rfl (i32_vin S.pop.top hi.1 hi.2) d (fun H1 locs1 P1 D1 S1 => ?_)
  rw [i32_cl S.pop.top] at P1 D1
  have e1 : (x_ws X ρ M h).set (a - 1) (ρ a, .inl (XA X (20 - 20), (hL h a).toNat, .inl (upd (fun j : Nat => Int32.ofInt (M a j)) i.toNat (Int32.ofInt v)))) = x_ws X ρ (x_w M a i v) h :=
    x_ws_set a1 a2 rfl (fun b hb => x_w_o b hb) (by
      rw [x_cell_i hk (Or.inl rfl)]
      congr 4
      funext j
      unfold x_w upd
      by_cases hj : j = i.toNat
      · rw [if_pos hj, if_pos ⟨rfl, by omega⟩]
      · rw [if_neg hj, if_neg (by omega)])
  rw [e1] at P1 D1
  exact kk ρ lsC H1 locs1 (S.pop.pop.pop.mem rfl P1 D1 (ok.w a i v (fun _ => by rw [hk]; exact rng_i rfl S.top)) S1)
theorem sn_bastore (hx : x_Cx X z p l R s m args meth c) {i v : Int} {a : Nat} (d : decode (zB z) pc = .ok (.bastore, 1)) (hk : hK h a = 21) (hi : 0 ≤ i ∧ i < hL h a) (kk : x_Wt X ρ0 n0 (zL z) p l e R s m args below meth c Q (pc + 1) ls st (x_w M a i (w8 v)) h cells slots) : x_Wt X ρ0 n0 (zL z) p l e R s m args below meth c Q (pc) ls (xI v :: xI i :: xA a :: st) M h cells slots := by
  intro ρ lsC H locs S
  have ok := S.2.2.1.2.2
  obtain ⟨a1, a2⟩ := ok.lt hk (by omega)
  have he := x_ws_get (X := X) (ρ := ρ) (M := M) a1 a2
  rw [x_cell_i hk (Or.inr rfl)] at he
  show W p l e R s m args below meth c H locs cells slots Q (F0 m pc lsC (.int (Int32.ofInt v) :: .int (Int32.ofInt i) :: va_rf (x_rf ρ a) :: st.map (x_c X ρ)))
  rw [x_rf_s (show a ≠ 0 by omega)]
  refine va_bast hx.1 hx.2.1 hx.K S.2.2.1.1 S.2.2.1.2.1 S.2.2.2.1 (a - 1) 1 he rfl (i32_vin S.pop.top hi.1 hi.2) d (fun H1 locs1 P1 D1 S1 => ?_)
  rw [i32_cl S.pop.top] at P1 D1
  have e1 : (x_ws X ρ M h).set (a - 1) (ρ a, .inl (XA X (21 - 20), (hL h a).toNat, .inl (upd (fun j : Nat => Int32.ofInt (M a j)) i.toNat (vp_nar .byte (Int32.ofInt v))))) = x_ws X ρ (x_w M a i (w8 v)) h :=
    x_ws_set a1 a2 rfl (fun b hb => x_w_o b hb) (by
      rw [x_cell_i hk (Or.inr rfl)]
      congr 4
      funext j
      unfold x_w upd
      by_cases hj : j = i.toNat
      · rw [if_pos hj, if_pos ⟨rfl, by omega⟩]
        rw [vp_nar_byte]; exact (Int32.toInt_inj.mp (by rw [i32_to (w8_in v), Int8.toInt_toInt32, Int32.toInt8_ofInt, Int8.toInt_ofInt]; rfl)).symm
      · rw [if_neg hj, if_neg (by omega)])
  rw [e1] at P1 D1
  exact kk ρ lsC H1 locs1 (S.pop.pop.pop.mem rfl P1 D1 (ok.w a i (w8 v) (fun _ => by rw [hk]; exact rng_i rfl (w8_in v))) S1)
end SM
end
section
def x_ru (ρ : Nat → Nat) (n q : Nat) : Nat → Nat := fun id => if id = n then q else ρ id
theorem x_ru_o {ρ : Nat → Nat} {n q r : Nat} (h : r < n) : x_ru ρ n q r = ρ r := if_neg (by omega)
theorem x_rf_u {ρ : Nat → Nat} {n q r : Nat} (h : r < n) : x_rf (x_ru ρ n q) r = x_rf ρ r := by
  unfold x_rf
  split
  · rfl
  · rw [x_ru_o h]
theorem x_c_u {X : xX} {ρ : Nat → Nat} {h : xH} {q : Nat} {v : xV} (hv : x_vk h v) : x_c X (x_ru ρ (hn h) q) v = x_c X ρ v := by
  rcases v with x | x | r | a | i
  · rfl
  · rfl
  · show va_rf (x_rf _ r) = va_rf (x_rf ρ r)
    rw [x_rf_u hv]
  · rfl
  · rfl
theorem x_fv_u {ρ : Nat → Nat} {n q : Nat} {t : FieldType} {v : Int} {r : Nat} (h : r < n) : x_fv (x_ru ρ n q) t v r = x_fv ρ t v r := by
  cases t <;> first | rfl | (show va_rf (x_rf _ r) = va_rf (x_rf ρ r); rw [x_rf_u h])
theorem x_cell_u {X : xX} {ρ : Nat → Nat} {M : xM} {h : xH} {k q : Nat} {len : Int} (ok : x_ok M h) {id : Nat} (hid : id < hn h) : x_cell X (x_ru ρ (hn h) q) (x_z M h) (x_new h k len) id = x_cell X ρ M h id := by
  have e : id ≠ hn h := by omega
  have eK : hK (x_new h k len) id = hK h id := if_neg e
  have eL : hL (x_new h k len) id = hL h id := if_neg e
  have eP : ∀ j, hP (x_new h k len) id j = hP h id j := fun j => if_neg e
  have eM : ∀ j, x_z M h id j = M id j := fun j => if_neg e
  unfold x_cell
  simp only [eK, eL, eP, eM, x_fv_u (ok.2.2.2.2.2 id _), x_rf_u (ok.2.2.2.2.2 id _)]
theorem x_ok.new {M : xM} {h : xH} (ok : x_ok M h) {k : Nat} {len : Int} (hk : k < 10 ∨ (20 ≤ k ∧ k < 25)) (hl : 0 ≤ len ∧ len < 2147483648) : x_ok (x_z M h) (x_new h k len) := by
  obtain ⟨k1, k2, k3, k4, k5, k6⟩ := ok
  refine ⟨Nat.le_add_left _ _, fun id hid => ?_, fun id a b => ?_, fun id => ?_, fun id i hid => ?_, fun id i => ?_⟩
  · show 1 ≤ id ∧ id < hn h + 1
    have hid' : (if id = hn h then k else hK h id) < 25 := hid
    by_cases e : id = hn h
    · omega
    · rw [if_neg e] at hid'
      have := k2 id hid'
      omega
  · show (if id = hn h then k else hK h id) < 10 ∨ (20 ≤ (if id = hn h then k else hK h id) ∧ (if id = hn h then k else hK h id) < 25)
    have b' : id < hn h + 1 := b
    by_cases e : id = hn h
    · rw [if_pos e]; exact hk
    · rw [if_neg e]; exact k3 id a (by omega)
  · show 0 ≤ (if id = hn h then len else hL h id) ∧ (if id = hn h then len else hL h id) < 2147483648
    by_cases e : id = hn h
    · rw [if_pos e]; exact hl
    · rw [if_neg e]; exact k4 id
  · show x_rng (if id = hn h then k else hK h id) i (if id = hn h then 0 else M id i)
    have hid' : (if id = hn h then k else hK h id) < 25 := hid
    by_cases e : id = hn h
    · rw [if_pos e, if_pos e]
      unfold x_rng x_i64 x_i32
      split <;> omega
    · rw [if_neg e] at hid'
      rw [if_neg e, if_neg e]
      exact k5 id i hid'
  · show (if id = hn h then 0 else hP h id i) < hn h + 1
    have := k6 id i
    split <;> omega
theorem x_map_u {X : xX} {ρ : Nat → Nat} {h : xH} {q : Nat} {st : List xV} (hs : ∀ v ∈ st, x_vk h v) : st.map (x_c X (x_ru ρ (hn h) q)) = st.map (x_c X ρ) := List.map_congr_left fun v hv => x_c_u (hs v hv)
theorem x_vk.grow {h h' : xH} (hh : hn h ≤ hn h') {v : xV} (k : x_vk h v) : x_vk h' v := by
  rcases v with x | x | r | a | i
  · exact k
  · exact k
  · exact Nat.lt_of_lt_of_le k hh
  · exact k
  · exact k
/-- the same point behind a new object -/
theorem x_St.fresh {X : xX} {ρ0 : Nat → Nat} {n0 nL : Nat} {s : State} {ρ : Nat → Nat} {lsC : Array Slot} {H H1 : Heap} {locs locs1 : List Loc} {ls : xL} {st : List xV} {M : xM} {h : xH} {k q : Nat} {len : Int} {e : va_E} (S : x_St X ρ0 n0 nL s ρ lsC H locs ls st M h) (hk : k < 10 ∨ (20 ≤ k ∧ k < 25)) (hl : 0 ≤ len ∧ len < 2147483648)
    (he : x_cell X (x_ru ρ (hn h) q) (x_z M h) (x_new h k len) (hn h) = e) (P : va_P (XD X) vwCl (x_ws X ρ M h ++ [(q, e)]) H1) (D : va_D (x_A X) (x_ws X ρ M h ++ [(q, e)])) (hS : va_S (x_A X) s.heap H1 locs1) : x_St X ρ0 n0 nL s (x_ru ρ (hn h) q) lsC H1 locs1 ls (xA (hn h) :: st) (x_z M h) (x_new h k len) := by
  have ok := S.2.2.1.2.2
  have e1 : x_ws X ρ M h ++ [(q, e)] = x_ws X (x_ru ρ (hn h) q) (x_z M h) (x_new h k len) := x_ws_new ok.1 rfl (fun id hid => ⟨x_ru_o hid, x_cell_u ok hid⟩) (if_pos rfl) he
  rw [e1] at P D
  refine ⟨⟨S.1.1, S.1.2.1, fun i v hi => ⟨by rw [x_c_u (S.loc hi).2]; exact (S.loc hi).1, (S.loc hi).2.grow (Nat.le_succ _)⟩⟩, fun v hv => ?_, ⟨P, D, ok.new hk hl⟩, hS, fun id hid => ?_, Nat.le_trans S.2.2.2.2.2 (Nat.le_succ _)⟩
  · rcases List.mem_cons.mp hv with rfl | hv
    · exact Nat.lt_succ_self _
    · exact (S.2.1 v hv).grow (Nat.le_succ _)
  · rw [x_ru_o (Nat.lt_of_lt_of_le hid S.2.2.2.2.2)]
    exact S.2.2.2.2.1 id hid
def x_tok (t : FieldType) : Bool := match t with
  | .int => true
  | .long => true
  | .byte => true
  | .boolean => true
  | .object _ => true
  | .array _ => true
  | _ => false
theorem x_tok_ok : ∀ q, q < 10 → ∀ j, j < x_N q → x_tok (x_ty q j) = true := by decide +kernel
theorem x_fv_0 {ρ : Nat → Nat} {t : FieldType} (h : x_tok t = true) : x_fv ρ t 0 0 = defaultValue t := by
  cases t <;> first | rfl | (simp [x_tok] at h)
theorem x_cell_n {X : xX} {ρ : Nat → Nat} {M : xM} {h : xH} {k : Nat} {len : Int} : hK (x_new h k len) (hn h) = k ∧ hL (x_new h k len) (hn h) = len ∧ (∀ j, hP (x_new h k len) (hn h) j = 0) ∧ ∀ j, x_z M h (hn h) j = 0 := ⟨if_pos rfl, if_pos rfl, fun _ => if_pos rfl, fun _ => if_pos rfl⟩
section SM2
variable {X : xX} {ρ0 : Nat → Nat} {n0 : Nat} {z : xMD} {p : Program} {l : Launch} {e : Env} {R : Room} {s : State} {m : MethodId} {args : Array Value} {below : List Frame} {meth : Method} {c : Code} {Q : State → Prop}
variable {pc cells slots : Nat} {ls : xL} {st : List xV} {M : xM} {h : xH}
theorem x_Cx.rm (hx : x_Cx X z p l R s m args meth c) : R = x_rm z := hx.2.2.2.2.2.2.2.2.2.1
theorem sn_aastore23 (hx : x_Cx X z p l R s m args meth c) {i : Int} {a r : Nat} (d : decode (zB z) pc = .ok (.aastore, 1)) (hk : hK h a = 23) (hr : r = 0 ∨ hK h r = 1) (hi : 0 ≤ i ∧ i < hL h a) (kk : x_Wt X ρ0 n0 (zL z) p l e R s m args below meth c Q (pc + 1) ls st M (x_pw h a i r) cells slots) : x_Wt X ρ0 n0 (zL z) p l e R s m args below meth c Q (pc) ls (xA r :: xI i :: xA a :: st) M h cells slots := by
  intro ρ lsC H locs S
  have ok := S.2.2.1.2.2
  obtain ⟨a1, a2⟩ := ok.lt hk (by omega)
  have he := x_ws_get (X := X) (ρ := ρ) (M := M) a1 a2
  rw [x_cell_r hk (by omega)] at he
  have hr2 : r < hn h := S.top
  have e1 : (x_ws X ρ M h).set (a - 1) (ρ a, .inl (XA X (23 - 20), (hL h a).toNat, .inr (.inr (.inr (.inr (va_up (fun j : Nat => x_rf ρ (hP h a j)) i.toNat (x_rf ρ r))))))) = x_ws X ρ M (x_pw h a i r) :=
    x_ws_set a1 a2 rfl (fun b hb => x_pw_o b hb) (by
      rw [x_cell_r (h := x_pw h a i r) (q := 23) hk (by omega)]
      show Sum.inl (XA X (23 - 20), (hL h a).toNat, _) = _
      congr 8
      funext j
      show x_rf ρ (if a = a ∧ (j : Int) = i then r else hP h a j) = va_up _ i.toNat (x_rf ρ r) j
      unfold va_up
      by_cases hj : j = i.toNat
      · rw [if_pos hj, if_pos ⟨rfl, by omega⟩]
      · rw [if_neg hj, if_neg (by omega)])
  show W p l e R s m args below meth c H locs cells slots Q (F0 m pc lsC (va_rf (x_rf ρ r) :: .int (Int32.ofInt i) :: va_rf (x_rf ρ a) :: st.map (x_c X ρ)))
  rw [x_rf_s (show a ≠ 0 by omega)]
  by_cases hr0 : r = 0
  · subst hr0
    refine va_astqN hx.1 hx.2.1 hx.K S.2.2.1.1 S.2.2.1.2.1 S.2.2.2.1 (a - 1) 3 he rfl (i32_vin S.pop.top hi.1 hi.2) d (fun H1 locs1 P1 D1 S1 => ?_)
    rw [i32_cl S.pop.top] at P1 D1
    have e1' := e1
    rw [x_rf_0] at e1'
    rw [e1'] at P1 D1
    exact kk ρ lsC H1 locs1 (S.pop.pop.pop.mem rfl P1 D1 (ok.pw a i 0 hr2) S1)
  · have hrk : hK h r = 1 := hr.resolve_left hr0
    obtain ⟨r1, r2⟩ := ok.lt hrk (by omega)
    have hv := x_ws_get (X := X) (ρ := ρ) (M := M) r1 r2
    rw [x_cell_obj hrk (by omega)] at hv
    rw [x_rf_s hr0]
    refine va_astq hx.1 hx.2.1 hx.K S.2.2.1.1 S.2.2.1.2.1 S.2.2.2.1 (a - 1) 3 (r - 1) 1 he rfl hv (r := (RX1, TX1, x_N 1)) rfl (i32_vin S.pop.top hi.1 hi.2) d (fun H1 locs1 P1 D1 S1 => ?_)
    rw [i32_cl S.pop.top] at P1 D1
    have e1' := e1
    rw [x_rf_s hr0] at e1'
    rw [e1'] at P1 D1
    exact kk ρ lsC H1 locs1 (S.pop.pop.pop.mem rfl P1 D1 (ok.pw a i r hr2) S1)
theorem sn_aastore24 (hx : x_Cx X z p l R s m args meth c) {i : Int} {a r : Nat} (d : decode (zB z) pc = .ok (.aastore, 1)) (hk : hK h a = 24) (hr : r = 0 ∨ hK h r = 4) (hi : 0 ≤ i ∧ i < hL h a) (kk : x_Wt X ρ0 n0 (zL z) p l e R s m args below meth c Q (pc + 1) ls st M (x_pw h a i r) cells slots) : x_Wt X ρ0 n0 (zL z) p l e R s m args below meth c Q (pc) ls (xA r :: xI i :: xA a :: st) M h cells slots := by
  intro ρ lsC H locs S
  have ok := S.2.2.1.2.2
  obtain ⟨a1, a2⟩ := ok.lt hk (by omega)
  have he := x_ws_get (X := X) (ρ := ρ) (M := M) a1 a2
  rw [x_cell_r hk (by omega)] at he
  have hr2 : r < hn h := S.top
  have e1 : (x_ws X ρ M h).set (a - 1) (ρ a, .inl (XA X (24 - 20), (hL h a).toNat, .inr (.inr (.inr (.inr (va_up (fun j : Nat => x_rf ρ (hP h a j)) i.toNat (x_rf ρ r))))))) = x_ws X ρ M (x_pw h a i r) :=
    x_ws_set a1 a2 rfl (fun b hb => x_pw_o b hb) (by
      rw [x_cell_r (h := x_pw h a i r) (q := 24) hk (by omega)]
      show Sum.inl (XA X (24 - 20), (hL h a).toNat, _) = _
      congr 8
      funext j
      show x_rf ρ (if a = a ∧ (j : Int) = i then r else hP h a j) = va_up _ i.toNat (x_rf ρ r) j
      unfold va_up
      by_cases hj : j = i.toNat
      · rw [if_pos hj, if_pos ⟨rfl, by omega⟩]
      · rw [if_neg hj, if_neg (by omega)])
  show W p l e R s m args below meth c H locs cells slots Q (F0 m pc lsC (va_rf (x_rf ρ r) :: .int (Int32.ofInt i) :: va_rf (x_rf ρ a) :: st.map (x_c X ρ)))
  rw [x_rf_s (show a ≠ 0 by omega)]
  by_cases hr0 : r = 0
  · subst hr0
    refine va_astqN hx.1 hx.2.1 hx.K S.2.2.1.1 S.2.2.1.2.1 S.2.2.2.1 (a - 1) 4 he rfl (i32_vin S.pop.top hi.1 hi.2) d (fun H1 locs1 P1 D1 S1 => ?_)
    rw [i32_cl S.pop.top] at P1 D1
    have e1' := e1
    rw [x_rf_0] at e1'
    rw [e1'] at P1 D1
    exact kk ρ lsC H1 locs1 (S.pop.pop.pop.mem rfl P1 D1 (ok.pw a i 0 hr2) S1)
  · have hrk : hK h r = 4 := hr.resolve_left hr0
    obtain ⟨r1, r2⟩ := ok.lt hrk (by omega)
    have hv := x_ws_get (X := X) (ρ := ρ) (M := M) r1 r2
    rw [x_cell_obj hrk (by omega)] at hv
    rw [x_rf_s hr0]
    refine va_astq hx.1 hx.2.1 hx.K S.2.2.1.1 S.2.2.1.2.1 S.2.2.2.1 (a - 1) 4 (r - 1) 4 he rfl hv (r := (RX4, TX4, x_N 4)) rfl (i32_vin S.pop.top hi.1 hi.2) d (fun H1 locs1 P1 D1 S1 => ?_)
    rw [i32_cl S.pop.top] at P1 D1
    have e1' := e1
    rw [x_rf_s hr0] at e1'
    rw [e1'] at P1 D1
    exact kk ρ lsC H1 locs1 (S.pop.pop.pop.mem rfl P1 D1 (ok.pw a i r hr2) S1)
theorem sn_alen (hx : x_Cx X z p l R s m args meth c) {a : Nat} (d : decode (zB z) pc = .ok (.arraylength, 1)) (h1 : 20 ≤ hK h a) (h2 : hK h a ≤ 24) (kk : x_Wt X ρ0 n0 (zL z) p l e R s m args below meth c Q (pc + 1) ls (xI (hL h a) :: st) M h cells slots) : x_Wt X ρ0 n0 (zL z) p l e R s m args below meth c Q (pc) ls (xA a :: st) M h cells slots := by
  intro ρ lsC H locs S
  have ok := S.2.2.1.2.2
  obtain ⟨a1, a2⟩ := ok.lt rfl (show hK h a < 25 by omega)
  obtain ⟨l1, l2⟩ := ok.2.2.2.1 a
  have he := x_ws_get (X := X) (ρ := ρ) (M := M) a1 a2
  have hv : Int32.ofNat (hL h a).toNat = Int32.ofInt (hL h a) := by
    rw [← Int32.ofInt_eq_ofNat, Int.toNat_of_nonneg l1]
  have k1 := kk ρ lsC H locs (S.pop.push (v := xI (hL h a)) (by show x_i32 _; unfold x_i32; omega))
  show W p l e R s m args below meth c H locs cells slots Q (F0 m pc lsC (va_rf (x_rf ρ a) :: st.map (x_c X ρ)))
  rw [x_rf_s (show a ≠ 0 by omega)]
  have hk : hK h a = 20 ∨ hK h a = 21 ∨ hK h a = 22 ∨ hK h a = 23 ∨ hK h a = 24 := by omega
  rcases hk with hk | hk | hk | hk | hk
  · rw [x_cell_i hk (Or.inl rfl)] at he
    exact va_alen hx.1 hx.2.1 hx.K S.2.2.1.1 (a - 1) 0 he (ty := .int) rfl hv d k1
  · rw [x_cell_i hk (Or.inr rfl)] at he
    exact va_alen hx.1 hx.2.1 hx.K S.2.2.1.1 (a - 1) 1 he (ty := .byte) rfl hv d k1
  · rw [x_cell_l hk] at he
    exact va_alen hx.1 hx.2.1 hx.K S.2.2.1.1 (a - 1) 2 he (ty := .int) rfl hv d k1
  · rw [x_cell_r hk (Or.inl rfl)] at he
    exact va_alen hx.1 hx.2.1 hx.K S.2.2.1.1 (a - 1) 3 he (ty := .object RX1) rfl hv d k1
  · rw [x_cell_r hk (Or.inr rfl)] at he
    exact va_alen hx.1 hx.2.1 hx.K S.2.2.1.1 (a - 1) 4 he (ty := .object RX4) rfl hv d k1
theorem x_Ag (hx : x_Cx X z p l R s m args meth c) : ∀ q, s.heap.size ≤ q → x_A X q := fun q hq => Nat.le_trans hx.B hq
theorem sn_new (hx : x_Cx X z p l R s m args meth c) {q idx : Nat} (hq : q < 10) (w1 : (Cond.classLink (zN z).cls idx (x_cl q).1).before args s = true) (w2 : (Cond.instantiable (x_cl q).1 (x_N q)).before args s = true) (w3 : (Cond.initialized (x_cl q).1).before args s = true) (d : decode (zB z) pc = .ok (.new idx, 3)) (hc : cells + 1 ≤ zC z) (hs : slots + x_N q ≤ zS z)
    (kk : x_Wt X ρ0 n0 (zL z) p l e R s m args below meth c Q (pc + 3) ls (xA (hn h) :: st) (x_z M h) (x_new h q 0) (cells + 1) (slots + x_N q)) : x_Wt X ρ0 n0 (zL z) p l e R s m args below meth c Q (pc) ls st M h cells slots := by
  intro ρ lsC H locs S
  obtain ⟨c1, c2, c3, c4, c5⟩ := xc_ok q hq
  have ok := S.2.2.1.2.2
  rw [← c5] at w2 hs kk
  refine va_new hx.1 hx.2.1 hx.hts c2 (x_ty q) c3 hx.own w1 w2 w3 hx.K S.2.2.1.1 S.2.2.1.2.1 S.2.2.2.1 (x_Ag hx) c1 (fs := (List.range (x_N q)).map fun i => x_fv ρ (x_ty q i) 0 0) (fun j hj => ?_) (by rw [hx.rm]; exact hc) (by rw [hx.rm]; exact hs) d (fun b H1 P1 D1 S1 => ?_)
  · rw [c5] at hj
    unfold vp_V
    rw [List.getD_eq_getElem?_getD, List.getElem?_map, List.getElem?_range hj]
    exact (x_fv_0 (x_tok_ok q hq j hj)).symm
  · have k1 := kk _ lsC H1 locs (S.fresh (k := q) (q := b) (len := 0) (Or.inl hq) ⟨Int.le_refl _, by decide⟩ (by
        rw [x_cell_obj (show hK (x_new h q 0) (hn h) = q from if_pos rfl) hq]
        congr 2
        apply List.map_congr_left
        intro i _
        show x_fv _ _ (if hn h = hn h then 0 else _) (if hn h = hn h then 0 else _) = _
        rw [if_pos rfl, if_pos rfl]
        cases x_ty q i <;> rfl) P1 D1 S1)
    have e2 : ((xA (hn h) :: st).map (x_c X (x_ru ρ (hn h) b))) = .ref b :: st.map (x_c X ρ) := by
      rw [List.map_cons, x_map_u S.2.1]
      show va_rf (x_rf (x_ru ρ (hn h) b) (hn h)) :: _ = _
      rw [x_rf_s (show hn h ≠ 0 by have := ok.1; omega)]
      unfold x_ru
      rw [if_pos rfl]
      rfl
    rw [e2] at k1
    exact k1
theorem sn_newarray20 (hx : x_Cx X z p l R s m args meth c) {x : Int} (w1 : (Cond.arrayClass (newarray.typeOf .int)).before args s = true) (d : decode (zB z) pc = .ok (.newarray .int, 2)) (hv : 0 ≤ x ∧ x ≤ 50000) (hc : cells + 1 ≤ zC z) (hs : slots + x.toNat ≤ zS z)
    (kk : x_Wt X ρ0 n0 (zL z) p l e R s m args below meth c Q (pc + 2) ls (xA (hn h) :: st) (x_z M h) (x_new h 20 x) (cells + 1) (slots + x.toNat)) : x_Wt X ρ0 n0 (zL z) p l e R s m args below meth c Q (pc) ls (xI x :: st) M h cells slots := by
  intro ρ lsC H locs S
  have ok := S.2.2.1.2.2
  have hx32 : x_i32 x := S.top
  refine va_newa (ty := .int) hx.1 hx.2.1 w1 rfl hx.K S.2.2.1.1 S.2.2.1.2.1 S.2.2.2.1 (x_Ag hx) (n := Int32.ofInt x) (N' := x.toNat) (a0 := (x.toNat, .inl fun _ => Int32.ofInt 0)) (fun cA => rfl) (by rw [show (0 : Int32) = Int32.ofInt 0 from rfl, i32_lt hx32 i32_0]; omega) (i32_cl hx32) (by show x.toNat * _ ≤ _; simp only [componentBytes]; omega) (by rw [hx.rm]; exact hc) (by rw [hx.rm]; exact hs) d (fun b cA H1 K1 P1 D1 S1 => ?_)
  have hA : cA = XA X 0 := by
    have h1 : va_RA s cA .int := (K1.2 5 (cA, .int) rfl).2
    have h2 : va_RA s (XA X 0) .int := (hx.K.2 0 (XA X 0, .int) rfl).2
    exact Option.some.inj (Eq.trans (Eq.symm h1) h2)
  subst hA
  have k1 := kk _ lsC H1 locs (S.pop.fresh (k := 20) (q := b) (len := x) (Or.inr ⟨by decide, by decide⟩) ⟨hv.1, by omega⟩ (by
      rw [x_cell_i (show hK (x_new h 20 x) (hn h) = 20 from if_pos rfl) (Or.inl rfl)]
      show Sum.inl (_, (if hn h = hn h then x else _).toNat, _) = _
      rw [if_pos rfl]
      have e3 : ∀ j : Nat, x_z M h (hn h) j = 0 := fun j => if_pos rfl
      simp only [e3]) P1 D1 S1)
  have e2 : ((xA (hn h) :: st).map (x_c X (x_ru ρ (hn h) b))) = .ref b :: st.map (x_c X ρ) := by
    rw [List.map_cons, x_map_u S.pop.2.1]
    show va_rf (x_rf (x_ru ρ (hn h) b) (hn h)) :: _ = _
    rw [x_rf_s (show hn h ≠ 0 by have := ok.1; omega)]
    unfold x_ru
    rw [if_pos rfl]
    rfl
  rw [e2] at k1
  exact k1
theorem sn_newarray21 (hx : x_Cx X z p l R s m args meth c) {x : Int} (w1 : (Cond.arrayClass (newarray.typeOf .byte)).before args s = true) (d : decode (zB z) pc = .ok (.newarray .byte, 2)) (hv : 0 ≤ x ∧ x ≤ 50000) (hc : cells + 1 ≤ zC z) (hs : slots + x.toNat ≤ zS z)
    (kk : x_Wt X ρ0 n0 (zL z) p l e R s m args below meth c Q (pc + 2) ls (xA (hn h) :: st) (x_z M h) (x_new h 21 x) (cells + 1) (slots + x.toNat)) : x_Wt X ρ0 n0 (zL z) p l e R s m args below meth c Q (pc) ls (xI x :: st) M h cells slots := by
  intro ρ lsC H locs S
  have ok := S.2.2.1.2.2
  have hx32 : x_i32 x := S.top
  refine va_newa (ty := .byte) hx.1 hx.2.1 w1 rfl hx.K S.2.2.1.1 S.2.2.1.2.1 S.2.2.2.1 (x_Ag hx) (n := Int32.ofInt x) (N' := x.toNat) (a0 := (x.toNat, .inl fun _ => Int32.ofInt 0)) (fun cA => rfl) (by rw [show (0 : Int32) = Int32.ofInt 0 from rfl, i32_lt hx32 i32_0]; omega) (i32_cl hx32) (by show x.toNat * _ ≤ _; simp only [componentBytes]; omega) (by rw [hx.rm]; exact hc) (by rw [hx.rm]; exact hs) d (fun b cA H1 K1 P1 D1 S1 => ?_)
  have hA : cA = XA X 1 := by
    have h1 : va_RA s cA .byte := (K1.2 5 (cA, .byte) rfl).2
    have h2 : va_RA s (XA X 1) .byte := (hx.K.2 1 (XA X 1, .byte) rfl).2
    exact Option.some.inj (Eq.trans (Eq.symm h1) h2)
  subst hA
  have k1 := kk _ lsC H1 locs (S.pop.fresh (k := 21) (q := b) (len := x) (Or.inr ⟨by decide, by decide⟩) ⟨hv.1, by omega⟩ (by
      rw [x_cell_i (show hK (x_new h 21 x) (hn h) = 21 from if_pos rfl) (Or.inr rfl)]
      show Sum.inl (_, (if hn h = hn h then x else _).toNat, _) = _
      rw [if_pos rfl]
      have e3 : ∀ j : Nat, x_z M h (hn h) j = 0 := fun j => if_pos rfl
      simp only [e3]) P1 D1 S1)
  have e2 : ((xA (hn h) :: st).map (x_c X (x_ru ρ (hn h) b))) = .ref b :: st.map (x_c X ρ) := by
    rw [List.map_cons, x_map_u S.pop.2.1]
    show va_rf (x_rf (x_ru ρ (hn h) b) (hn h)) :: _ = _
    rw [x_rf_s (show hn h ≠ 0 by have := ok.1; omega)]
    unfold x_ru
    rw [if_pos rfl]
    rfl
  rw [e2] at k1
  exact k1
theorem sn_anewarray23 (hx : x_Cx X z p l R s m args meth c) {x : Int} {idx : Nat} (w1 : (Cond.classLink (zN z).cls idx RX1).before args s = true) (w2 : va_AO RX1 s) (d : decode (zB z) pc = .ok (.anewarray idx, 3)) (hv : 0 ≤ x ∧ x ≤ 50000) (hc : cells + 1 ≤ zC z) (hs : slots + x.toNat ≤ zS z)
    (kk : x_Wt X ρ0 n0 (zL z) p l e R s m args below meth c Q (pc + 3) ls (xA (hn h) :: st) (x_z M h) (x_new h 23 x) (cells + 1) (slots + x.toNat)) : x_Wt X ρ0 n0 (zL z) p l e R s m args below meth c Q (pc) ls (xI x :: st) M h cells slots := by
  intro ρ lsC H locs S
  have ok := S.2.2.1.2.2
  have hx32 : x_i32 x := S.top
  refine va_newq hx.1 hx.2.1 hx.own w1 w2 hx.K S.2.2.1.1 S.2.2.1.2.1 S.2.2.2.1 (x_Ag hx) (n := Int32.ofInt x) (N' := x.toNat) (by rw [show (0 : Int32) = Int32.ofInt 0 from rfl, i32_lt hx32 i32_0]; omega) (i32_cl hx32) (by omega) (by rw [hx.rm]; exact hc) (by rw [hx.rm]; exact hs) d (fun b cA H1 K1 P1 D1 S1 => ?_)
  have hA : cA = XA X 3 := by
    obtain ⟨-, -, -, -, -, h1⟩ := (K1.2 5 (cA, .object RX1) rfl).2
    obtain ⟨-, -, -, -, -, h2⟩ := (hx.K.2 3 (XA X 3, .object RX1) rfl).2
    exact Option.some.inj (Eq.trans (Eq.symm h1) h2)
  subst hA
  have k1 := kk _ lsC H1 locs (S.pop.fresh (k := 23) (q := b) (len := x) (Or.inr ⟨by decide, by decide⟩) ⟨hv.1, by omega⟩ (by
      rw [x_cell_r (show hK (x_new h 23 x) (hn h) = 23 from if_pos rfl) (by omega)]
      show Sum.inl (_, (if hn h = hn h then x else _).toNat, _) = _
      rw [if_pos rfl]
      have e3 : ∀ j : Nat, hP (x_new h 23 x) (hn h) j = 0 := fun j => if_pos rfl
      simp only [e3, x_rf_0]) P1 D1 S1)
  have e2 : ((xA (hn h) :: st).map (x_c X (x_ru ρ (hn h) b))) = .ref b :: st.map (x_c X ρ) := by
    rw [List.map_cons, x_map_u S.pop.2.1]
    show va_rf (x_rf (x_ru ρ (hn h) b) (hn h)) :: _ = _
    rw [x_rf_s (show hn h ≠ 0 by have := ok.1; omega)]
    unfold x_ru
    rw [if_pos rfl]
    rfl
  rw [e2] at k1
  exact k1
theorem sn_anewarray24 (hx : x_Cx X z p l R s m args meth c) {x : Int} {idx : Nat} (w1 : (Cond.classLink (zN z).cls idx RX4).before args s = true) (w2 : va_AO RX4 s) (d : decode (zB z) pc = .ok (.anewarray idx, 3)) (hv : 0 ≤ x ∧ x ≤ 50000) (hc : cells + 1 ≤ zC z) (hs : slots + x.toNat ≤ zS z)
    (kk : x_Wt X ρ0 n0 (zL z) p l e R s m args below meth c Q (pc + 3) ls (xA (hn h) :: st) (x_z M h) (x_new h 24 x) (cells + 1) (slots + x.toNat)) : x_Wt X ρ0 n0 (zL z) p l e R s m args below meth c Q (pc) ls (xI x :: st) M h cells slots := by
  intro ρ lsC H locs S
  have ok := S.2.2.1.2.2
  have hx32 : x_i32 x := S.top
  refine va_newq hx.1 hx.2.1 hx.own w1 w2 hx.K S.2.2.1.1 S.2.2.1.2.1 S.2.2.2.1 (x_Ag hx) (n := Int32.ofInt x) (N' := x.toNat) (by rw [show (0 : Int32) = Int32.ofInt 0 from rfl, i32_lt hx32 i32_0]; omega) (i32_cl hx32) (by omega) (by rw [hx.rm]; exact hc) (by rw [hx.rm]; exact hs) d (fun b cA H1 K1 P1 D1 S1 => ?_)
  have hA : cA = XA X 4 := by
    obtain ⟨-, -, -, -, -, h1⟩ := (K1.2 5 (cA, .object RX4) rfl).2
    obtain ⟨-, -, -, -, -, h2⟩ := (hx.K.2 4 (XA X 4, .object RX4) rfl).2
    exact Option.some.inj (Eq.trans (Eq.symm h1) h2)
  subst hA
  have k1 := kk _ lsC H1 locs (S.pop.fresh (k := 24) (q := b) (len := x) (Or.inr ⟨by decide, by decide⟩) ⟨hv.1, by omega⟩ (by
      rw [x_cell_r (show hK (x_new h 24 x) (hn h) = 24 from if_pos rfl) (by omega)]
      show Sum.inl (_, (if hn h = hn h then x else _).toNat, _) = _
      rw [if_pos rfl]
      have e3 : ∀ j : Nat, hP (x_new h 24 x) (hn h) j = 0 := fun j => if_pos rfl
      simp only [e3, x_rf_0]) P1 D1 S1)
  have e2 : ((xA (hn h) :: st).map (x_c X (x_ru ρ (hn h) b))) = .ref b :: st.map (x_c X ρ) := by
    rw [List.map_cons, x_map_u S.pop.2.1]
    show va_rf (x_rf (x_ru ρ (hn h) b) (hn h)) :: _ = _
    rw [x_rf_s (show hn h ≠ 0 by have := ok.1; omega)]
    unfold x_ru
    rw [if_pos rfl]
    rfl
  rw [e2] at k1
  exact k1
end SM2
end
section
theorem x_sumc {X : xX} {ρ : Nat → Nat} (st : List xV) : ((st.map (x_c X ρ)).map fun v => v.category).sum = (st.map x_cat).sum := by
  rw [List.map_map]
  congr 1
  apply List.map_congr_left
  intro v _
  exact x_cat_c v
def x_Q (X : xX) (ρ0 : Nat → Nat) (n0 : Nat) (Φ : xO → xM → xH → Prop) (below : List Frame) (args : Array Value) (s : State) (z : xMD) : State → Prop := vx_MQ below (x_Qc X ρ0 n0 Φ) (x_XC X ρ0 n0 Φ) args s (zC z) (zS z) (x_A X)
theorem x_vF {A : Nat → Prop} {s t : State} {H : Heap} {locs : List Loc} (h : va_S A s.heap H locs) (ht : t.heap = H) : va_F A s t := by
  subst ht
  exact ⟨h.1, h.2.1⟩
theorem met_of_vx {l : Launch} {y : MethodName} {ws : List Jvm.Cond} {rm : Room} {Pc : Array Value → State → Prop} {Qc : Array Value → State → Outcome → State → Prop} {XC : String → State → State → Prop} {mc ms : Nat} {free : Addr → Prop} (h : vx_Met l y ws rm Pc Qc XC mc ms free) (hn : ∀ E st t, ¬ XC E st t) : Met l y ws rm Pc Qc mc ms free := by
  intro p e ha hc hk s m args below hf happ hP hK
  obtain ⟨n, o, h1, h2, h3, h4⟩ := h p e ha hc hk s m args below hf happ hP hK
  refine ⟨n, o, h1, h2, h3, ?_⟩
  rcases h4 with h4 | ⟨q, -, E, ce, L, hx, -⟩
  · exact h4
  · exact absurd hx (hn E _ _)
section SC
variable {X : xX} {ρ0 : Nat → Nat} {n0 : Nat} {z : xMD} {p : Program} {l : Launch} {e : Env} {R : Room} {s : State} {m : MethodId} {args : Array Value} {below : List Frame} {meth : Method} {c : Code} {Q : State → Prop} {Φ : xO → xM → xH → Prop}
variable {pc cells slots : Nat} {ls : xL} {st : List xV} {M : xM} {h : xH}
theorem x_Cx.lock (hx : x_Cx X z p l R s m args meth c) : meth.locks = false := hx.2.2.2.2.2.2.1
theorem x_Cx.ret (hx : x_Cx X z p l R s m args meth c) : meth.sig.returnType = zR z := hx.2.2.2.2.2.1
theorem x_Cx.tr (hx : x_Cx X z p l R s m args meth c) : l.stackTraces = false := hx.2.2.2.2.2.2.2.1
theorem x_Cx.exc (hx : x_Cx X z p l R s m args meth c) : ∀ x ∈ c.exceptionTable.toList, False := hx.2.2.2.2.2.2.2.2.1
theorem x_St.post {r : Option xV} {ρ : Nat → Nat} {lsC : Array Slot} {H : Heap} {locs : List Loc} (S : x_St X ρ0 n0 (zL z) s ρ lsC H locs ls r.toList M h) (hΦ : Φ (.inl r) M h) (t : State) (ht : t.heap = H) : x_Qc X ρ0 n0 Φ args s (.returned (r.map (x_c X ρ))) t :=
  ⟨⟨r, ρ, M, h, rfl, hΦ, fun v hv => S.2.1 v (by rw [hv]; exact List.mem_singleton_self v), S.2.2.2.2.1, S.2.2.2.2.2, by rw [ht]; exact S.2.2.1⟩, x_vF S.2.2.2.1 ht⟩
def x_scok (sc : xSc) (X : xX) : Prop := sc.2.1 < 0 ∨ (sc.1 = (XS X).1 ∧ sc.2.1 = (XS X).2.1 ∧ (XS X).2.1 < 2147483648 ∧ ∀ j : Nat, j < (XS X).2.1 → x_i32 (sc.2.2 j) ∧ Int32.ofInt (sc.2.2 j) = (XS X).2.2 j)
theorem sn_sld (hx : x_Cx X z p l R s m args meth c) {sc : xSc} (hsc : x_scok sc X) {i : Int} {a : Nat} (d : decode (zB z) pc = .ok (.iaload, 1)) (ha : a = sc.1) (hi : 0 ≤ i ∧ i < sc.2.1) (kk : x_Wt X ρ0 n0 (zL z) p l e R s m args below meth c Q (pc + 1) ls (xI (sc.2.2 i) :: st) M h cells slots) : x_Wt X ρ0 n0 (zL z) p l e R s m args below meth c Q (pc) ls (xI i :: xE a :: st) M h cells slots := by
  intro ρ lsC H locs S
  obtain ⟨q1, q2, q3, q4⟩ := hsc.resolve_left (by omega)
  have hi32 : x_i32 i := S.top
  obtain ⟨o1, o2⟩ := hx.O.2.2.2.2.1
  have hbl : (XS X).1 < s.heap.size := Nat.lt_of_lt_of_le o2 hx.B
  obtain ⟨v1, v2⟩ := q4 i.toNat (by omega)
  have e1 : ((i.toNat : Nat) : Int) = i := Int.toNat_of_nonneg hi.1
  rw [e1] at v1 v2
  show W p l e R s m args below meth c H locs cells slots Q (F0 m pc lsC (.int (Int32.ofInt i) :: .ref a :: st.map (x_c X ρ)))
  rw [ha, q1]
  refine va_sld hx.1 hx.2.1 o1 hbl (show ¬ x_A X (XS X).1 from Nat.not_le.mpr o2) S.2.2.2.1 (i := Int32.ofInt i) (by have := i32_vin (L := (XS X).2.1) hi32 hi.1 (by omega); simpa using this) d ?_
  rw [i32_cl hi32, ← v2]
  exact kk ρ lsC H locs (S.pop.pop.push (v := xI (sc.2.2 i)) v1)
theorem sn_slen (hx : x_Cx X z p l R s m args meth c) {sc : xSc} (hsc : x_scok sc X) (hpos : 0 ≤ sc.2.1) {a : Nat} (d : decode (zB z) pc = .ok (.arraylength, 1)) (ha : a = sc.1) (kk : x_Wt X ρ0 n0 (zL z) p l e R s m args below meth c Q (pc + 1) ls (xI sc.2.1 :: st) M h cells slots) : x_Wt X ρ0 n0 (zL z) p l e R s m args below meth c Q (pc) ls (xE a :: st) M h cells slots := by
  intro ρ lsC H locs S
  obtain ⟨q1, q2, q3, q4⟩ := hsc.resolve_left (by omega)
  obtain ⟨o1, o2⟩ := hx.O.2.2.2.2.1
  have hbl : (XS X).1 < s.heap.size := Nat.lt_of_lt_of_le o2 hx.B
  show W p l e R s m args below meth c H locs cells slots Q (F0 m pc lsC (.ref a :: st.map (x_c X ρ)))
  rw [ha, q1]
  refine va_slen hx.1 hx.2.1 o1 hbl (show ¬ x_A X (XS X).1 from Nat.not_le.mpr o2) S.2.2.2.1 d ?_
  have e1 : Int32.ofNat (XS X).2.1 = Int32.ofInt sc.2.1 := by rw [q2, Int32.ofInt_eq_ofNat]
  rw [e1]
  exact kk ρ lsC H locs (S.pop.push (v := xI sc.2.1) (by show x_i32 _; unfold x_i32; omega))
theorem sn_iret (hx : x_Cx X z p l R s m args meth c) {v : Int} {ty : FieldType} (hr : zR z = some ty) (hn' : narrow ty (.int (Int32.ofInt v)) = .int (Int32.ofInt v)) (d : decode (zB z) pc = .ok (.ireturn, 1)) (hc : cells ≤ zC z) (hs : slots ≤ zS z) (hΦ : Φ (.inl (some (xI v))) M h) : x_Wt X ρ0 n0 (zL z) p l e R s m args below meth c (x_Q X ρ0 n0 Φ below args s z) (pc) ls [xI v] M h cells slots := by
  intro ρ lsC H locs S
  exact W.widen hc hs (vx_ret (W.zret hx.1 hx.2.1 (hx.ret.trans hr) hn' (fun t ht _ => S.post (r := some (xI v)) hΦ t ht) S.2.2.2.1.2.2 d hx.lock))
theorem sn_aret (hx : x_Cx X z p l R s m args meth c) {r : Nat} {ty : FieldType} (hr : zR z = some ty) (hty : (∃ n, ty = .object n) ∨ ∃ t, ty = .array t) (d : decode (zB z) pc = .ok (.areturn, 1)) (hc : cells ≤ zC z) (hs : slots ≤ zS z) (hΦ : Φ (.inl (some (xA r))) M h) : x_Wt X ρ0 n0 (zL z) p l e R s m args below meth c (x_Q X ρ0 n0 Φ below args s z) (pc) ls [xA r] M h cells slots := by
  intro ρ lsC H locs S
  have k1 : ∀ t : State, t.heap = H → s.WarmedH t.vm → x_Qc X ρ0 n0 Φ args s (.returned (some (va_rf (x_rf ρ r)))) t := fun t ht _ => S.post (r := some (xA r)) hΦ t ht
  show W p l e R s m args below meth c H locs cells slots (x_Q X ρ0 n0 Φ below args s z) (F0 m pc lsC [va_rf (x_rf ρ r)])
  generalize x_rf ρ r = y at k1 ⊢
  cases y with
  | none => exact W.widen hc hs (vx_ret (W.aret hx.1 hx.2.1 (hx.ret.trans hr) hty (v := .null) (Or.inl rfl) k1 S.2.2.2.1.2.2 d hx.lock))
  | some y => exact W.widen hc hs (vx_ret (W.aret hx.1 hx.2.1 (hx.ret.trans hr) hty (v := .ref y) (Or.inr ⟨_, rfl⟩) k1 S.2.2.2.1.2.2 d hx.lock))
theorem sn_vret (hx : x_Cx X z p l R s m args meth c) (hr : zR z = none) (d : decode (zB z) pc = .ok (.return_, 1)) (hc : cells ≤ zC z) (hs : slots ≤ zS z) (hΦ : Φ (.inl none) M h) : x_Wt X ρ0 n0 (zL z) p l e R s m args below meth c (x_Q X ρ0 n0 Φ below args s z) (pc) ls [] M h cells slots := by
  intro ρ lsC H locs S
  exact W.widen hc hs (vx_ret (W.vret hx.1 hx.2.1 (hx.ret.trans hr) (fun t ht _ => S.post (r := none) hΦ t ht) S.2.2.2.1.2.2 d hx.lock))
def x_ex : List String := ["java/lang/RuntimeException", "java/lang/Exception"]
/-- what a throw of the class E asks of the tables: by places -/
def x_thr (own : String) (ik ic : Nat) (E : String) : Prop := Bundle.fit E = true ∧ (∀ w ∈ Cond.classLink own ik E :: Cond.initialized E :: vx_at0 own ic E x_ex, w ∈ x_tbl ∧ (goodWord w = true ∨ x_odd w = true) ∧ vx_ot w = true)
theorem x_any (hx : x_Cx X z p l R s m args meth c) {w : Jvm.Cond} (hw : w ∈ x_tbl) (hg : goodWord w = true ∨ x_odd w = true) (ho : vx_ot w = true) : w.before args s = true := by
  by_cases hgw : goodWord w = true
  · exact hx.hts w (List.mem_filter.mpr ⟨hw, hgw⟩)
  · have h1 := hx.O.2.2.1.1 w hw (hg.resolve_left hgw)
    simp only [vx_ot, Bool.or_eq_true] at ho
    exact va_tabs (ho.resolve_right hgw) rfl h1
theorem sn_throw (hx : x_Cx X z p l R s m args meth c) {ik ic ee : Nat} (ht : x_thr (zN z).cls ik ic (x_en ee)) (d0 : decode (zB z) pc = .ok (.new ik, 3)) (d3 : decode (zB z) (pc + 3) = .ok (.dup, 1)) (d4 : decode (zB z) (pc + 4) = .ok (.invokespecial ic, 3)) (d7 : decode (zB z) (pc + 7) = .ok (.athrow, 1))
    (hf : 6 ≤ zF z % 1000) (ho : 89 ≤ zO z) (hst : (st.map x_cat).sum ≤ 8) (hc : cells + 1 ≤ zC z) (hs : slots + 6 ≤ zS z) (hΦ : Φ (.inr ee) M h) : x_Wt X ρ0 n0 (zL z) p l e R s m args below meth c (x_Q X ρ0 n0 Φ below args s z) (pc) ls st M h cells slots := by
  intro ρ lsC H locs S
  have hall := fun w hw => x_any hx (ht.2 w hw).1 (ht.2 w hw).2.1 (ht.2 w hw).2.2
  refine vx_throw0 hx.1 hx.2.1 hx.tr hx.own ht.1 (by decide) (hall _ List.mem_cons_self) (hall _ (List.mem_cons_of_mem _ List.mem_cons_self)) (fun w hw => hall w (List.mem_cons_of_mem _ (List.mem_cons_of_mem _ hw))) (fun w hw => (ht.2 w hw).2.2) hx.O.1 hx.O.2.1 S.2.2.2.1 (S.1.1.trans hx.2.2.1.symm) d0 d3 d4 d7
    (fun x h => absurd h (fun h => hx.exc x h)) (by rw [hx.rm]; show 2 + 3 < zF z % 1000; omega) (by rw [hx.rm, x_sumc]; show _ + (13 * (2 + 1) + 42) ≤ zO z; omega) (by rw [hx.rm]; exact hc) (by rw [hx.rm]; exact hs) hx.lock (fun t _ h1 h2 => ?_) S.2.2.2.1.2.2 hc hs
  have hS := S.2.2.2.1
  refine ⟨⟨ee, ρ, M, h, rfl, hΦ, S.2.2.2.2.1, S.2.2.2.2.2, ⟨fun k q hq => (S.2.2.1.1 k q hq).kept (h2 _ (S.2.2.1.1 k q hq).lt), S.2.2.1.2⟩⟩, Nat.le_trans hS.1 h1, fun q h3 h4 => by rw [h2 q (Nat.lt_of_lt_of_le h3 hS.1)]; exact hS.2.1 q h3 h4⟩
theorem sn_acp (hx : x_Cx X z p l R s m args meth c) {idx a b : Nat} {dp sp k : Int} (w1 : (Cond.methodLink (zN z).cls idx arraycopyName).before args s = true) (w2 : (Cond.native arraycopyName).before args s = true) (w3 : (Cond.static arraycopyName).before args s = true) (w4 : (Cond.initialized "java/lang/System").before args s = true) (d : decode (zB z) pc = .ok (.invokestatic idx, 3))
    (hf : 1 ≤ zF z % 1000) (ho : 8 + (nativeFrameWords "java/lang/System" "arraycopy" 5 + 11) ≤ zO z) (hst : (st.map x_cat).sum ≤ 8) (ha : hK h a = 20) (hb : hK h b = 20) (hk : 0 ≤ k ∧ 0 ≤ sp ∧ 0 ≤ dp ∧ sp + k ≤ hL h a ∧ dp + k ≤ hL h b)
    (kk : x_Wt X ρ0 n0 (zL z) p l e R s m args below meth c Q (pc + 3) ls st (x_cp M a sp b dp k) h cells slots) : x_Wt X ρ0 n0 (zL z) p l e R s m args below meth c Q (pc) ls (xI k :: xI dp :: xA b :: xI sp :: xA a :: st) M h cells slots := by
  intro ρ lsC H locs S
  have ok := S.2.2.1.2.2
  obtain ⟨a1, a2⟩ := ok.lt ha (by omega)
  obtain ⟨b1, b2⟩ := ok.lt hb (by omega)
  have hea := x_ws_get (X := X) (ρ := ρ) (M := M) a1 a2
  have heb := x_ws_get (X := X) (ρ := ρ) (M := M) b1 b2
  rw [x_cell_i ha (Or.inl rfl)] at hea
  rw [x_cell_i hb (Or.inl rfl)] at heb
  have hk32 : x_i32 k := S.top
  have hdp : x_i32 dp := S.pop.top
  have hsp : x_i32 sp := S.pop.pop.pop.top
  obtain ⟨k1, k2, k3, k4, k5⟩ := hk
  show W p l e R s m args below meth c H locs cells slots Q (F0 m pc lsC (.int (Int32.ofInt k) :: .int (Int32.ofInt dp) :: va_rf (x_rf ρ b) :: .int (Int32.ofInt sp) :: va_rf (x_rf ρ a) :: st.map (x_c X ρ)))
  rw [x_rf_s (show a ≠ 0 by omega), x_rf_s (show b ≠ 0 by omega)]
  have nz : ∀ {x : Int}, x_i32 x → 0 ≤ x → ¬ Int32.ofInt x < 0 := fun {x} hx hx0 => by rw [show (0 : Int32) = Int32.ofInt 0 from rfl, i32_lt hx i32_0]; omega
  refine va_copyi hx.1 hx.2.1 (hx.2.2.1.trans S.1.1.symm) hx.own w1 w2 w3 w4 hx.K S.2.2.1.1 S.2.2.1.2.1 S.2.2.2.1 (a - 1) (b - 1) 0 0 hea heb (ty := .int) rfl rfl rfl (nz hsp k2) (nz hdp k3) (nz hk32 k1) (by rw [i32_cl hsp, i32_cl hk32]; omega) (by rw [i32_cl hdp, i32_cl hk32]; omega) (fun i _ => rfl) (by rw [hx.rm]; exact hf) (by rw [hx.rm, x_sumc]; show _ + _ ≤ zO z; omega) d (fun H1 locs1 P1 D1 S1 => ?_)
  rw [i32_cl hsp, i32_cl hdp, i32_cl hk32] at P1 D1
  have e1 : (x_ws X ρ M h).set (b - 1) (ρ b, .inl (XA X (20 - 20), (hL h b).toNat, .inl (va_cpy (fun j : Nat => Int32.ofInt (M a j)) (fun j : Nat => Int32.ofInt (M b j)) sp.toNat dp.toNat k.toNat))) = x_ws X ρ (x_cp M a sp b dp k) h :=
    x_ws_set b1 b2 rfl (fun q hq => by
      have : ∀ j, x_cp M a sp b dp k q j = M q j := fun j => if_neg (fun z => hq z.1)
      unfold x_cell
      simp only [this]) (by
      rw [x_cell_i hb (Or.inl rfl)]
      congr 4
      funext j
      unfold x_cp va_cpy
      by_cases hj : dp ≤ j ∧ (j : Int) < dp + k
      · rw [if_pos ⟨rfl, hj⟩, if_pos (by omega)]
        congr 2
        omega
      · rw [if_neg (fun z => hj z.2), if_neg (by omega)])
  rw [e1] at P1 D1
  refine kk ρ lsC H1 locs1 (S.pop.pop.pop.pop.pop.mem rfl P1 D1 ?_ S1)
  obtain ⟨q1, q2, q3, q4, q5, q6⟩ := ok
  refine ⟨q1, q2, q3, q4, fun id j hid => ?_, q6⟩
  unfold x_cp
  by_cases hj : id = b ∧ dp ≤ j ∧ j < dp + k
  · rw [if_pos hj, hj.1, hb]
    have h1 := q5 a (sp + (j - dp)) (by omega)
    rw [ha] at h1
    exact rng_i rfl (rng_i' (q := 20) rfl h1)
  · rw [if_neg hj]
    exact q5 id j hid
theorem x_fb {x : Int} (h1 : -128 ≤ x) (h2 : x < 128) : fits .byte (.int (Int32.ofInt x)) = true := by
  obtain ⟨y, hy⟩ : ∃ y : Nat, x + 128 = y := ⟨(x + 128).toNat, by omega⟩
  have hy2 : y < 256 := by omega
  have key : ∀ y : Nat, y < 256 → fits .byte (.int (Int32.ofInt ((y : Int) - 128))) = true := by decide +kernel
  have := key y hy2
  rw [show (y : Int) - 128 = x by omega] at this
  exact this
theorem sn_acpB (hx : x_Cx X z p l R s m args meth c) {idx a b : Nat} {dp sp k : Int} (w1 : (Cond.methodLink (zN z).cls idx arraycopyName).before args s = true) (w2 : (Cond.native arraycopyName).before args s = true) (w3 : (Cond.static arraycopyName).before args s = true) (w4 : (Cond.initialized "java/lang/System").before args s = true) (d : decode (zB z) pc = .ok (.invokestatic idx, 3))
    (hf : 1 ≤ zF z % 1000) (ho : 8 + (nativeFrameWords "java/lang/System" "arraycopy" 5 + 11) ≤ zO z) (hst : (st.map x_cat).sum ≤ 8) (ha : hK h a = 21) (hb : hK h b = 21) (hk : 0 ≤ k ∧ 0 ≤ sp ∧ 0 ≤ dp ∧ sp + k ≤ hL h a ∧ dp + k ≤ hL h b)
    (hfit : ∀ j : Int, sp ≤ j → j < sp + k → -128 ≤ M a j ∧ M a j < 128) (kk : x_Wt X ρ0 n0 (zL z) p l e R s m args below meth c Q (pc + 3) ls st (x_cp M a sp b dp k) h cells slots) : x_Wt X ρ0 n0 (zL z) p l e R s m args below meth c Q (pc) ls (xI k :: xI dp :: xA b :: xI sp :: xA a :: st) M h cells slots := by
  intro ρ lsC H locs S
  have ok := S.2.2.1.2.2
  obtain ⟨a1, a2⟩ := ok.lt ha (by omega)
  obtain ⟨b1, b2⟩ := ok.lt hb (by omega)
  have hea := x_ws_get (X := X) (ρ := ρ) (M := M) a1 a2
  have heb := x_ws_get (X := X) (ρ := ρ) (M := M) b1 b2
  rw [x_cell_i ha (Or.inr rfl)] at hea
  rw [x_cell_i hb (Or.inr rfl)] at heb
  have hk32 : x_i32 k := S.top
  have hdp : x_i32 dp := S.pop.top
  have hsp : x_i32 sp := S.pop.pop.pop.top
  obtain ⟨k1, k2, k3, k4, k5⟩ := hk
  show W p l e R s m args below meth c H locs cells slots Q (F0 m pc lsC (.int (Int32.ofInt k) :: .int (Int32.ofInt dp) :: va_rf (x_rf ρ b) :: .int (Int32.ofInt sp) :: va_rf (x_rf ρ a) :: st.map (x_c X ρ)))
  rw [x_rf_s (show a ≠ 0 by omega), x_rf_s (show b ≠ 0 by omega)]
  have nz : ∀ {x : Int}, x_i32 x → 0 ≤ x → ¬ Int32.ofInt x < 0 := fun {x} hx hx0 => by rw [show (0 : Int32) = Int32.ofInt 0 from rfl, i32_lt hx i32_0]; omega
  refine va_copyi hx.1 hx.2.1 (hx.2.2.1.trans S.1.1.symm) hx.own w1 w2 w3 w4 hx.K S.2.2.1.1 S.2.2.1.2.1 S.2.2.2.1 (a - 1) (b - 1) 1 1 hea heb (ty := .byte) rfl rfl rfl (nz hsp k2) (nz hdp k3) (nz hk32 k1) (by rw [i32_cl hsp, i32_cl hk32]; omega) (by rw [i32_cl hdp, i32_cl hk32]; omega) (fun i hi => by rw [i32_cl hk32] at hi; rw [i32_cl hsp]; have h9 := hfit (((sp.toNat + i : Nat)) : Int) (by omega) (by omega); exact x_fb h9.1 h9.2) (by rw [hx.rm]; exact hf) (by rw [hx.rm, x_sumc]; show _ + _ ≤ zO z; omega) d (fun H1 locs1 P1 D1 S1 => ?_)
  rw [i32_cl hsp, i32_cl hdp, i32_cl hk32] at P1 D1
  have e1 : (x_ws X ρ M h).set (b - 1) (ρ b, .inl (XA X (21 - 20), (hL h b).toNat, .inl (va_cpy (fun j : Nat => Int32.ofInt (M a j)) (fun j : Nat => Int32.ofInt (M b j)) sp.toNat dp.toNat k.toNat))) = x_ws X ρ (x_cp M a sp b dp k) h :=
    x_ws_set b1 b2 rfl (fun q hq => by
      have : ∀ j, x_cp M a sp b dp k q j = M q j := fun j => if_neg (fun z => hq z.1)
      unfold x_cell
      simp only [this]) (by
      rw [x_cell_i hb (Or.inr rfl)]
      congr 4
      funext j
      unfold x_cp va_cpy
      by_cases hj : dp ≤ j ∧ (j : Int) < dp + k
      · rw [if_pos ⟨rfl, hj⟩, if_pos (by omega)]
        congr 2
        omega
      · rw [if_neg (fun z => hj z.2), if_neg (by omega)])
  rw [e1] at P1 D1
  refine kk ρ lsC H1 locs1 (S.pop.pop.pop.pop.pop.mem rfl P1 D1 ?_ S1)
  obtain ⟨q1, q2, q3, q4, q5, q6⟩ := ok
  refine ⟨q1, q2, q3, q4, fun id j hid => ?_, q6⟩
  unfold x_cp
  by_cases hj : id = b ∧ dp ≤ j ∧ j < dp + k
  · rw [if_pos hj, hj.1, hb]
    have h1 := q5 a (sp + (j - dp)) (by omega)
    rw [ha] at h1
    exact rng_i rfl (rng_i' (q := 21) rfl h1)
  · rw [if_neg hj]
    exact q5 id j hid
theorem sn_min (hx : x_Cx X z p l R s m args meth c) {idx : Nat} {a b : Int} (w1 : (Cond.methodLink (zN z).cls idx Lib.Math.min.name).before args s = true) (w2 : (Cond.static Lib.Math.min.name).before args s = true) (w3 : (Cond.initialized "java/lang/Math").before args s = true) (w4 : (Cond.code Lib.Math.min.name Lib.Math.min.code 2 (some .int)).before args s = true) (d : decode (zB z) pc = .ok (.invokestatic idx, 3))
    (hf : 1 ≤ zF z % 1000) (ho : 21 ≤ zO z) (hst : (st.map x_cat).sum ≤ 8) (hc : cells ≤ zC z) (hs : slots ≤ zS z) (kk : x_Wt X ρ0 n0 (zL z) p l e R s m args below meth c Q (pc + 3) ls (xI (min a b) :: st) M h cells slots) : x_Wt X ρ0 n0 (zL z) p l e R s m args below meth c Q (pc) ls (xI b :: xI a :: st) M h cells slots := by
  intro ρ lsC H locs S
  refine va_mmin hx.1 hx.2.1 (hx.2.2.1.trans S.1.1.symm) hx.own w1 w2 w3 w4 (by rw [hx.rm]; exact hf) (by rw [hx.rm, x_sumc]; show _ + _ ≤ zO z; omega) (by rw [hx.rm]; exact hc) (by rw [hx.rm]; exact hs) d ?_
  have hb : x_i32 b := S.top
  have ha : x_i32 a := S.pop.top
  have hv : x_vk h (xI (min a b)) := by show x_i32 _; unfold x_i32 at *; omega
  have e1 : (if Int32.ofInt b < Int32.ofInt a then Int32.ofInt b else Int32.ofInt a) = Int32.ofInt (min a b) := by
    by_cases hab : b < a
    · rw [if_pos ((i32_lt hb ha).mpr hab), show min a b = b by omega]
    · rw [if_neg (fun z => hab ((i32_lt hb ha).mp z)), show min a b = a by omega]
  rw [e1]
  exact kk ρ lsC H locs (S.pop.pop.push hv)
theorem sn_max (hx : x_Cx X z p l R s m args meth c) {idx : Nat} {a b : Int} (w1 : (Cond.methodLink (zN z).cls idx Lib.Math.max.name).before args s = true) (w2 : (Cond.static Lib.Math.max.name).before args s = true) (w3 : (Cond.initialized "java/lang/Math").before args s = true) (w4 : (Cond.code Lib.Math.max.name Lib.Math.max.code 2 (some .int)).before args s = true) (d : decode (zB z) pc = .ok (.invokestatic idx, 3))
    (hf : 1 ≤ zF z % 1000) (ho : 21 ≤ zO z) (hst : (st.map x_cat).sum ≤ 8) (hc : cells ≤ zC z) (hs : slots ≤ zS z) (kk : x_Wt X ρ0 n0 (zL z) p l e R s m args below meth c Q (pc + 3) ls (xI (max a b) :: st) M h cells slots) : x_Wt X ρ0 n0 (zL z) p l e R s m args below meth c Q (pc) ls (xI b :: xI a :: st) M h cells slots := by
  intro ρ lsC H locs S
  refine va_mmax hx.1 hx.2.1 (hx.2.2.1.trans S.1.1.symm) hx.own w1 w2 w3 w4 (by rw [hx.rm]; exact hf) (by rw [hx.rm, x_sumc]; show _ + _ ≤ zO z; omega) (by rw [hx.rm]; exact hc) (by rw [hx.rm]; exact hs) d ?_
  have hb : x_i32 b := S.top
  have ha : x_i32 a := S.pop.top
  have hv : x_vk h (xI (max a b)) := by show x_i32 _; unfold x_i32 at *; omega
  have e1 : (if Int32.ofInt a < Int32.ofInt b then Int32.ofInt b else Int32.ofInt a) = Int32.ofInt (max a b) := by
    by_cases hab : a < b
    · rw [if_pos ((i32_lt ha hb).mpr hab), show max a b = b by omega]
    · rw [if_neg (fun z => hab ((i32_lt ha hb).mp z)), show max a b = a by omega]
  rw [e1]
  exact kk ρ lsC H locs (S.pop.pop.push hv)
theorem sn_obj (hx : x_Cx X z p l R s m args meth c) {idx r : Nat} (w1 : (Cond.methodLink (zN z).cls idx Lib.objectInit).before args s = true) (w2 : (Cond.instanceMethod Lib.objectInit).before args s = true) (w3 : (Cond.code Lib.objectInit ⟨#[0xb1]⟩ 1 none).before args s = true) (hr : hK h r < 25) (d : decode (zB z) pc = .ok (.invokespecial idx, 3))
    (hf : 1 ≤ zF z % 1000) (ho : 20 ≤ zO z) (hst : (st.map x_cat).sum ≤ 8) (kk : x_Wt X ρ0 n0 (zL z) p l e R s m args below meth c Q (pc + 3) ls st M h cells slots) : x_Wt X ρ0 n0 (zL z) p l e R s m args below meth c Q (pc) ls (xA r :: st) M h cells slots := by
  intro ρ lsC H locs S
  obtain ⟨a1, -⟩ := S.2.2.1.2.2.lt rfl hr
  show W p l e R s m args below meth c H locs cells slots Q (F0 m pc lsC (va_rf (x_rf ρ r) :: st.map (x_c X ρ)))
  rw [x_rf_s (show r ≠ 0 by omega)]
  exact W.objInit hx.1 hx.2.1 hx.own w1 w2 w3 rfl (S.1.1.trans hx.2.2.1.symm) rfl d (by rw [hx.rm]; exact hf) (by rw [hx.rm, x_sumc]; show 2 * 0 + _ + 12 ≤ zO z; omega) (kk ρ lsC H locs S.pop)
theorem x_blind {ρ : Nat → Nat} {as : List xV} : FrameBlind (x_Pc X ρ as M h) := fun a U g mk ⟨q1, q2, q3, q4, q5, q6⟩ => ⟨q1, q2, q3, q4, va_K.moved (u := U) (U := U.calling g mk a) (Vm.Alike.refl U.vm) q5, x_O.warm (u := U) (U := U.calling g mk a) (State.WarmedH.refl U) q6⟩
/-- the world of a point as a callee asks it -/
theorem x_St.pre (hx : x_Cx X z p l R s m args meth c) {ρ : Nat → Nat} {lsC : Array Slot} {H : Heap} {locs : List Loc} {st' as : List xV} (S : x_St X ρ0 n0 (zL z) s ρ lsC H locs ls st' M h) (has : ∀ a ∈ as, x_vk h a) (U : State) (hU : U.heap = H) (hW : s.WarmedH U.vm) : x_Pc X ρ as M h (as.map (x_c X ρ)).toArray U :=
  ⟨rfl, has, by rw [hU]; exact Nat.le_trans hx.B S.2.2.2.1.1, by rw [hU]; exact S.2.2.1, va_K.moved hW.alike hx.K, by rw [hU]; exact (x_O.warm hW (hx.O.kept S.2.2.2.1.2.1))⟩
/-- behind a call: the same locals and stack over what came back -/
theorem x_St.back {ρ ρ' : Nat → Nat} {lsC : Array Slot} {H H1 : Heap} {locs locs1 : List Loc} {M' : xM} {h' : xH} (S : x_St X ρ0 n0 (zL z) s ρ lsC H locs ls st M h) (hext : x_ext ρ ρ' (hn h)) (hle : hn h ≤ hn h') (P : x_P X ρ' M' h' H1) (hS : va_S (x_A X) s.heap H1 locs1) : x_St X ρ0 n0 (zL z) s ρ' lsC H1 locs1 ls st M' h' ∧ st.map (x_c X ρ') = st.map (x_c X ρ) := by
  have key : ∀ v, x_vk h v → x_c X ρ' v = x_c X ρ v := by
    intro v hv
    rcases v with x | x | r | a | i
    · rfl
    · rfl
    · show va_rf (x_rf ρ' r) = va_rf (x_rf ρ r)
      unfold x_rf
      rw [hext r hv]
    · rfl
    · rfl
  refine ⟨⟨⟨S.1.1, S.1.2.1, fun i v hi => ⟨by rw [key v (S.loc hi).2]; exact (S.loc hi).1, (S.loc hi).2.grow hle⟩⟩, fun v hv => (S.2.1 v hv).grow hle, P, hS, fun id hid => ?_, Nat.le_trans S.2.2.2.2.2 hle⟩, List.map_congr_left fun v hv => key v (S.2.1 v hv)⟩
  rw [hext id (Nat.lt_of_lt_of_le hid S.2.2.2.2.2)]
  exact S.2.2.2.2.1 id hid
/-- how a call that returns or throws goes on -/
theorem x_after (hx : x_Cx X z p l R s m args meth c) {ρ : Nat → Nat} {lsC : Array Slot} {H : Heap} {locs : List Loc} {st0 : List Value} {as : Array Value} {mc ms : Nat} {Ψ : xO → xM → xH → Prop} (S : x_St X ρ0 n0 (zL z) s ρ lsC H locs ls st M h)
    (hr : vx_Run p l e R s m args below meth c H locs cells slots mc ms (F0 m pc lsC st0) (st.map (x_c X ρ)) (x_Qc X ρ (hn h) Ψ as) (x_XC X ρ (hn h) Ψ) (x_A X)) (hc : cells + mc ≤ zC z) (hs : slots + ms ≤ zS z)
    (k0 : ∀ M' h', Ψ (.inl none) M' h' → x_Wt X ρ0 n0 (zL z) p l e R s m args below meth c (x_Q X ρ0 n0 Φ below args s z) (pc + 3) ls st M' h' (cells + mc) (slots + ms)) (k1 : ∀ v M' h', Ψ (.inl (some v)) M' h' → x_Wt X ρ0 n0 (zL z) p l e R s m args below meth c (x_Q X ρ0 n0 Φ below args s z) (pc + 3) ls (v :: st) M' h' (cells + mc) (slots + ms)) (k2 : ∀ e M' h', Ψ (.inr e) M' h' → Φ (.inr e) M' h') :
    W p l e R s m args below meth c H locs cells slots (x_Q X ρ0 n0 Φ below args s z) (F0 m pc lsC st0) := by
  intro T hT X9
  rcases hr T hT X9 with ⟨v, st₀, t, T', L, h0, X', hL, e1, e2, ⟨⟨r', ρ', M', h', ho, hΨ, hvk, hext, hle, P'⟩, hF⟩, go⟩ | ⟨q, st₀, t, T', L, E, ce, h0, X', hL, e1, e2, ⟨⟨ee, ρ', M', h', hE, hΨ, hext, hle, P'⟩, hF⟩, hce, hcv, hcl, go⟩
  · obtain ⟨-, -, hS1⟩ := vx_keep h0 e1 S.2.2.2.1 (fun q _ h => h) (fun q h => h) hL hF
    rw [← e1] at P'
    obtain ⟨S1, e3⟩ := S.back hext hle P' hS1
    cases ho
    cases r' with
    | none =>
      obtain ⟨t2, a1, b1⟩ := k0 M' h' hΨ ρ' lsC T'.heap (locs ++ L) S1 T' rfl X'
      rw [e3] at a1
      exact ⟨t2, go t2 a1, b1⟩
    | some v =>
      obtain ⟨t2, a1, b1⟩ := k1 v M' h' hΨ ρ' lsC T'.heap (locs ++ L) (S1.push (hvk v rfl)) T' rfl X'
      rw [List.map_cons, e3] at a1
      exact ⟨t2, go t2 a1, b1⟩
  · obtain ⟨-, -, hS1⟩ := vx_keep h0 e1 S.2.2.2.1 (fun q _ h => h) (fun q h => h) hL hF
    rw [← e1] at P' hce
    obtain ⟨t2, a1, b1⟩ := vx_out (l := l) (p := p) (e := e) (R := R) (m := m) (args := args) (below := below) (meth := meth) (c := c) (Qc := x_Qc X ρ0 n0 Φ) (XC := x_XC X ρ0 n0 Φ) (ls := lsC) (pc := pc) (rest := st.map (x_c X ρ)) (H := T'.heap) (locs := locs ++ L) (free := x_A X) (mc := zC z) (ms := zS z) (cells := cells + mc) (slots := slots + ms)
      (fun x h => absurd h (fun h => hx.exc x h)) hx.lock hce hcv hcl (fun t9 ht9 _ => ⟨⟨ee, ρ', M', h', hE, k2 ee M' h' hΨ, fun id hid => by rw [hext id (Nat.lt_of_lt_of_le hid S.2.2.2.2.2)]; exact S.2.2.2.2.1 id hid, Nat.le_trans S.2.2.2.2.2 hle, by rw [ht9]; exact P'⟩, x_vF hS1 ht9⟩) hS1.2.2 hc hs T' rfl X'
    exact ⟨t2, go.trans a1, b1⟩
/-- what a call asks of the tables and the room -/
def x_zok (z zz : xMD) (n : Nat) : Prop := (x_cw zz ∈ x_tb) ∧ (Cond.initialized (zN zz).cls ∈ x_tb) ∧ ((zN zz).cls ≠ "java/lang/invoke/MethodHandle" ∧ (zN zz).cls ≠ "java/lang/invoke/VarHandle") ∧ (parseMethodDescriptor (zN zz).desc).map (fun d => d.parameters.length) = some n ∧ zF zz % 1000 + 1 ≤ zF z % 1000 ∧ 8 + (zL zz + 11) + zO zz ≤ zO z
theorem x_goodtb : ∀ w ∈ x_tb, (w.onTables && w.keeps) = true ∨ ∃ ty, w = .arrayClass ty := fun w hw => good_of_word (List.mem_filter.mp hw).2
theorem x_callB (hx : x_Cx X z p l R s m args meth c) {zz : xMD} {idx n : Nat} (hz : x_zok z zz n) (hf : zF zz < 1000) (hl : (Cond.methodLink (zN z).cls idx (zN zz)).before args s = true) : CallB R s args (zN z).cls idx (zN zz) (zB zz) (zL zz) (zR zz) (x_w1 zz) (x_rm zz) (zC zz) (zS zz) n := by
  obtain ⟨z1, z2, z3, z4, z5, z6⟩ := hz
  refine ⟨rfl, rfl, by rw [hx.rm]; exact z5, by rw [hx.rm]; exact z6, fun w hw a' U hW => ?_, (by rw [← x_cw_n hf]; exact List.mem_cons_self), (by rw [← x_cw_n hf]; exact hx.hts _ z1), hx.hts _ z2, z3, fun sig hsig => ?_, hl⟩
  · have hm : w ∈ x_tb := by
      rcases List.mem_cons.mp hw with rfl | h
      · exact z1
      · exact h
    exact word_at hW (x_goodtb w hm) (hx.hts w hm)
  · rw [hsig] at z4
    exact (Option.some.inj z4).symm
theorem x_fix (hx : x_Cx X z p l R s m args meth c) : CallFix p m c (zB z) (zL z) s args x_tb (zN z).cls := ⟨hx.1, hx.2.1, hx.2.2.1, hx.own, hx.hts⟩
theorem x_rmap {ρ : Nat → Nat} (as : List xV) : (as.reverse).map (x_c X ρ) = (as.map (x_c X ρ)).reverse := List.map_reverse
theorem sn_callS (hx : x_Cx X z p l R s m args meth c) {zz : xMD} {idx : Nat} {as : List xV} {Ψ : xO → xM → xH → Prop} (w1 : (Cond.methodLink (zN z).cls idx (zN zz)).before args s = true) (w2 : (Cond.static (zN zz)).before args s = true) (d : decode (zB z) pc = .ok (.invokestatic idx, 3)) (hM : x_Cal zz as M h Ψ) (hz : x_zok z zz as.length) (hst : (st.map x_cat).sum ≤ 8) (hc : cells + zC zz ≤ zC z) (hs : slots + zS zz ≤ zS z)
    (k0 : ∀ M' h', Ψ (.inl none) M' h' → x_Wt X ρ0 n0 (zL z) p l e R s m args below meth c (x_Q X ρ0 n0 Φ below args s z) (pc + 3) ls st M' h' (cells + zC zz) (slots + zS zz)) (k1 : ∀ v M' h', Ψ (.inl (some v)) M' h' → x_Wt X ρ0 n0 (zL z) p l e R s m args below meth c (x_Q X ρ0 n0 Φ below args s z) (pc + 3) ls (v :: st) M' h' (cells + zC zz) (slots + zS zz)) (k2 : ∀ e M' h', Ψ (.inr e) M' h' → Φ (.inr e) M' h') : x_Wt X ρ0 n0 (zL z) p l e R s m args below meth c (x_Q X ρ0 n0 Φ below args s z) (pc) ls (as.reverse ++ st) M h cells slots := by
  intro ρ lsC H locs S
  have hS1 : x_St X ρ0 n0 (zL z) s ρ lsC H locs ls st M h := ⟨S.1, fun v hv => S.2.1 v (List.mem_append_right _ hv), S.2.2⟩
  have has : ∀ a ∈ as, x_vk h a := fun a ha => S.2.1 a (List.mem_append_left _ (List.mem_reverse.mpr ha))
  have e0 : (as.reverse ++ st).map (x_c X ρ) = (as.map (x_c X ρ)).reverse ++ st.map (x_c X ρ) := by rw [List.map_append, x_rmap]
  rw [e0]
  by_cases hf : zF zz < 1000
  · exact x_after hx hS1 (vx_runS (g := F0 m pc lsC ((as.map (x_c X ρ)).reverse ++ st.map (x_c X ρ))) (As := as.map (x_c X ρ)) (x_fix hx) (hM l hx.tr X ρ) ⟨x_callB hx hz hf w1, w2⟩ ⟨x_blind, fun U hU hW => hS1.pre hx has U hU hW⟩ rfl (by rw [List.length_map]) S.1.1 rfl (lv_room (by rw [x_sumc]; exact hst)) d ⟨by rw [hx.rm]; exact hc, by rw [hx.rm]; exact hs⟩) hc hs k0 k1 k2
  · exact x_after hx hS1 (vx_runSX (hh := x_hh zz) (bytes := zB zz) (maxL := zL zz) (ret := zR zz) (g := F0 m pc lsC ((as.map (x_c X ρ)).reverse ++ st.map (x_c X ρ))) (As := as.map (x_c X ρ)) (x_fix hx) (hM l hx.tr X ρ) ⟨⟨rfl, rfl, by rw [hx.rm]; exact hz.2.2.2.2.1, by rw [hx.rm]; exact hz.2.2.2.2.2, fun w hw a' U hW => (by have hm : w ∈ x_tb := (List.mem_cons.mp hw).elim (fun e => by rw [e]; exact hz.1) id; exact word_at hW (x_goodtb w hm) (hx.hts w hm)), (by rw [← x_cw_h hf]; exact List.mem_cons_self)⟩, (by rw [← x_cw_h hf]; exact hx.hts _ hz.1), hx.hts _ hz.2.1, hz.2.2.1, fun sig hsig => (by have := hz.2.2.2.1; rw [hsig] at this; exact (Option.some.inj this).symm), w1, w2⟩ ⟨x_blind, fun U hU hW => hS1.pre hx has U hU hW⟩ rfl (by rw [List.length_map]) S.1.1 rfl (lv_room (by rw [x_sumc]; exact hst)) d ⟨by rw [hx.rm]; exact hc, by rw [hx.rm]; exact hs⟩) hc hs k0 k1 k2
theorem x_recv (hx : x_Cx X z p l R s m args meth c) {ρ : Nat → Nat} {lsC : Array Slot} {H : Heap} {locs : List Loc} {st' : List xV} {r q : Nat} (S : x_St X ρ0 n0 (zL z) s ρ lsC H locs ls st' M h) (hq : q < 10) (hr : hK h r = q) : r ≠ 0 ∧ ∃ cellB : Cell, H[ρ r]? = some cellB ∧ cellB.vm.isStatics = false ∧ s.vm.findClass (x_cl q).1 = some cellB.cls := by
  obtain ⟨a1, a2⟩ := S.2.2.1.2.2.lt hr (by omega)
  have he := x_ws_get (X := X) (ρ := ρ) (M := M) a1 a2
  rw [x_cell_obj hr hq] at he
  exact ⟨by omega, va_recv hx.K S.2.2.1.1 (xc_ok q hq).1 he⟩
theorem sn_callV (hx : x_Cx X z p l R s m args meth c) {zz : xMD} {idx q r : Nat} {as : List xV} {Ψ : xO → xM → xH → Prop} (w1 : (Cond.methodLink (zN z).cls idx (zN zz)).before args s = true) (w2 : (Cond.instanceMethod (zN zz)).before args s = true) (w3 : (Cond.selects (x_cl q).1 (zN zz) (zN zz)).before args s = true) (d : decode (zB z) pc = .ok (.invokevirtual idx, 3)) (hq : q < 10) (hr : hK h r = q) (hM : x_Cal zz (xA r :: as) M h Ψ) (hz : x_zok z zz as.length ∧ zF zz < 1000) (hst : (st.map x_cat).sum ≤ 8) (hc : cells + zC zz ≤ zC z) (hs : slots + zS zz ≤ zS z)
    (k0 : ∀ M' h', Ψ (.inl none) M' h' → x_Wt X ρ0 n0 (zL z) p l e R s m args below meth c (x_Q X ρ0 n0 Φ below args s z) (pc + 3) ls st M' h' (cells + zC zz) (slots + zS zz)) (k1 : ∀ v M' h', Ψ (.inl (some v)) M' h' → x_Wt X ρ0 n0 (zL z) p l e R s m args below meth c (x_Q X ρ0 n0 Φ below args s z) (pc + 3) ls (v :: st) M' h' (cells + zC zz) (slots + zS zz)) (k2 : ∀ e M' h', Ψ (.inr e) M' h' → Φ (.inr e) M' h') : x_Wt X ρ0 n0 (zL z) p l e R s m args below meth c (x_Q X ρ0 n0 Φ below args s z) (pc) ls (as.reverse ++ xA r :: st) M h cells slots := by
  intro ρ lsC H locs S
  obtain ⟨hr0, hcell⟩ := x_recv hx S hq hr
  have hS1 : x_St X ρ0 n0 (zL z) s ρ lsC H locs ls st M h := ⟨S.1, fun v hv => S.2.1 v (List.mem_append_right _ (List.mem_cons_of_mem _ hv)), S.2.2⟩
  have has : ∀ a ∈ as, x_vk h a := fun a ha => S.2.1 a (List.mem_append_left _ (List.mem_reverse.mpr ha))
  have hra : ∀ a ∈ xA r :: as, x_vk h a := fun a ha => by
    rcases List.mem_cons.mp ha with rfl | ha
    · exact S.2.1 _ (List.mem_append_right _ List.mem_cons_self)
    · exact has a ha
  have e1 : x_c X ρ (xA r) = .ref (ρ r) := by
    show va_rf (x_rf ρ r) = _
    rw [x_rf_s hr0]
    rfl
  have e0 : (as.reverse ++ xA r :: st).map (x_c X ρ) = (as.map (x_c X ρ)).reverse ++ .ref (ρ r) :: st.map (x_c X ρ) := by rw [List.map_append, x_rmap, List.map_cons, e1]
  have hPc : ∀ U : State, U.heap = H → s.WarmedH U.vm → x_Pc X ρ (xA r :: as) M h (Value.ref (ρ r) :: as.map (x_c X ρ)).toArray U := fun U hU hW => by
    have := hS1.pre hx hra U hU hW
    rw [List.map_cons, e1] at this
    exact this
  rw [e0]
  exact x_after hx hS1 (vx_runV (g := F0 m pc lsC ((as.map (x_c X ρ)).reverse ++ .ref (ρ r) :: st.map (x_c X ρ))) (As := as.map (x_c X ρ)) (x_fix hx) (hM l hx.tr X ρ) ⟨x_callB hx hz.1 hz.2 w1, w2, w3⟩ ⟨x_blind, hcell, hPc⟩ rfl (by rw [List.length_map]) S.1.1 rfl (lv_room (by rw [x_sumc]; exact hst)) d ⟨by rw [hx.rm]; exact hc, by rw [hx.rm]; exact hs⟩) hc hs k0 k1 k2
theorem sn_callVS (hx : x_Cx X z p l R s m args meth c) {zz : xMD} {idx r : Nat} {as : List xV} {Ψ : xO → xM → xH → Prop} (w1 : (Cond.methodLink (zN z).cls idx (zN zz)).before args s = true) (w2 : (Cond.instanceMethod (zN zz)).before args s = true) (w3 : (Cond.selects "java/lang/String" (zN zz) (zN zz)).before args s = true) (d : decode (zB z) pc = .ok (.invokevirtual idx, 3)) (hM : x_Cal zz (xS r :: as) M h Ψ) (hz : x_zok z zz as.length ∧ zF zz < 1000) (hst : (st.map x_cat).sum ≤ 8) (hc : cells + zC zz ≤ zC z) (hs : slots + zS zz ≤ zS z)
    (k0 : ∀ M' h', Ψ (.inl none) M' h' → x_Wt X ρ0 n0 (zL z) p l e R s m args below meth c (x_Q X ρ0 n0 Φ below args s z) (pc + 3) ls st M' h' (cells + zC zz) (slots + zS zz)) (k1 : ∀ v M' h', Ψ (.inl (some v)) M' h' → x_Wt X ρ0 n0 (zL z) p l e R s m args below meth c (x_Q X ρ0 n0 Φ below args s z) (pc + 3) ls (v :: st) M' h' (cells + zC zz) (slots + zS zz)) (k2 : ∀ e M' h', Ψ (.inr e) M' h' → Φ (.inr e) M' h') : x_Wt X ρ0 n0 (zL z) p l e R s m args below meth c (x_Q X ρ0 n0 Φ below args s z) (pc) ls (as.reverse ++ xS r :: st) M h cells slots := by
  intro ρ lsC H locs S
  have hr12 : r < 22 := S.2.1 (xS r) (List.mem_append_right _ List.mem_cons_self)
  have hcell := vk_recv (hx.O.2.2.2.1.1 _ hr12) Nat.zero_lt_one S.2.2.2.1
  have hS1 : x_St X ρ0 n0 (zL z) s ρ lsC H locs ls st M h := ⟨S.1, fun v hv => S.2.1 v (List.mem_append_right _ (List.mem_cons_of_mem _ hv)), S.2.2⟩
  have has : ∀ a ∈ as, x_vk h a := fun a ha => S.2.1 a (List.mem_append_left _ (List.mem_reverse.mpr ha))
  have hra : ∀ a ∈ xS r :: as, x_vk h a := fun a ha => by
    rcases List.mem_cons.mp ha with rfl | ha
    · exact S.2.1 _ (List.mem_append_right _ List.mem_cons_self)
    · exact has a ha
  have e0 : (as.reverse ++ xS r :: st).map (x_c X ρ) = (as.map (x_c X ρ)).reverse ++ .ref (XK X r) :: st.map (x_c X ρ) := by rw [List.map_append, x_rmap, List.map_cons]; rfl
  have hPc : ∀ U : State, U.heap = H → s.WarmedH U.vm → x_Pc X ρ (xS r :: as) M h (Value.ref (XK X r) :: as.map (x_c X ρ)).toArray U := fun U hU hW => hS1.pre hx hra U hU hW
  rw [e0]
  exact x_after hx hS1 (vx_runV (g := F0 m pc lsC ((as.map (x_c X ρ)).reverse ++ .ref (XK X r) :: st.map (x_c X ρ))) (As := as.map (x_c X ρ)) (x_fix hx) (hM l hx.tr X ρ) ⟨x_callB hx hz.1 hz.2 w1, w2, w3⟩ ⟨x_blind, hcell, hPc⟩ rfl (by rw [List.length_map]) S.1.1 rfl (lv_room (by rw [x_sumc]; exact hst)) d ⟨by rw [hx.rm]; exact hc, by rw [hx.rm]; exact hs⟩) hc hs k0 k1 k2
theorem vx_of_va {H : Heap} {locs : List Loc} {mc ms : Nat} {g : JFrame} {rest : List Value} {Qa : State → Outcome → State → Prop} {XC : String → State → State → Prop} {free : Addr → Prop} (h : va_Run p l e R s m args below meth c H locs cells slots mc ms g rest Qa free) : vx_Run p l e R s m args below meth c H locs cells slots mc ms g rest Qa XC free := fun T hT X9 => Or.inl (h T hT X9)
theorem sn_lret (hx : x_Cx X z p l R s m args meth c) {v : Int} (hr : zR z = some .long) (d : decode (zB z) pc = .ok (.lreturn, 1)) (hc : cells ≤ zC z) (hs : slots ≤ zS z) (hΦ : Φ (.inl (some (xJ v))) M h) : x_Wt X ρ0 n0 (zL z) p l e R s m args below meth c (x_Q X ρ0 n0 Φ below args s z) (pc) ls [xJ v] M h cells slots := by
  intro ρ lsC H locs S
  exact W.widen hc hs (vx_ret (W.lret hx.1 hx.2.1 (hx.ret.trans hr) (fun t ht _ => S.post (r := some (xJ v)) hΦ t ht) S.2.2.2.1.2.2 d hx.lock))
theorem sn_callVX (hx : x_Cx X z p l R s m args meth c) {zz zx : xMD} {idx q r : Nat} {as : List xV} {Ψ : xO → xM → xH → Prop} (w1 : (Cond.methodLink (zN z).cls idx (zN zx)).before args s = true) (w2 : (Cond.instanceMethod (zN zz)).before args s = true) (w3 : (Cond.selects (x_cl q).1 (zN zx) (zN zz)).before args s = true) (w4 : (Cond.sameMethod (zN zx).cls (zN zx).cls (zN zx).name (zN zx).desc).before args s = true) (w5 : (Cond.instanceMethod (zN zx)).before args s = true) (w6 : (Cond.code (zN zx) (zB zx) (zL zx) (zR zx)).before args s = true) (w7 : (zN zx).cls ≠ "java/lang/invoke/MethodHandle" ∧ (zN zx).cls ≠ "java/lang/invoke/VarHandle") (w8 : (parseMethodDescriptor (zN zx).desc).map (fun d => d.parameters.length) = some as.length) (d : decode (zB z) pc = .ok (.invokevirtual idx, 3)) (hq : q < 10) (hr : hK h r = q) (hno : ∀ e M' h', ¬ Ψ (.inr e) M' h') (hM : x_Cal zz (xA r :: as) M h Ψ) (hz : x_zok z zz as.length ∧ zF zz < 1000) (hst : (st.map x_cat).sum ≤ 8) (hc : cells + zC zz ≤ zC z) (hs : slots + zS zz ≤ zS z)
    (k0 : ∀ M' h', Ψ (.inl none) M' h' → x_Wt X ρ0 n0 (zL z) p l e R s m args below meth c (x_Q X ρ0 n0 Φ below args s z) (pc + 3) ls st M' h' (cells + zC zz) (slots + zS zz)) (k1 : ∀ v M' h', Ψ (.inl (some v)) M' h' → x_Wt X ρ0 n0 (zL z) p l e R s m args below meth c (x_Q X ρ0 n0 Φ below args s z) (pc + 3) ls (v :: st) M' h' (cells + zC zz) (slots + zS zz)) : x_Wt X ρ0 n0 (zL z) p l e R s m args below meth c (x_Q X ρ0 n0 Φ below args s z) (pc) ls (as.reverse ++ xA r :: st) M h cells slots := by
  intro ρ lsC H locs S
  obtain ⟨hr0, hcell⟩ := x_recv hx S hq hr
  have hS1 : x_St X ρ0 n0 (zL z) s ρ lsC H locs ls st M h := ⟨S.1, fun v hv => S.2.1 v (List.mem_append_right _ (List.mem_cons_of_mem _ hv)), S.2.2⟩
  have has : ∀ a ∈ as, x_vk h a := fun a ha => S.2.1 a (List.mem_append_left _ (List.mem_reverse.mpr ha))
  have hra : ∀ a ∈ xA r :: as, x_vk h a := fun a ha => by
    rcases List.mem_cons.mp ha with rfl | ha
    · exact S.2.1 _ (List.mem_append_right _ List.mem_cons_self)
    · exact has a ha
  have e1 : x_c X ρ (xA r) = .ref (ρ r) := by
    show va_rf (x_rf ρ r) = _
    rw [x_rf_s hr0]
    rfl
  have e0 : (as.reverse ++ xA r :: st).map (x_c X ρ) = (as.map (x_c X ρ)).reverse ++ .ref (ρ r) :: st.map (x_c X ρ) := by rw [List.map_append, x_rmap, List.map_cons, e1]
  have hPc : ∀ U : State, U.heap = H → s.WarmedH U.vm → x_Pc X ρ (xA r :: as) M h (Value.ref (ρ r) :: as.map (x_c X ρ)).toArray U := fun U hU hW => by
    have := hS1.pre hx hra U hU hW
    rw [List.map_cons, e1] at this
    exact this
  have hmet := met_of_vx (hM l hx.tr X ρ) (fun E st t hX => by
    obtain ⟨⟨ee, -, M', h', -, hΨ, -⟩, -⟩ := hX
    exact hno ee M' h' hΨ)
  rw [e0]
  exact x_after hx hS1 (vx_of_va (va_runU (x := zN zx) (bytes := zB zz) (maxL := zL zz) (ret := zR zz) (g := F0 m pc lsC ((as.map (x_c X ρ)).reverse ++ .ref (ρ r) :: st.map (x_c X ρ))) (As := as.map (x_c X ρ)) (x_fix hx) hmet ⟨⟨rfl, rfl, by rw [hx.rm]; exact hz.1.2.2.2.2.1, by rw [hx.rm]; exact hz.1.2.2.2.2.2, fun w hw a' U hW => (by have hm : w ∈ x_tb := (List.mem_cons.mp hw).elim (fun e => by rw [e]; exact hz.1.1) id; exact word_at hW (x_goodtb w hm) (hx.hts w hm)), (by have h9 : x_cw zz ∈ x_w1 zz := List.mem_cons_self; rw [x_cw_n hz.2] at h9; exact h9)⟩, (by have h9 := hx.hts _ hz.1.1; rw [x_cw_n hz.2] at h9; exact h9), hx.hts _ hz.1.2.1, w7, fun sig hsig => (by rw [hsig] at w8; exact (Option.some.inj w8).symm), w1, w4, va_Decl.of w5 w6, w3, w2⟩ ⟨x_blind, hcell, hPc⟩ rfl (by rw [List.length_map]) S.1.1 rfl (lv_room (by rw [x_sumc]; exact hst)) d ⟨by rw [hx.rm]; exact hc, by rw [hx.rm]; exact hs⟩)) hc hs k0 k1 (fun e M' h' hΨ => absurd hΨ (hno e M' h'))
theorem sn_callSU (hx : x_Cx X z p l R s m args meth c) {zz : xMD} {idx q r : Nat} {as : List xV} {Ψ : xO → xM → xH → Prop} (w1 : (Cond.methodLink (zN z).cls idx (zN zz)).before args s = true) (w2 : (Cond.instanceMethod (zN zz)).before args s = true) (w4 : (Cond.sameMethod (zN zz).cls (zN zz).cls (zN zz).name (zN zz).desc).before args s = true) (w5 : (Cond.superclass (zN z).cls (zN zz).cls).before args s = true) (w6 : (zN zz).name ≠ "<init>") (d : decode (zB z) pc = .ok (.invokespecial idx, 3)) (hq : q < 10) (hr : hK h r = q) (hno : ∀ e M' h', ¬ Ψ (.inr e) M' h') (hM : x_Cal zz (xA r :: as) M h Ψ) (hz : x_zok z zz as.length ∧ zF zz < 1000) (hst : (st.map x_cat).sum ≤ 8) (hc : cells + zC zz ≤ zC z) (hs : slots + zS zz ≤ zS z)
    (k0 : ∀ M' h', Ψ (.inl none) M' h' → x_Wt X ρ0 n0 (zL z) p l e R s m args below meth c (x_Q X ρ0 n0 Φ below args s z) (pc + 3) ls st M' h' (cells + zC zz) (slots + zS zz)) (k1 : ∀ v M' h', Ψ (.inl (some v)) M' h' → x_Wt X ρ0 n0 (zL z) p l e R s m args below meth c (x_Q X ρ0 n0 Φ below args s z) (pc + 3) ls (v :: st) M' h' (cells + zC zz) (slots + zS zz)) : x_Wt X ρ0 n0 (zL z) p l e R s m args below meth c (x_Q X ρ0 n0 Φ below args s z) (pc) ls (as.reverse ++ xA r :: st) M h cells slots := by
  intro ρ lsC H locs S
  obtain ⟨hr0, hcell⟩ := x_recv hx S hq hr
  have hS1 : x_St X ρ0 n0 (zL z) s ρ lsC H locs ls st M h := ⟨S.1, fun v hv => S.2.1 v (List.mem_append_right _ (List.mem_cons_of_mem _ hv)), S.2.2⟩
  have has : ∀ a ∈ as, x_vk h a := fun a ha => S.2.1 a (List.mem_append_left _ (List.mem_reverse.mpr ha))
  have hra : ∀ a ∈ xA r :: as, x_vk h a := fun a ha => by
    rcases List.mem_cons.mp ha with rfl | ha
    · exact S.2.1 _ (List.mem_append_right _ List.mem_cons_self)
    · exact has a ha
  have e1 : x_c X ρ (xA r) = .ref (ρ r) := by
    show va_rf (x_rf ρ r) = _
    rw [x_rf_s hr0]
    rfl
  have e0 : (as.reverse ++ xA r :: st).map (x_c X ρ) = (as.map (x_c X ρ)).reverse ++ .ref (ρ r) :: st.map (x_c X ρ) := by rw [List.map_append, x_rmap, List.map_cons, e1]
  have hPc : ∀ U : State, U.heap = H → s.WarmedH U.vm → x_Pc X ρ (xA r :: as) M h (Value.ref (ρ r) :: as.map (x_c X ρ)).toArray U := fun U hU hW => by
    have := hS1.pre hx hra U hU hW
    rw [List.map_cons, e1] at this
    exact this
  have hmet := met_of_vx (hM l hx.tr X ρ) (fun E st t hX => by
    obtain ⟨⟨ee, -, M', h', -, hΨ, -⟩, -⟩ := hX
    exact hno ee M' h' hΨ)
  rw [e0]
  exact x_after hx hS1 (vx_of_va (va_runSU (bytes := zB zz) (maxL := zL zz) (ret := zR zz) (g := F0 m pc lsC ((as.map (x_c X ρ)).reverse ++ .ref (ρ r) :: st.map (x_c X ρ))) (As := as.map (x_c X ρ)) (hx.K.1 q _ (xc_ok q hq).1).2 (x_fix hx) hmet ⟨⟨rfl, rfl, by rw [hx.rm]; exact hz.1.2.2.2.2.1, by rw [hx.rm]; exact hz.1.2.2.2.2.2, fun w hw a' U hW => (by have hm : w ∈ x_tb := (List.mem_cons.mp hw).elim (fun e => by rw [e]; exact hz.1.1) id; exact word_at hW (x_goodtb w hm) (hx.hts w hm)), (by have h9 : x_cw zz ∈ x_w1 zz := List.mem_cons_self; rw [x_cw_n hz.2] at h9; exact h9)⟩, w1, w4, w5, w2, hx.hts _ hz.1.2.1, (by have h9 := hx.hts _ hz.1.1; rw [x_cw_n hz.2] at h9; exact h9), w6, fun sig hsig => (by have := hz.1.2.2.2.1; rw [hsig] at this; exact (Option.some.inj this).symm)⟩ ⟨x_blind, hcell, hPc⟩ rfl (by rw [List.length_map]) S.1.1 rfl (lv_room (by rw [x_sumc]; exact hst)) d ⟨by rw [hx.rm]; exact hc, by rw [hx.rm]; exact hs⟩)) hc hs k0 k1 (fun e M' h' hΨ => absurd hΨ (hno e M' h'))
theorem sn_callI (hx : x_Cx X z p l R s m args meth c) {zz : xMD} {idx q r : Nat} {as : List xV} {Ψ : xO → xM → xH → Prop} (w1 : (Cond.methodLink (zN z).cls idx (zN zz)).before args s = true) (w2 : (Cond.instanceMethod (zN zz)).before args s = true) (hy : (zN zz).name = "<init>") (hr2 : zR zz = none) (d : decode (zB z) pc = .ok (.invokespecial idx, 3)) (hq : q < 10) (hr : hK h r = q) (hno : ∀ e M' h', ¬ Ψ (.inr e) M' h') (hM : x_Cal zz (xA r :: as) M h Ψ) (hz : x_zok z zz as.length ∧ zF zz < 1000) (hst : (st.map x_cat).sum ≤ 8) (hc : cells + zC zz ≤ zC z) (hs : slots + zS zz ≤ zS z)
    (k0 : ∀ M' h', Ψ (.inl none) M' h' → x_Wt X ρ0 n0 (zL z) p l e R s m args below meth c (x_Q X ρ0 n0 Φ below args s z) (pc + 3) ls st M' h' (cells + zC zz) (slots + zS zz)) (k1 : ∀ v M' h', Ψ (.inl (some v)) M' h' → x_Wt X ρ0 n0 (zL z) p l e R s m args below meth c (x_Q X ρ0 n0 Φ below args s z) (pc + 3) ls (v :: st) M' h' (cells + zC zz) (slots + zS zz)) : x_Wt X ρ0 n0 (zL z) p l e R s m args below meth c (x_Q X ρ0 n0 Φ below args s z) (pc) ls (as.reverse ++ xA r :: st) M h cells slots := by
  intro ρ lsC H locs S
  obtain ⟨hr0, hcell⟩ := x_recv hx S hq hr
  have hS1 : x_St X ρ0 n0 (zL z) s ρ lsC H locs ls st M h := ⟨S.1, fun v hv => S.2.1 v (List.mem_append_right _ (List.mem_cons_of_mem _ hv)), S.2.2⟩
  have has : ∀ a ∈ as, x_vk h a := fun a ha => S.2.1 a (List.mem_append_left _ (List.mem_reverse.mpr ha))
  have hra : ∀ a ∈ xA r :: as, x_vk h a := fun a ha => by
    rcases List.mem_cons.mp ha with rfl | ha
    · exact S.2.1 _ (List.mem_append_right _ List.mem_cons_self)
    · exact has a ha
  have e1 : x_c X ρ (xA r) = .ref (ρ r) := by
    show va_rf (x_rf ρ r) = _
    rw [x_rf_s hr0]
    rfl
  have e0 : (as.reverse ++ xA r :: st).map (x_c X ρ) = (as.map (x_c X ρ)).reverse ++ .ref (ρ r) :: st.map (x_c X ρ) := by rw [List.map_append, x_rmap, List.map_cons, e1]
  have hPc : ∀ U : State, U.heap = H → s.WarmedH U.vm → x_Pc X ρ (xA r :: as) M h (Value.ref (ρ r) :: as.map (x_c X ρ)).toArray U := fun U hU hW => by
    have := hS1.pre hx hra U hU hW
    rw [List.map_cons, e1] at this
    exact this
  have hmet := met_of_vx (hM l hx.tr X ρ) (fun E st t hX => by
    obtain ⟨⟨ee, -, M', h', -, hΨ, -⟩, -⟩ := hX
    exact hno ee M' h' hΨ)
  rw [e0]
  exact x_after hx hS1 (vx_of_va (va_runI (bytes := zB zz) (maxL := zL zz) (g := F0 m pc lsC ((as.map (x_c X ρ)).reverse ++ .ref (ρ r) :: st.map (x_c X ρ))) (As := as.map (x_c X ρ)) (x_fix hx) hmet ⟨(by have := x_callB hx hz.1 hz.2 w1; rw [hr2] at this; exact this), hy, w2⟩ ⟨x_blind, hPc⟩ rfl (by rw [List.length_map]) S.1.1 rfl (lv_room (by rw [x_sumc]; exact hst)) d ⟨by rw [hx.rm]; exact hc, by rw [hx.rm]; exact hs⟩)) hc hs k0 k1 (fun e M' h' hΨ => absurd hΨ (hno e M' h'))
theorem sn_callIN (hx : x_Cx X z p l R s m args meth c) {zz : xMD} {idx q r : Nat} {as : List xV} {Ψ : xO → xM → xH → Prop} (host : String) (w1 : (Cond.methodLinkNest (zN z).cls idx (zN zz) host).before args s = true) (w2 : (Cond.instanceMethod (zN zz)).before args s = true) (hy : (zN zz).name = "<init>") (hr2 : zR zz = none) (d : decode (zB z) pc = .ok (.invokespecial idx, 3)) (hq : q < 10) (hr : hK h r = q) (hno : ∀ e M' h', ¬ Ψ (.inr e) M' h') (hM : x_Cal zz (xA r :: as) M h Ψ) (hz : x_zok z zz as.length ∧ zF zz < 1000) (hst : (st.map x_cat).sum ≤ 8) (hc : cells + zC zz ≤ zC z) (hs : slots + zS zz ≤ zS z)
    (k0 : ∀ M' h', Ψ (.inl none) M' h' → x_Wt X ρ0 n0 (zL z) p l e R s m args below meth c (x_Q X ρ0 n0 Φ below args s z) (pc + 3) ls st M' h' (cells + zC zz) (slots + zS zz)) (k1 : ∀ v M' h', Ψ (.inl (some v)) M' h' → x_Wt X ρ0 n0 (zL z) p l e R s m args below meth c (x_Q X ρ0 n0 Φ below args s z) (pc + 3) ls (v :: st) M' h' (cells + zC zz) (slots + zS zz)) : x_Wt X ρ0 n0 (zL z) p l e R s m args below meth c (x_Q X ρ0 n0 Φ below args s z) (pc) ls (as.reverse ++ xA r :: st) M h cells slots := by
  intro ρ lsC H locs S
  obtain ⟨hr0, hcell⟩ := x_recv hx S hq hr
  have hS1 : x_St X ρ0 n0 (zL z) s ρ lsC H locs ls st M h := ⟨S.1, fun v hv => S.2.1 v (List.mem_append_right _ (List.mem_cons_of_mem _ hv)), S.2.2⟩
  have has : ∀ a ∈ as, x_vk h a := fun a ha => S.2.1 a (List.mem_append_left _ (List.mem_reverse.mpr ha))
  have hra : ∀ a ∈ xA r :: as, x_vk h a := fun a ha => by
    rcases List.mem_cons.mp ha with rfl | ha
    · exact S.2.1 _ (List.mem_append_right _ List.mem_cons_self)
    · exact has a ha
  have e1 : x_c X ρ (xA r) = .ref (ρ r) := by
    show va_rf (x_rf ρ r) = _
    rw [x_rf_s hr0]
    rfl
  have e0 : (as.reverse ++ xA r :: st).map (x_c X ρ) = (as.map (x_c X ρ)).reverse ++ .ref (ρ r) :: st.map (x_c X ρ) := by rw [List.map_append, x_rmap, List.map_cons, e1]
  have hPc : ∀ U : State, U.heap = H → s.WarmedH U.vm → x_Pc X ρ (xA r :: as) M h (Value.ref (ρ r) :: as.map (x_c X ρ)).toArray U := fun U hU hW => by
    have := hS1.pre hx hra U hU hW
    rw [List.map_cons, e1] at this
    exact this
  have hmet := met_of_vx (hM l hx.tr X ρ) (fun E st t hX => by
    obtain ⟨⟨ee, -, M', h', -, hΨ, -⟩, -⟩ := hX
    exact hno ee M' h' hΨ)
  rw [e0]
  exact x_after hx hS1 (vx_of_va (va_runIN (bytes := zB zz) (maxL := zL zz) (g := F0 m pc lsC ((as.map (x_c X ρ)).reverse ++ .ref (ρ r) :: st.map (x_c X ρ))) (As := as.map (x_c X ρ)) (x_fix hx) hmet ⟨⟨⟨rfl, rfl, by rw [hx.rm]; exact hz.1.2.2.2.2.1, by rw [hx.rm]; exact hz.1.2.2.2.2.2, fun w hw a' U hW => (by have hm : w ∈ x_tb := (List.mem_cons.mp hw).elim (fun e => by rw [e]; exact hz.1.1) id; exact word_at hW (x_goodtb w hm) (hx.hts w hm)), (by have h9 : x_cw zz ∈ x_w1 zz := List.mem_cons_self; rw [x_cw_n hz.2, hr2] at h9; exact h9)⟩, (by have h9 := hx.hts _ hz.1.1; rw [x_cw_n hz.2, hr2] at h9; exact h9), hx.hts _ hz.1.2.1, hz.1.2.2.1, fun sig hsig => (by have := hz.1.2.2.2.1; rw [hsig] at this; exact (Option.some.inj this).symm), w1⟩, hy, w2⟩ ⟨x_blind, hPc⟩ rfl (by rw [List.length_map]) S.1.1 rfl (lv_room (by rw [x_sumc]; exact hst)) d ⟨by rw [hx.rm]; exact hc, by rw [hx.rm]; exact hs⟩)) hc hs k0 k1 (fun e M' h' hΨ => absurd hΨ (hno e M' h'))
end SC
end
section
/-! the check of a method's table against its bytes and the tables' words -/
def x_has (p : Nat) (w : Jvm.Cond) : Bool := decide (x_tbl[p]? = some w) && goodWord w
theorem x_has_in {p : Nat} {w : Jvm.Cond} (h : x_has p w = true) : w ∈ x_tb := by
  unfold x_has at h
  rw [Bool.and_eq_true, decide_eq_true_eq] at h
  exact List.mem_filter.mpr ⟨List.mem_of_getElem? h.1, h.2⟩
def x_hasO (p : Nat) (w : Jvm.Cond) : Bool := decide (x_tbl[p]? = some w) && x_odd w
theorem x_hasO_in {p : Nat} {w : Jvm.Cond} (h : x_hasO p w = true) : w ∈ x_tbl ∧ x_odd w = true := by
  unfold x_hasO at h
  rw [Bool.and_eq_true, decide_eq_true_eq] at h
  exact ⟨List.mem_of_getElem? h.1, h.2⟩
def x_okz (z zz : xMD) (n pc pi : Nat) : Bool := x_has pc (x_cw zz) && (x_has pi (.initialized (zN zz).cls) && (decide ((zN zz).cls ≠ "java/lang/invoke/MethodHandle" ∧ (zN zz).cls ≠ "java/lang/invoke/VarHandle") && (decide ((parseMethodDescriptor (zN zz).desc).map (fun d => d.parameters.length) = some n) && (decide (zF zz % 1000 + 1 ≤ zF z % 1000) && decide (8 + (zL zz + 11) + zO zz ≤ zO z)))))
theorem x_okz_in {z zz : xMD} {n pc pi : Nat} (h : x_okz z zz n pc pi = true) : x_zok z zz n := by
  unfold x_okz at h
  simp only [Bool.and_eq_true, decide_eq_true_eq] at h
  obtain ⟨h1, h2, h3, h4, h5, h6⟩ := h
  exact ⟨x_has_in h1, x_has_in h2, h3, h4, h5, h6⟩
def x_okv (z zz : xMD) (n pc pi : Nat) : Bool := x_okz z zz n pc pi && decide (zF zz < 1000)
theorem x_okv_in {z zz : xMD} {n pc pi : Nat} (h : x_okv z zz n pc pi = true) : x_zok z zz n ∧ zF zz < 1000 := by
  unfold x_okv at h
  rw [Bool.and_eq_true, decide_eq_true_eq] at h
  exact ⟨x_okz_in h.1, h.2⟩
def x_in32 (x : Int) : Bool := decide (-2147483648 ≤ x) && decide (x < 2147483648)
theorem x_in32_in {x : Int} (h : x_in32 x = true) : x_i32 x := by
  unfold x_in32 at h
  simp only [Bool.and_eq_true, decide_eq_true_eq] at h
  exact h
def x_own (z : xMD) : String := (zN z).cls
def x_tag (t : FieldType) : Nat := match t with
  | .int => 0
  | .long => 1
  | .object _ => 2
  | .array _ => 2
  | .byte => 3
  | _ => 9
def x_flk (z : xMD) (idx q i : Nat) : Jvm.Cond := Jvm.Cond.fieldLink (zN z).cls idx ((x_cl q).2.1 i).1 ((x_cl q).2.1 i).2.1 ((x_cl q).2.1 i).2.2.1
/-- the throws of ScoreParts: pool entries of class and constructor, the exception's number -/
def x_thl : List (Nat × Nat × Nat) := [(56, 58, 0), (63, 65, 1), (94, 96, 2), (196, 198, 3)]
def x_rcn (q : Nat) : String := if q = 50 then "java/lang/String" else (x_cl q).1
def x_aty (t : ArrayType) : Nat := match t with
  | .int => 20
  | .byte => 21
  | .long => 22
  | _ => 99
def x_rtc (t : Option FieldType) : Nat := match t with
  | none => 0
  | some .int => 1
  | some .boolean => 2
  | some .long => 3
  | some (.object _) => 4
  | some (.array _) => 4
  | _ => 9
def x_ok1 (z : xMD) (pc len : Nat) (i : Instr) (k : List Nat) (zs : List xMD) : Bool := match i with
  | .iconst x => x_in32 x && len == 1
  | .bipush x => x_in32 x && (decide ((Int8.ofInt x).toInt32 = Int32.ofInt x) && len == 2)
  | .sipush x => x_in32 x && (decide ((Int16.ofInt x).toInt32 = Int32.ofInt x) && len == 3)
  | .lconst _ => len == 1
  | .aconst_null => len == 1
  | .ldc idx => (match k with
    | 1 :: v :: p :: _ => x_has p (.constant (zN z).cls idx (Int32.ofNat v)) && (decide (v < 2147483648) && len == 2)
    | 2 :: v :: _ => (match x_str[v]? with | some q => decide (q.1 = (zN z).cls) && (decide (q.2.1 = idx) && len == 2) | none => false)
    | _ => false)
  | .ldc2_w idx => (match k with
    | v :: p :: _ => x_has p (.constantLong (zN z).cls idx (Int64.ofNat v)) && (decide (v < 9223372036854775808) && len == 3)
    | _ => false)
  | .iload _ | .lload _ | .aload _ => len == 2
  | .iload_n _ | .lload_n _ | .aload_n _ => len == 1
  | .istore i => decide (i < zL z) && len == 2
  | .astore i => decide (i < zL z) && len == 2
  | .lstore i => decide (i + 1 < zL z) && len == 2
  | .istore_n i => decide (i.val < zL z) && len == 1
  | .astore_n i => decide (i.val < zL z) && len == 1
  | .lstore_n i => decide (i.val + 1 < zL z) && len == 1
  | .iinc _ _ => len == 3
  | .iadd | .isub | .imul | .idiv | .irem | .iand | .ior | .ixor | .ishl | .ishr | .i2l | .l2i | .i2b | .ladd | .lsub | .lmul | .land | .lshr | .lcmp | .dup | .dup2 | .pop | .ineg | .i2c | .iushr | .lor | .lshl | .dup_x1 => len == 1
  | .iaload | .baload | .aaload | .iastore | .bastore | .aastore | .arraylength => len == 1
  | .getstatic idx => (match k with | _ :: p :: _ => x_has p (.fieldLink (zN z).cls idx "java/lang/String" "COMPACT_STRINGS" "Z") && len == 3 | _ => false)
  | .ifCond _ o => (match k with | [t] => decide ((pc : Int) + o = t) && len == 3 | _ => false)
  | .if_icmp _ o => (match k with | [t] => decide ((pc : Int) + o = t) && len == 3 | _ => false)
  | .ifnull o => (match k with | [t] => decide ((pc : Int) + o = t) && len == 3 | _ => false)
  | .ifnonnull o => (match k with | [t] => decide ((pc : Int) + o = t) && len == 3 | _ => false)
  | .goto o => (match k with | [t] => decide ((pc : Int) + o = t) && len == 3 | _ => false)
  | .tableswitch d lo hi os => (match k with | t :: ts => decide ((pc : Int) + d = t) && (decide (os.toList.map (fun o => (pc : Int) + o) = ts.map (fun (x : Nat) => (x : Int))) && (decide (hi + 1 = lo + os.size) && (x_in32 lo && x_in32 hi))) | _ => false)
  | .lookupswitch d ps => (match k with | t :: ts => decide ((pc : Int) + d = t) && (decide (ps.toList.map (fun o => (pc : Int) + o.2) = ts.map (fun (x : Nat) => (x : Int))) && (ps.toList.zip (ps.toList.drop 1)).all (fun (a, next) => a.1 < next.1)) | _ => false)
  | .getfield idx => (match k with | q :: i :: t :: p :: _ => decide (q < 10) && (decide (i < x_N q) && (decide (x_tag (x_ty q i) = t) && (x_has p (x_flk z idx q i) && len == 3))) | _ => false)
  | .putfield idx => (match k with | q :: i :: t :: p :: _ => decide (q < 10) && (decide (i < x_N q) && (decide (x_tag (x_ty q i) = t) && (x_has p (x_flk z idx q i) && (decide (((x_cl q).2.1 i).2.2.2 = false ∨ (((x_cl q).2.1 i).2.2.2 = true ∧ (zN z).name = "<init>" ∧ ((x_cl q).2.1 i).1 = (zN z).cls)) && (decide (x_isl q i = (t == 1)) && len == 3))))) | _ => false)
  | .new idx => (match k with | q :: p1 :: p2 :: p3 :: _ => decide (q < 10) && (x_has p1 (.classLink (zN z).cls idx (x_cl q).1) && (x_has p2 (.instantiable (x_cl q).1 (x_N q)) && (x_has p3 (.initialized (x_cl q).1) && len == 3))) | _ => false)
  | .newarray t => (match k with | q :: p :: _ => decide (x_aty t = q) && (decide (q < 22) && (x_has p (.arrayClass (newarray.typeOf t)) && len == 2)) | _ => false)
  | .anewarray idx => (match k with
    | q :: p1 :: p2 :: _ => (decide (q = 23) && (x_has p1 (.classLink (zN z).cls idx RX1) && (x_hasO p2 (.arrayOver (.object RX1)) && len == 3))) || (decide (q = 24) && (x_has p1 (.classLink (zN z).cls idx RX4) && (x_hasO p2 (.arrayOver (.object RX4)) && len == 3)))
    | _ => false)
  | .invokevirtual idx => (match k, zs with
    | na :: mc :: ms :: q :: pl :: pi :: pe :: p1 :: p2 :: _, [zz] => decide (zC zz = mc) && (decide (zS zz = ms) && (decide (q < 10 ∨ q = 50) && (x_has pl (.methodLink (zN z).cls idx (zN zz)) && (x_has pi (.instanceMethod (zN zz)) && (x_has pe (.selects (x_rcn q) (zN zz) (zN zz)) && (x_okv z zz na p2 p1 && len == 3))))))
    | na :: mc :: ms :: q :: pl :: pi :: pe :: p1 :: p2 :: psm :: pix :: pcx :: _, [zz, zx] => decide (zC zz = mc) && (decide (zS zz = ms) && (decide (q < 10) && (x_has pl (.methodLink (zN z).cls idx (zN zx)) && (x_has pi (.instanceMethod (zN zz)) && (x_has pe (.selects (x_cl q).1 (zN zx) (zN zz)) && (x_has psm (.sameMethod (zN zx).cls (zN zx).cls (zN zx).name (zN zx).desc) && (x_has pix (.instanceMethod (zN zx)) && (x_has pcx (.code (zN zx) (zB zx) (zL zx) (zR zx)) && (decide ((zN zx).cls ≠ "java/lang/invoke/MethodHandle" ∧ (zN zx).cls ≠ "java/lang/invoke/VarHandle") && (decide ((parseMethodDescriptor (zN zx).desc).map (fun d => d.parameters.length) = some na) && (x_okv z zz na p2 p1 && len == 3)))))))))))
    | _, _ => false)
  | .invokespecial idx => (match k, zs with
    | 1003 :: pl :: pi :: p2 :: _, [] => x_has pl (.methodLink (zN z).cls idx Lib.objectInit) && (x_has pi (.instanceMethod Lib.objectInit) && (x_has p2 (.code Lib.objectInit ⟨#[0xb1]⟩ 1 none) && (decide (1 ≤ zF z % 1000) && (decide (20 ≤ zO z) && len == 3))))
    | na :: mc :: ms :: q :: nst :: pl :: pi :: p1 :: p2 :: _, [zz] => decide (zC zz = mc) && (decide (zS zz = ms) && (decide (q < 10) && (((decide (nst = 0) && x_has pl (.methodLink (zN z).cls idx (zN zz))) || (decide (nst = 1) && x_hasO pl (.methodLinkNest (zN z).cls idx (zN zz) RX7))) && (x_has pi (.instanceMethod (zN zz)) && (decide ((zN zz).name = "<init>") && (decide (zR zz = none) && (x_okv z zz na p2 p1 && len == 3)))))))
    | na :: mc :: ms :: q :: pl :: pi :: psm :: psu :: p1 :: p2 :: _, [zz, zx] => decide (zC zz = mc) && (decide (zS zz = ms) && (decide (q < 10) && (x_has pl (.methodLink (zN z).cls idx (zN zx)) && (x_has pi (.instanceMethod (zN zz)) && (x_has psm (.sameMethod (zN zz).cls (zN zz).cls (zN zz).name (zN zz).desc) && (x_has psu (.superclass (zN z).cls (zN zz).cls) && (decide (zN zx = zN zz) && (decide ((zN zz).name ≠ "<init>") && (x_okv z zz na p2 p1 && len == 3)))))))))
    | _, _ => false)
  | .invokestatic idx => (match k, zs with
    | 1000 :: pl :: pn :: ps :: pi :: _, [] => x_has pl (.methodLink (zN z).cls idx arraycopyName) && (x_has pn (.native arraycopyName) && (x_has ps (.static arraycopyName) && (x_has pi (.initialized "java/lang/System") && (decide (1 ≤ zF z % 1000) && (decide (8 + (nativeFrameWords "java/lang/System" "arraycopy" 5 + 11) ≤ zO z) && len == 3)))))
    | 1005 :: pl :: pn :: ps :: pi :: _, [] => x_has pl (.methodLink (zN z).cls idx arraycopyName) && (x_has pn (.native arraycopyName) && (x_has ps (.static arraycopyName) && (x_has pi (.initialized "java/lang/System") && (decide (1 ≤ zF z % 1000) && (decide (8 + (nativeFrameWords "java/lang/System" "arraycopy" 5 + 11) ≤ zO z) && len == 3)))))
    | 1001 :: pl :: ps :: pi :: p2 :: _, [] => x_has pl (.methodLink (zN z).cls idx Lib.Math.min.name) && (x_has ps (.static Lib.Math.min.name) && (x_has pi (.initialized "java/lang/Math") && (x_has p2 (.code Lib.Math.min.name Lib.Math.min.code 2 (some .int)) && (decide (1 ≤ zF z % 1000) && (decide (21 ≤ zO z) && len == 3)))))
    | 1002 :: pl :: ps :: pi :: p2 :: _, [] => x_has pl (.methodLink (zN z).cls idx Lib.Math.max.name) && (x_has ps (.static Lib.Math.max.name) && (x_has pi (.initialized "java/lang/Math") && (x_has p2 (.code Lib.Math.max.name Lib.Math.max.code 2 (some .int)) && (decide (1 ≤ zF z % 1000) && (decide (21 ≤ zO z) && len == 3)))))
    | na :: mc :: ms :: pl :: ps :: p1 :: p2 :: _, [zz] => decide (zC zz = mc) && (decide (zS zz = ms) && (x_has pl (.methodLink (zN z).cls idx (zN zz)) && (x_has ps (.static (zN zz)) && (x_okz z zz na p2 p1 && len == 3))))
    | _, _ => false)
  | .return_ => len == 1
  | .ireturn => len == 1
  | .areturn => len == 1
  | .lreturn => len == 1
  | _ => false
def x_chk (z : xMD) : Nat → List xPI → Bool
  | _, [] => true
  | pc, (.nop, k, zs) :: _ => (match k, zs with | [t], [] => t == pc | _, _ => false)
  | pc, (.athrow, k, zs) :: _ => (match k, zs with
    | [e, ik, ic], [] => decide (decode (zB z) pc = .ok (.new ik, 3)) && (decide (decode (zB z) (pc + 3) = .ok (.dup, 1)) && (decide (decode (zB z) (pc + 4) = .ok (.invokespecial ic, 3)) && (decide (decode (zB z) (pc + 7) = .ok (.athrow, 1)) && (decide ((zN z).cls = RX7) && (decide ((ik, ic, e) ∈ x_thl) && (decide (6 ≤ zF z % 1000) && decide (89 ≤ zO z)))))))
    | _, _ => false)
  | pc, (i, k, zs) :: is => (match decode (zB z) pc with | .ok (j, len) => decide (j = i) && (x_ok1 z pc len i k zs && x_chk z (pc + len) is) | .error _ => false)
def x_chkB (z : xMD) (B : xB) : Bool := B.all (fun b => x_chk z b.1 b.2.2) && (plainName (zN z).cls && (decide (x_rtc (zR z) < 9) && decide (zF z < 1000)))
end
section
theorem x_tag0 {t : FieldType} (h : x_tag t = 0) : t = .int := by cases t <;> simp [x_tag] at h <;> rfl
theorem x_tag1 {t : FieldType} (h : x_tag t = 1) : t = .long := by cases t <;> simp [x_tag] at h <;> rfl
theorem x_fv2 {t : FieldType} (h : x_tag t = 2) {ρ : Nat → Nat} {m : Int} {r : Nat} {X : xX} : x_fv ρ t m r = x_c X ρ (xA r) := by cases t <;> simp [x_tag] at h <;> rfl
theorem x_nar2 {t : FieldType} (h : x_tag t = 2) {ρ : Nat → Nat} {r : Nat} (X : xX) : narrow t (x_c X ρ (xA r)) = x_c X ρ (xA r) := by
  show narrow t (va_rf (x_rf ρ r)) = va_rf (x_rf ρ r)
  generalize x_rf ρ r = y
  cases t <;> simp [x_tag] at h <;> cases y <;> rfl
theorem x_fit2 {t : FieldType} (h : x_tag t = 2) {ρ : Nat → Nat} {r : Nat} (X : xX) : fits t (x_c X ρ (xA r)) = true := by
  show fits t (va_rf (x_rf ρ r)) = true
  generalize x_rf ρ r = y
  cases t <;> simp [x_tag] at h <;> cases y <;> rfl
theorem x_isl_i {q i : Nat} (hq : q < 10) (h : x_ty q i = .int) : x_isl q i = false := by
  unfold x_isl
  by_cases h8 : q = 8
  · subst h8
    rw [Int.toNat_natCast, h]
    rfl
  · (simp [h8]) <;> omega
theorem x_isl_tab : ∀ q, q < 10 → ∀ i, i < x_N q → (x_ty q i == .long) = true → q = 8 := by decide +kernel
theorem x_isl_l {q i : Nat} (hq : q < 10) (hi : i < x_N q) (h : x_ty q i = .long) : x_isl q i = true := by
  have h8 := x_isl_tab q hq i hi (by rw [h]; rfl)
  subst h8
  unfold x_isl
  rw [Int.toNat_natCast, h]
  rfl
theorem x_tag3 {t : FieldType} (h : x_tag t = 3) : t = .byte := by cases t <;> simp [x_tag] at h <;> rfl
theorem x_isl_b {q i : Nat} (hq : q < 10) (h : x_ty q i = .byte) : x_isl q i = false := by
  unfold x_isl
  by_cases h8 : q = 8
  · subst h8
    rw [Int.toNat_natCast, h]
    rfl
  · (simp [h8]) <;> omega
theorem x_w8f {v : Int} (h : w8 v = v) : -128 ≤ v ∧ v < 128 := by
  have h1 := Int.le_bmod (x := v) (m := 256) (by decide)
  have h2 := Int.bmod_lt (x := v) (m := 256) (by decide)
  unfold w8 at h
  rw [h] at h1 h2
  omega
theorem x_nb {v : Int} (h : w8 v = v) : narrow .byte (.int (Int32.ofInt v)) = .int (Int32.ofInt v) := by
  obtain ⟨h1, h2⟩ := x_w8f h
  have key : ∀ y : Nat, y < 256 → narrow .byte (.int (Int32.ofInt ((y : Int) - 128))) = .int (Int32.ofInt ((y : Int) - 128)) := by decide +kernel
  have := key (v + 128).toNat (by omega)
  rw [show (((v + 128).toNat : Nat) : Int) - 128 = v by omega] at this
  exact this
section SS
variable {X : xX} {ρ0 : Nat → Nat} {n0 : Nat} {z : xMD} {p : Program} {l : Launch} {e : Env} {R : Room} {s : State} {m : MethodId} {args : Array Value} {below : List Frame} {meth : Method} {c : Code} {Φ : xO → xM → xH → Prop}
variable {pc cells slots len : Nat} {ls : xL} {st : List xV} {M : xM} {h : xH} {J : xJT} {is : List xPI} {k : List Nat} {zs : List xMD} {sc : xSc}
theorem ss_iconst (hx : x_Cx X z p l R s m args meth c) {x : Int} (hk : x_ok1 z pc len (.iconst x) k zs = true) (d : decode (zB z) pc = .ok ((.iconst x), len)) (hc : cells ≤ zC z) (hs : slots ≤ zS z) (hw : wpL x_Cal (zC z, zS z, x_rtc (zR z), sc) J Φ (((.iconst x), k, zs) :: is) ls st M h cells slots)
    (hN : ∀ ls st M h c' n', c' ≤ zC z → n' ≤ zS z → wpL x_Cal (zC z, zS z, x_rtc (zR z), sc) J Φ is ls st M h c' n' → x_Wt X ρ0 n0 (zL z) p l e R s m args below meth c (x_Q X ρ0 n0 Φ below args s z) (pc + len) ls st M h c' n')
    (hJ : ∀ t ls st M h c' n', c' ≤ zC z → n' ≤ zS z → J t ls st M h c' n' → x_Wt X ρ0 n0 (zL z) p l e R s m args below meth c (x_Q X ρ0 n0 Φ below args s z) (t) ls st M h c' n') : x_Wt X ρ0 n0 (zL z) p l e R s m args below meth c (x_Q X ρ0 n0 Φ below args s z) (pc) ls st M h cells slots := by
  simp only [x_ok1, Bool.and_eq_true, decide_eq_true_eq, beq_iff_eq] at hk
  obtain ⟨h1, rfl⟩ := hk
  simp only [wpL] at hw
  exact sn_iconst hx (x_in32_in h1) d (hN _ _ _ _ _ _ hc hs hw)
theorem ss_bipush (hx : x_Cx X z p l R s m args meth c) {x : Int} (hk : x_ok1 z pc len (.bipush x) k zs = true) (d : decode (zB z) pc = .ok ((.bipush x), len)) (hc : cells ≤ zC z) (hs : slots ≤ zS z) (hw : wpL x_Cal (zC z, zS z, x_rtc (zR z), sc) J Φ (((.bipush x), k, zs) :: is) ls st M h cells slots)
    (hN : ∀ ls st M h c' n', c' ≤ zC z → n' ≤ zS z → wpL x_Cal (zC z, zS z, x_rtc (zR z), sc) J Φ is ls st M h c' n' → x_Wt X ρ0 n0 (zL z) p l e R s m args below meth c (x_Q X ρ0 n0 Φ below args s z) (pc + len) ls st M h c' n')
    (hJ : ∀ t ls st M h c' n', c' ≤ zC z → n' ≤ zS z → J t ls st M h c' n' → x_Wt X ρ0 n0 (zL z) p l e R s m args below meth c (x_Q X ρ0 n0 Φ below args s z) (t) ls st M h c' n') : x_Wt X ρ0 n0 (zL z) p l e R s m args below meth c (x_Q X ρ0 n0 Φ below args s z) (pc) ls st M h cells slots := by
  simp only [x_ok1, Bool.and_eq_true, decide_eq_true_eq, beq_iff_eq] at hk
  obtain ⟨h1, h2, rfl⟩ := hk
  simp only [wpL] at hw
  exact sn_bipush hx (x_in32_in h1) h2 d (hN _ _ _ _ _ _ hc hs hw)
theorem ss_sipush (hx : x_Cx X z p l R s m args meth c) {x : Int} (hk : x_ok1 z pc len (.sipush x) k zs = true) (d : decode (zB z) pc = .ok ((.sipush x), len)) (hc : cells ≤ zC z) (hs : slots ≤ zS z) (hw : wpL x_Cal (zC z, zS z, x_rtc (zR z), sc) J Φ (((.sipush x), k, zs) :: is) ls st M h cells slots)
    (hN : ∀ ls st M h c' n', c' ≤ zC z → n' ≤ zS z → wpL x_Cal (zC z, zS z, x_rtc (zR z), sc) J Φ is ls st M h c' n' → x_Wt X ρ0 n0 (zL z) p l e R s m args below meth c (x_Q X ρ0 n0 Φ below args s z) (pc + len) ls st M h c' n')
    (hJ : ∀ t ls st M h c' n', c' ≤ zC z → n' ≤ zS z → J t ls st M h c' n' → x_Wt X ρ0 n0 (zL z) p l e R s m args below meth c (x_Q X ρ0 n0 Φ below args s z) (t) ls st M h c' n') : x_Wt X ρ0 n0 (zL z) p l e R s m args below meth c (x_Q X ρ0 n0 Φ below args s z) (pc) ls st M h cells slots := by
  simp only [x_ok1, Bool.and_eq_true, decide_eq_true_eq, beq_iff_eq] at hk
  obtain ⟨h1, h2, rfl⟩ := hk
  simp only [wpL] at hw
  exact sn_sipush hx (x_in32_in h1) h2 d (hN _ _ _ _ _ _ hc hs hw)
theorem ss_lconst (hx : x_Cx X z p l R s m args meth c) {x : Fin 2} (hk : x_ok1 z pc len (.lconst x) k zs = true) (d : decode (zB z) pc = .ok ((.lconst x), len)) (hc : cells ≤ zC z) (hs : slots ≤ zS z) (hw : wpL x_Cal (zC z, zS z, x_rtc (zR z), sc) J Φ (((.lconst x), k, zs) :: is) ls st M h cells slots)
    (hN : ∀ ls st M h c' n', c' ≤ zC z → n' ≤ zS z → wpL x_Cal (zC z, zS z, x_rtc (zR z), sc) J Φ is ls st M h c' n' → x_Wt X ρ0 n0 (zL z) p l e R s m args below meth c (x_Q X ρ0 n0 Φ below args s z) (pc + len) ls st M h c' n')
    (hJ : ∀ t ls st M h c' n', c' ≤ zC z → n' ≤ zS z → J t ls st M h c' n' → x_Wt X ρ0 n0 (zL z) p l e R s m args below meth c (x_Q X ρ0 n0 Φ below args s z) (t) ls st M h c' n') : x_Wt X ρ0 n0 (zL z) p l e R s m args below meth c (x_Q X ρ0 n0 Φ below args s z) (pc) ls st M h cells slots := by
  simp only [x_ok1, Bool.and_eq_true, decide_eq_true_eq, beq_iff_eq] at hk
  subst hk
  simp only [wpL] at hw
  exact sn_lconst hx d (hN _ _ _ _ _ _ hc hs hw)
theorem ss_null (hx : x_Cx X z p l R s m args meth c) (hk : x_ok1 z pc len .aconst_null k zs = true) (d : decode (zB z) pc = .ok (.aconst_null, len)) (hc : cells ≤ zC z) (hs : slots ≤ zS z) (hw : wpL x_Cal (zC z, zS z, x_rtc (zR z), sc) J Φ ((.aconst_null, k, zs) :: is) ls st M h cells slots)
    (hN : ∀ ls st M h c' n', c' ≤ zC z → n' ≤ zS z → wpL x_Cal (zC z, zS z, x_rtc (zR z), sc) J Φ is ls st M h c' n' → x_Wt X ρ0 n0 (zL z) p l e R s m args below meth c (x_Q X ρ0 n0 Φ below args s z) (pc + len) ls st M h c' n')
    (hJ : ∀ t ls st M h c' n', c' ≤ zC z → n' ≤ zS z → J t ls st M h c' n' → x_Wt X ρ0 n0 (zL z) p l e R s m args below meth c (x_Q X ρ0 n0 Φ below args s z) (t) ls st M h c' n') : x_Wt X ρ0 n0 (zL z) p l e R s m args below meth c (x_Q X ρ0 n0 Φ below args s z) (pc) ls st M h cells slots := by
  simp only [x_ok1, Bool.and_eq_true, decide_eq_true_eq, beq_iff_eq] at hk
  subst hk
  simp only [wpL] at hw
  exact sn_null hx d (hN _ _ _ _ _ _ hc hs hw)
theorem ss_ldc (hx : x_Cx X z p l R s m args meth c) {i : Nat} (hk : x_ok1 z pc len (.ldc i) k zs = true) (d : decode (zB z) pc = .ok ((.ldc i), len)) (hc : cells ≤ zC z) (hs : slots ≤ zS z) (hw : wpL x_Cal (zC z, zS z, x_rtc (zR z), sc) J Φ (((.ldc i), k, zs) :: is) ls st M h cells slots)
    (hN : ∀ ls st M h c' n', c' ≤ zC z → n' ≤ zS z → wpL x_Cal (zC z, zS z, x_rtc (zR z), sc) J Φ is ls st M h c' n' → x_Wt X ρ0 n0 (zL z) p l e R s m args below meth c (x_Q X ρ0 n0 Φ below args s z) (pc + len) ls st M h c' n')
    (hJ : ∀ t ls st M h c' n', c' ≤ zC z → n' ≤ zS z → J t ls st M h c' n' → x_Wt X ρ0 n0 (zL z) p l e R s m args below meth c (x_Q X ρ0 n0 Φ below args s z) (t) ls st M h c' n') : x_Wt X ρ0 n0 (zL z) p l e R s m args below meth c (x_Q X ρ0 n0 Φ below args s z) (pc) ls st M h cells slots := by
  simp only [wpL] at hw
  split at hw
  · rename_i v k
    cases k with
    | nil => exact absurd hk (by simp [x_ok1])
    | cons q k =>
      simp only [x_ok1, Bool.and_eq_true, decide_eq_true_eq, beq_iff_eq] at hk
      obtain ⟨h1, h2, rfl⟩ := hk
      intro ρ lsC H locs S
      exact lv_ldc (v := Int32.ofInt v) hx.1 hx.2.1 hx.own (by rw [Int32.ofInt_eq_ofNat]; exact hx.hts _ (x_has_in h1)) d (hN _ _ _ _ _ _ hc hs hw ρ lsC H locs (S.push (v := xI v) (by show x_i32 _; unfold x_i32; omega)))
  · rename_i v k
    simp only [x_ok1] at hk
    cases hq : x_str[v]? with
    | none => rw [hq] at hk; exact absurd hk (by simp)
    | some q =>
      rw [hq] at hk
      simp only [Bool.and_eq_true, decide_eq_true_eq, beq_iff_eq] at hk
      obtain ⟨h1, h2, rfl⟩ := hk
      intro ρ lsC H locs S
      have hv : v < 22 := (List.getElem?_eq_some_iff.mp hq).1
      exact va_ldcS hx.1 hx.2.1 hx.own (tx := q.2.2) (q := XK X v) (by have := hx.O.2.2.2.1.2 v q hq; rw [h1, h2] at this; exact this) d (hN _ _ _ _ _ _ hc hs hw ρ lsC H locs (S.push (v := xS v) hv))
  · exact hw.elim
theorem ss_ldcl (hx : x_Cx X z p l R s m args meth c) {i : Nat} (hk : x_ok1 z pc len (.ldc2_w i) k zs = true) (d : decode (zB z) pc = .ok ((.ldc2_w i), len)) (hc : cells ≤ zC z) (hs : slots ≤ zS z) (hw : wpL x_Cal (zC z, zS z, x_rtc (zR z), sc) J Φ (((.ldc2_w i), k, zs) :: is) ls st M h cells slots)
    (hN : ∀ ls st M h c' n', c' ≤ zC z → n' ≤ zS z → wpL x_Cal (zC z, zS z, x_rtc (zR z), sc) J Φ is ls st M h c' n' → x_Wt X ρ0 n0 (zL z) p l e R s m args below meth c (x_Q X ρ0 n0 Φ below args s z) (pc + len) ls st M h c' n')
    (hJ : ∀ t ls st M h c' n', c' ≤ zC z → n' ≤ zS z → J t ls st M h c' n' → x_Wt X ρ0 n0 (zL z) p l e R s m args below meth c (x_Q X ρ0 n0 Φ below args s z) (t) ls st M h c' n') : x_Wt X ρ0 n0 (zL z) p l e R s m args below meth c (x_Q X ρ0 n0 Φ below args s z) (pc) ls st M h cells slots := by
  simp only [wpL] at hw
  split at hw
  · rename_i v k
    cases k with
    | nil => exact absurd hk (by simp [x_ok1])
    | cons q k =>
      simp only [x_ok1, Bool.and_eq_true, decide_eq_true_eq, beq_iff_eq] at hk
      obtain ⟨h1, h2, rfl⟩ := hk
      intro ρ lsC H locs S
      exact lv_ldc2 (v := Int64.ofInt v) hx.1 hx.2.1 hx.own (by rw [Int64.ofInt_eq_ofNat]; exact hx.hts _ (x_has_in h1)) d (hN _ _ _ _ _ _ hc hs hw ρ lsC H locs (S.push (v := xJ v) (by show x_i64 _; unfold x_i64; omega)))
  · exact hw.elim
theorem ss_iload (hx : x_Cx X z p l R s m args meth c) {i : Nat} (hk : x_ok1 z pc len (.iload i) k zs = true) (d : decode (zB z) pc = .ok ((.iload i), len)) (hc : cells ≤ zC z) (hs : slots ≤ zS z) (hw : wpL x_Cal (zC z, zS z, x_rtc (zR z), sc) J Φ (((.iload i), k, zs) :: is) ls st M h cells slots)
    (hN : ∀ ls st M h c' n', c' ≤ zC z → n' ≤ zS z → wpL x_Cal (zC z, zS z, x_rtc (zR z), sc) J Φ is ls st M h c' n' → x_Wt X ρ0 n0 (zL z) p l e R s m args below meth c (x_Q X ρ0 n0 Φ below args s z) (pc + len) ls st M h c' n')
    (hJ : ∀ t ls st M h c' n', c' ≤ zC z → n' ≤ zS z → J t ls st M h c' n' → x_Wt X ρ0 n0 (zL z) p l e R s m args below meth c (x_Q X ρ0 n0 Φ below args s z) (t) ls st M h c' n') : x_Wt X ρ0 n0 (zL z) p l e R s m args below meth c (x_Q X ρ0 n0 Φ below args s z) (pc) ls st M h cells slots := by
  simp only [x_ok1, beq_iff_eq] at hk
  subst hk
  simp only [wpL] at hw
  split at hw
  · rename_i hl
    exact sn_iload hx hl d (hN _ _ _ _ _ _ hc hs hw)
  · exact hw.elim
theorem ss_iload_n (hx : x_Cx X z p l R s m args meth c) {i : Fin 4} (hk : x_ok1 z pc len (.iload_n i) k zs = true) (d : decode (zB z) pc = .ok ((.iload_n i), len)) (hc : cells ≤ zC z) (hs : slots ≤ zS z) (hw : wpL x_Cal (zC z, zS z, x_rtc (zR z), sc) J Φ (((.iload_n i), k, zs) :: is) ls st M h cells slots)
    (hN : ∀ ls st M h c' n', c' ≤ zC z → n' ≤ zS z → wpL x_Cal (zC z, zS z, x_rtc (zR z), sc) J Φ is ls st M h c' n' → x_Wt X ρ0 n0 (zL z) p l e R s m args below meth c (x_Q X ρ0 n0 Φ below args s z) (pc + len) ls st M h c' n')
    (hJ : ∀ t ls st M h c' n', c' ≤ zC z → n' ≤ zS z → J t ls st M h c' n' → x_Wt X ρ0 n0 (zL z) p l e R s m args below meth c (x_Q X ρ0 n0 Φ below args s z) (t) ls st M h c' n') : x_Wt X ρ0 n0 (zL z) p l e R s m args below meth c (x_Q X ρ0 n0 Φ below args s z) (pc) ls st M h cells slots := by
  simp only [x_ok1, beq_iff_eq] at hk
  subst hk
  simp only [wpL] at hw
  split at hw
  · rename_i hl
    exact sn_iload_n hx hl d (hN _ _ _ _ _ _ hc hs hw)
  · exact hw.elim
theorem ss_lload (hx : x_Cx X z p l R s m args meth c) {i : Nat} (hk : x_ok1 z pc len (.lload i) k zs = true) (d : decode (zB z) pc = .ok ((.lload i), len)) (hc : cells ≤ zC z) (hs : slots ≤ zS z) (hw : wpL x_Cal (zC z, zS z, x_rtc (zR z), sc) J Φ (((.lload i), k, zs) :: is) ls st M h cells slots)
    (hN : ∀ ls st M h c' n', c' ≤ zC z → n' ≤ zS z → wpL x_Cal (zC z, zS z, x_rtc (zR z), sc) J Φ is ls st M h c' n' → x_Wt X ρ0 n0 (zL z) p l e R s m args below meth c (x_Q X ρ0 n0 Φ below args s z) (pc + len) ls st M h c' n')
    (hJ : ∀ t ls st M h c' n', c' ≤ zC z → n' ≤ zS z → J t ls st M h c' n' → x_Wt X ρ0 n0 (zL z) p l e R s m args below meth c (x_Q X ρ0 n0 Φ below args s z) (t) ls st M h c' n') : x_Wt X ρ0 n0 (zL z) p l e R s m args below meth c (x_Q X ρ0 n0 Φ below args s z) (pc) ls st M h cells slots := by
  simp only [x_ok1, beq_iff_eq] at hk
  subst hk
  simp only [wpL] at hw
  split at hw
  · rename_i hl
    exact sn_lload hx hl d (hN _ _ _ _ _ _ hc hs hw)
  · exact hw.elim
theorem ss_lload_n (hx : x_Cx X z p l R s m args meth c) {i : Fin 4} (hk : x_ok1 z pc len (.lload_n i) k zs = true) (d : decode (zB z) pc = .ok ((.lload_n i), len)) (hc : cells ≤ zC z) (hs : slots ≤ zS z) (hw : wpL x_Cal (zC z, zS z, x_rtc (zR z), sc) J Φ (((.lload_n i), k, zs) :: is) ls st M h cells slots)
    (hN : ∀ ls st M h c' n', c' ≤ zC z → n' ≤ zS z → wpL x_Cal (zC z, zS z, x_rtc (zR z), sc) J Φ is ls st M h c' n' → x_Wt X ρ0 n0 (zL z) p l e R s m args below meth c (x_Q X ρ0 n0 Φ below args s z) (pc + len) ls st M h c' n')
    (hJ : ∀ t ls st M h c' n', c' ≤ zC z → n' ≤ zS z → J t ls st M h c' n' → x_Wt X ρ0 n0 (zL z) p l e R s m args below meth c (x_Q X ρ0 n0 Φ below args s z) (t) ls st M h c' n') : x_Wt X ρ0 n0 (zL z) p l e R s m args below meth c (x_Q X ρ0 n0 Φ below args s z) (pc) ls st M h cells slots := by
  simp only [x_ok1, beq_iff_eq] at hk
  subst hk
  simp only [wpL] at hw
  split at hw
  · rename_i hl
    exact sn_lload_n hx hl d (hN _ _ _ _ _ _ hc hs hw)
  · exact hw.elim
theorem ss_aload (hx : x_Cx X z p l R s m args meth c) {i : Nat} (hk : x_ok1 z pc len (.aload i) k zs = true) (d : decode (zB z) pc = .ok ((.aload i), len)) (hc : cells ≤ zC z) (hs : slots ≤ zS z) (hw : wpL x_Cal (zC z, zS z, x_rtc (zR z), sc) J Φ (((.aload i), k, zs) :: is) ls st M h cells slots)
    (hN : ∀ ls st M h c' n', c' ≤ zC z → n' ≤ zS z → wpL x_Cal (zC z, zS z, x_rtc (zR z), sc) J Φ is ls st M h c' n' → x_Wt X ρ0 n0 (zL z) p l e R s m args below meth c (x_Q X ρ0 n0 Φ below args s z) (pc + len) ls st M h c' n')
    (hJ : ∀ t ls st M h c' n', c' ≤ zC z → n' ≤ zS z → J t ls st M h c' n' → x_Wt X ρ0 n0 (zL z) p l e R s m args below meth c (x_Q X ρ0 n0 Φ below args s z) (t) ls st M h c' n') : x_Wt X ρ0 n0 (zL z) p l e R s m args below meth c (x_Q X ρ0 n0 Φ below args s z) (pc) ls st M h cells slots := by
  simp only [x_ok1, beq_iff_eq] at hk
  subst hk
  simp only [wpL] at hw
  split at hw
  · rename_i hl
    exact sn_aload hx hl d (hN _ _ _ _ _ _ hc hs hw)
  · exact hw.elim
theorem ss_aload_n (hx : x_Cx X z p l R s m args meth c) {i : Fin 4} (hk : x_ok1 z pc len (.aload_n i) k zs = true) (d : decode (zB z) pc = .ok ((.aload_n i), len)) (hc : cells ≤ zC z) (hs : slots ≤ zS z) (hw : wpL x_Cal (zC z, zS z, x_rtc (zR z), sc) J Φ (((.aload_n i), k, zs) :: is) ls st M h cells slots)
    (hN : ∀ ls st M h c' n', c' ≤ zC z → n' ≤ zS z → wpL x_Cal (zC z, zS z, x_rtc (zR z), sc) J Φ is ls st M h c' n' → x_Wt X ρ0 n0 (zL z) p l e R s m args below meth c (x_Q X ρ0 n0 Φ below args s z) (pc + len) ls st M h c' n')
    (hJ : ∀ t ls st M h c' n', c' ≤ zC z → n' ≤ zS z → J t ls st M h c' n' → x_Wt X ρ0 n0 (zL z) p l e R s m args below meth c (x_Q X ρ0 n0 Φ below args s z) (t) ls st M h c' n') : x_Wt X ρ0 n0 (zL z) p l e R s m args below meth c (x_Q X ρ0 n0 Φ below args s z) (pc) ls st M h cells slots := by
  simp only [x_ok1, beq_iff_eq] at hk
  subst hk
  simp only [wpL] at hw
  split at hw
  · rename_i hl
    exact sn_aload_n hx hl d (hN _ _ _ _ _ _ hc hs hw)
  · exact hw.elim
theorem ss_istore (hx : x_Cx X z p l R s m args meth c) {i : Nat} (hk : x_ok1 z pc len (.istore i) k zs = true) (d : decode (zB z) pc = .ok ((.istore i), len)) (hc : cells ≤ zC z) (hs : slots ≤ zS z) (hw : wpL x_Cal (zC z, zS z, x_rtc (zR z), sc) J Φ (((.istore i), k, zs) :: is) ls st M h cells slots)
    (hN : ∀ ls st M h c' n', c' ≤ zC z → n' ≤ zS z → wpL x_Cal (zC z, zS z, x_rtc (zR z), sc) J Φ is ls st M h c' n' → x_Wt X ρ0 n0 (zL z) p l e R s m args below meth c (x_Q X ρ0 n0 Φ below args s z) (pc + len) ls st M h c' n')
    (hJ : ∀ t ls st M h c' n', c' ≤ zC z → n' ≤ zS z → J t ls st M h c' n' → x_Wt X ρ0 n0 (zL z) p l e R s m args below meth c (x_Q X ρ0 n0 Φ below args s z) (t) ls st M h c' n') : x_Wt X ρ0 n0 (zL z) p l e R s m args below meth c (x_Q X ρ0 n0 Φ below args s z) (pc) ls st M h cells slots := by
  simp only [x_ok1, Bool.and_eq_true, decide_eq_true_eq, beq_iff_eq] at hk
  obtain ⟨h1, rfl⟩ := hk
  simp only [wpL] at hw
  split at hw
  · exact sn_istore hx h1 d (hN _ _ _ _ _ _ hc hs hw)
  · exact hw.elim
theorem ss_istore_n (hx : x_Cx X z p l R s m args meth c) {i : Fin 4} (hk : x_ok1 z pc len (.istore_n i) k zs = true) (d : decode (zB z) pc = .ok ((.istore_n i), len)) (hc : cells ≤ zC z) (hs : slots ≤ zS z) (hw : wpL x_Cal (zC z, zS z, x_rtc (zR z), sc) J Φ (((.istore_n i), k, zs) :: is) ls st M h cells slots)
    (hN : ∀ ls st M h c' n', c' ≤ zC z → n' ≤ zS z → wpL x_Cal (zC z, zS z, x_rtc (zR z), sc) J Φ is ls st M h c' n' → x_Wt X ρ0 n0 (zL z) p l e R s m args below meth c (x_Q X ρ0 n0 Φ below args s z) (pc + len) ls st M h c' n')
    (hJ : ∀ t ls st M h c' n', c' ≤ zC z → n' ≤ zS z → J t ls st M h c' n' → x_Wt X ρ0 n0 (zL z) p l e R s m args below meth c (x_Q X ρ0 n0 Φ below args s z) (t) ls st M h c' n') : x_Wt X ρ0 n0 (zL z) p l e R s m args below meth c (x_Q X ρ0 n0 Φ below args s z) (pc) ls st M h cells slots := by
  simp only [x_ok1, Bool.and_eq_true, decide_eq_true_eq, beq_iff_eq] at hk
  obtain ⟨h1, rfl⟩ := hk
  simp only [wpL] at hw
  split at hw
  · exact sn_istore_n hx h1 d (hN _ _ _ _ _ _ hc hs hw)
  · exact hw.elim
theorem ss_lstore (hx : x_Cx X z p l R s m args meth c) {i : Nat} (hk : x_ok1 z pc len (.lstore i) k zs = true) (d : decode (zB z) pc = .ok ((.lstore i), len)) (hc : cells ≤ zC z) (hs : slots ≤ zS z) (hw : wpL x_Cal (zC z, zS z, x_rtc (zR z), sc) J Φ (((.lstore i), k, zs) :: is) ls st M h cells slots)
    (hN : ∀ ls st M h c' n', c' ≤ zC z → n' ≤ zS z → wpL x_Cal (zC z, zS z, x_rtc (zR z), sc) J Φ is ls st M h c' n' → x_Wt X ρ0 n0 (zL z) p l e R s m args below meth c (x_Q X ρ0 n0 Φ below args s z) (pc + len) ls st M h c' n')
    (hJ : ∀ t ls st M h c' n', c' ≤ zC z → n' ≤ zS z → J t ls st M h c' n' → x_Wt X ρ0 n0 (zL z) p l e R s m args below meth c (x_Q X ρ0 n0 Φ below args s z) (t) ls st M h c' n') : x_Wt X ρ0 n0 (zL z) p l e R s m args below meth c (x_Q X ρ0 n0 Φ below args s z) (pc) ls st M h cells slots := by
  simp only [x_ok1, Bool.and_eq_true, decide_eq_true_eq, beq_iff_eq] at hk
  obtain ⟨h1, rfl⟩ := hk
  simp only [wpL] at hw
  split at hw
  · exact sn_lstore hx h1 d (hN _ _ _ _ _ _ hc hs hw)
  · exact hw.elim
theorem ss_lstore_n (hx : x_Cx X z p l R s m args meth c) {i : Fin 4} (hk : x_ok1 z pc len (.lstore_n i) k zs = true) (d : decode (zB z) pc = .ok ((.lstore_n i), len)) (hc : cells ≤ zC z) (hs : slots ≤ zS z) (hw : wpL x_Cal (zC z, zS z, x_rtc (zR z), sc) J Φ (((.lstore_n i), k, zs) :: is) ls st M h cells slots)
    (hN : ∀ ls st M h c' n', c' ≤ zC z → n' ≤ zS z → wpL x_Cal (zC z, zS z, x_rtc (zR z), sc) J Φ is ls st M h c' n' → x_Wt X ρ0 n0 (zL z) p l e R s m args below meth c (x_Q X ρ0 n0 Φ below args s z) (pc + len) ls st M h c' n')
    (hJ : ∀ t ls st M h c' n', c' ≤ zC z → n' ≤ zS z → J t ls st M h c' n' → x_Wt X ρ0 n0 (zL z) p l e R s m args below meth c (x_Q X ρ0 n0 Φ below args s z) (t) ls st M h c' n') : x_Wt X ρ0 n0 (zL z) p l e R s m args below meth c (x_Q X ρ0 n0 Φ below args s z) (pc) ls st M h cells slots := by
  simp only [x_ok1, Bool.and_eq_true, decide_eq_true_eq, beq_iff_eq] at hk
  obtain ⟨h1, rfl⟩ := hk
  simp only [wpL] at hw
  split at hw
  · exact sn_lstore_n hx h1 d (hN _ _ _ _ _ _ hc hs hw)
  · exact hw.elim
theorem ss_astore (hx : x_Cx X z p l R s m args meth c) {i : Nat} (hk : x_ok1 z pc len (.astore i) k zs = true) (d : decode (zB z) pc = .ok ((.astore i), len)) (hc : cells ≤ zC z) (hs : slots ≤ zS z) (hw : wpL x_Cal (zC z, zS z, x_rtc (zR z), sc) J Φ (((.astore i), k, zs) :: is) ls st M h cells slots)
    (hN : ∀ ls st M h c' n', c' ≤ zC z → n' ≤ zS z → wpL x_Cal (zC z, zS z, x_rtc (zR z), sc) J Φ is ls st M h c' n' → x_Wt X ρ0 n0 (zL z) p l e R s m args below meth c (x_Q X ρ0 n0 Φ below args s z) (pc + len) ls st M h c' n')
    (hJ : ∀ t ls st M h c' n', c' ≤ zC z → n' ≤ zS z → J t ls st M h c' n' → x_Wt X ρ0 n0 (zL z) p l e R s m args below meth c (x_Q X ρ0 n0 Φ below args s z) (t) ls st M h c' n') : x_Wt X ρ0 n0 (zL z) p l e R s m args below meth c (x_Q X ρ0 n0 Φ below args s z) (pc) ls st M h cells slots := by
  simp only [x_ok1, Bool.and_eq_true, decide_eq_true_eq, beq_iff_eq] at hk
  obtain ⟨h1, rfl⟩ := hk
  simp only [wpL] at hw
  split at hw
  · exact sn_astore hx h1 d (hN _ _ _ _ _ _ hc hs hw)
  · exact hw.elim
theorem ss_astore_n (hx : x_Cx X z p l R s m args meth c) {i : Fin 4} (hk : x_ok1 z pc len (.astore_n i) k zs = true) (d : decode (zB z) pc = .ok ((.astore_n i), len)) (hc : cells ≤ zC z) (hs : slots ≤ zS z) (hw : wpL x_Cal (zC z, zS z, x_rtc (zR z), sc) J Φ (((.astore_n i), k, zs) :: is) ls st M h cells slots)
    (hN : ∀ ls st M h c' n', c' ≤ zC z → n' ≤ zS z → wpL x_Cal (zC z, zS z, x_rtc (zR z), sc) J Φ is ls st M h c' n' → x_Wt X ρ0 n0 (zL z) p l e R s m args below meth c (x_Q X ρ0 n0 Φ below args s z) (pc + len) ls st M h c' n')
    (hJ : ∀ t ls st M h c' n', c' ≤ zC z → n' ≤ zS z → J t ls st M h c' n' → x_Wt X ρ0 n0 (zL z) p l e R s m args below meth c (x_Q X ρ0 n0 Φ below args s z) (t) ls st M h c' n') : x_Wt X ρ0 n0 (zL z) p l e R s m args below meth c (x_Q X ρ0 n0 Φ below args s z) (pc) ls st M h cells slots := by
  simp only [x_ok1, Bool.and_eq_true, decide_eq_true_eq, beq_iff_eq] at hk
  obtain ⟨h1, rfl⟩ := hk
  simp only [wpL] at hw
  split at hw
  · exact sn_astore_n hx h1 d (hN _ _ _ _ _ _ hc hs hw)
  · exact hw.elim
theorem ss_iinc (hx : x_Cx X z p l R s m args meth c) {i : Nat} {dd : Int} (hk : x_ok1 z pc len (.iinc i dd) k zs = true) (d : decode (zB z) pc = .ok ((.iinc i dd), len)) (hc : cells ≤ zC z) (hs : slots ≤ zS z) (hw : wpL x_Cal (zC z, zS z, x_rtc (zR z), sc) J Φ (((.iinc i dd), k, zs) :: is) ls st M h cells slots)
    (hN : ∀ ls st M h c' n', c' ≤ zC z → n' ≤ zS z → wpL x_Cal (zC z, zS z, x_rtc (zR z), sc) J Φ is ls st M h c' n' → x_Wt X ρ0 n0 (zL z) p l e R s m args below meth c (x_Q X ρ0 n0 Φ below args s z) (pc + len) ls st M h c' n')
    (hJ : ∀ t ls st M h c' n', c' ≤ zC z → n' ≤ zS z → J t ls st M h c' n' → x_Wt X ρ0 n0 (zL z) p l e R s m args below meth c (x_Q X ρ0 n0 Φ below args s z) (t) ls st M h c' n') : x_Wt X ρ0 n0 (zL z) p l e R s m args below meth c (x_Q X ρ0 n0 Φ below args s z) (pc) ls st M h cells slots := by
  simp only [x_ok1, beq_iff_eq] at hk
  subst hk
  simp only [wpL] at hw
  split at hw
  · rename_i hl
    exact sn_iinc hx hl d (hN _ _ _ _ _ _ hc hs hw)
  · exact hw.elim
theorem ss_iadd (hx : x_Cx X z p l R s m args meth c) (hk : x_ok1 z pc len .iadd k zs = true) (d : decode (zB z) pc = .ok (.iadd, len)) (hc : cells ≤ zC z) (hs : slots ≤ zS z) (hw : wpL x_Cal (zC z, zS z, x_rtc (zR z), sc) J Φ ((.iadd, k, zs) :: is) ls st M h cells slots)
    (hN : ∀ ls st M h c' n', c' ≤ zC z → n' ≤ zS z → wpL x_Cal (zC z, zS z, x_rtc (zR z), sc) J Φ is ls st M h c' n' → x_Wt X ρ0 n0 (zL z) p l e R s m args below meth c (x_Q X ρ0 n0 Φ below args s z) (pc + len) ls st M h c' n')
    (hJ : ∀ t ls st M h c' n', c' ≤ zC z → n' ≤ zS z → J t ls st M h c' n' → x_Wt X ρ0 n0 (zL z) p l e R s m args below meth c (x_Q X ρ0 n0 Φ below args s z) (t) ls st M h c' n') : x_Wt X ρ0 n0 (zL z) p l e R s m args below meth c (x_Q X ρ0 n0 Φ below args s z) (pc) ls st M h cells slots := by
  simp only [x_ok1, Bool.and_eq_true, decide_eq_true_eq, beq_iff_eq] at hk
  subst hk
  simp only [wpL] at hw
  split at hw
  · exact sn_iadd hx d (hN _ _ _ _ _ _ hc hs hw)
  · exact hw.elim
theorem ss_isub (hx : x_Cx X z p l R s m args meth c) (hk : x_ok1 z pc len .isub k zs = true) (d : decode (zB z) pc = .ok (.isub, len)) (hc : cells ≤ zC z) (hs : slots ≤ zS z) (hw : wpL x_Cal (zC z, zS z, x_rtc (zR z), sc) J Φ ((.isub, k, zs) :: is) ls st M h cells slots)
    (hN : ∀ ls st M h c' n', c' ≤ zC z → n' ≤ zS z → wpL x_Cal (zC z, zS z, x_rtc (zR z), sc) J Φ is ls st M h c' n' → x_Wt X ρ0 n0 (zL z) p l e R s m args below meth c (x_Q X ρ0 n0 Φ below args s z) (pc + len) ls st M h c' n')
    (hJ : ∀ t ls st M h c' n', c' ≤ zC z → n' ≤ zS z → J t ls st M h c' n' → x_Wt X ρ0 n0 (zL z) p l e R s m args below meth c (x_Q X ρ0 n0 Φ below args s z) (t) ls st M h c' n') : x_Wt X ρ0 n0 (zL z) p l e R s m args below meth c (x_Q X ρ0 n0 Φ below args s z) (pc) ls st M h cells slots := by
  simp only [x_ok1, Bool.and_eq_true, decide_eq_true_eq, beq_iff_eq] at hk
  subst hk
  simp only [wpL] at hw
  split at hw
  · exact sn_isub hx d (hN _ _ _ _ _ _ hc hs hw)
  · exact hw.elim
theorem ss_imul (hx : x_Cx X z p l R s m args meth c) (hk : x_ok1 z pc len .imul k zs = true) (d : decode (zB z) pc = .ok (.imul, len)) (hc : cells ≤ zC z) (hs : slots ≤ zS z) (hw : wpL x_Cal (zC z, zS z, x_rtc (zR z), sc) J Φ ((.imul, k, zs) :: is) ls st M h cells slots)
    (hN : ∀ ls st M h c' n', c' ≤ zC z → n' ≤ zS z → wpL x_Cal (zC z, zS z, x_rtc (zR z), sc) J Φ is ls st M h c' n' → x_Wt X ρ0 n0 (zL z) p l e R s m args below meth c (x_Q X ρ0 n0 Φ below args s z) (pc + len) ls st M h c' n')
    (hJ : ∀ t ls st M h c' n', c' ≤ zC z → n' ≤ zS z → J t ls st M h c' n' → x_Wt X ρ0 n0 (zL z) p l e R s m args below meth c (x_Q X ρ0 n0 Φ below args s z) (t) ls st M h c' n') : x_Wt X ρ0 n0 (zL z) p l e R s m args below meth c (x_Q X ρ0 n0 Φ below args s z) (pc) ls st M h cells slots := by
  simp only [x_ok1, Bool.and_eq_true, decide_eq_true_eq, beq_iff_eq] at hk
  subst hk
  simp only [wpL] at hw
  split at hw
  · exact sn_imul hx d (hN _ _ _ _ _ _ hc hs hw)
  · exact hw.elim
theorem ss_iand (hx : x_Cx X z p l R s m args meth c) (hk : x_ok1 z pc len .iand k zs = true) (d : decode (zB z) pc = .ok (.iand, len)) (hc : cells ≤ zC z) (hs : slots ≤ zS z) (hw : wpL x_Cal (zC z, zS z, x_rtc (zR z), sc) J Φ ((.iand, k, zs) :: is) ls st M h cells slots)
    (hN : ∀ ls st M h c' n', c' ≤ zC z → n' ≤ zS z → wpL x_Cal (zC z, zS z, x_rtc (zR z), sc) J Φ is ls st M h c' n' → x_Wt X ρ0 n0 (zL z) p l e R s m args below meth c (x_Q X ρ0 n0 Φ below args s z) (pc + len) ls st M h c' n')
    (hJ : ∀ t ls st M h c' n', c' ≤ zC z → n' ≤ zS z → J t ls st M h c' n' → x_Wt X ρ0 n0 (zL z) p l e R s m args below meth c (x_Q X ρ0 n0 Φ below args s z) (t) ls st M h c' n') : x_Wt X ρ0 n0 (zL z) p l e R s m args below meth c (x_Q X ρ0 n0 Φ below args s z) (pc) ls st M h cells slots := by
  simp only [x_ok1, Bool.and_eq_true, decide_eq_true_eq, beq_iff_eq] at hk
  subst hk
  simp only [wpL] at hw
  split at hw
  · exact sn_iand hx d (hN _ _ _ _ _ _ hc hs hw)
  · exact hw.elim
theorem ss_ior (hx : x_Cx X z p l R s m args meth c) (hk : x_ok1 z pc len .ior k zs = true) (d : decode (zB z) pc = .ok (.ior, len)) (hc : cells ≤ zC z) (hs : slots ≤ zS z) (hw : wpL x_Cal (zC z, zS z, x_rtc (zR z), sc) J Φ ((.ior, k, zs) :: is) ls st M h cells slots)
    (hN : ∀ ls st M h c' n', c' ≤ zC z → n' ≤ zS z → wpL x_Cal (zC z, zS z, x_rtc (zR z), sc) J Φ is ls st M h c' n' → x_Wt X ρ0 n0 (zL z) p l e R s m args below meth c (x_Q X ρ0 n0 Φ below args s z) (pc + len) ls st M h c' n')
    (hJ : ∀ t ls st M h c' n', c' ≤ zC z → n' ≤ zS z → J t ls st M h c' n' → x_Wt X ρ0 n0 (zL z) p l e R s m args below meth c (x_Q X ρ0 n0 Φ below args s z) (t) ls st M h c' n') : x_Wt X ρ0 n0 (zL z) p l e R s m args below meth c (x_Q X ρ0 n0 Φ below args s z) (pc) ls st M h cells slots := by
  simp only [x_ok1, Bool.and_eq_true, decide_eq_true_eq, beq_iff_eq] at hk
  subst hk
  simp only [wpL] at hw
  split at hw
  · exact sn_ior hx d (hN _ _ _ _ _ _ hc hs hw)
  · exact hw.elim
theorem ss_ixor (hx : x_Cx X z p l R s m args meth c) (hk : x_ok1 z pc len .ixor k zs = true) (d : decode (zB z) pc = .ok (.ixor, len)) (hc : cells ≤ zC z) (hs : slots ≤ zS z) (hw : wpL x_Cal (zC z, zS z, x_rtc (zR z), sc) J Φ ((.ixor, k, zs) :: is) ls st M h cells slots)
    (hN : ∀ ls st M h c' n', c' ≤ zC z → n' ≤ zS z → wpL x_Cal (zC z, zS z, x_rtc (zR z), sc) J Φ is ls st M h c' n' → x_Wt X ρ0 n0 (zL z) p l e R s m args below meth c (x_Q X ρ0 n0 Φ below args s z) (pc + len) ls st M h c' n')
    (hJ : ∀ t ls st M h c' n', c' ≤ zC z → n' ≤ zS z → J t ls st M h c' n' → x_Wt X ρ0 n0 (zL z) p l e R s m args below meth c (x_Q X ρ0 n0 Φ below args s z) (t) ls st M h c' n') : x_Wt X ρ0 n0 (zL z) p l e R s m args below meth c (x_Q X ρ0 n0 Φ below args s z) (pc) ls st M h cells slots := by
  simp only [x_ok1, Bool.and_eq_true, decide_eq_true_eq, beq_iff_eq] at hk
  subst hk
  simp only [wpL] at hw
  split at hw
  · exact sn_ixor hx d (hN _ _ _ _ _ _ hc hs hw)
  · exact hw.elim
theorem ss_ishl (hx : x_Cx X z p l R s m args meth c) (hk : x_ok1 z pc len .ishl k zs = true) (d : decode (zB z) pc = .ok (.ishl, len)) (hc : cells ≤ zC z) (hs : slots ≤ zS z) (hw : wpL x_Cal (zC z, zS z, x_rtc (zR z), sc) J Φ ((.ishl, k, zs) :: is) ls st M h cells slots)
    (hN : ∀ ls st M h c' n', c' ≤ zC z → n' ≤ zS z → wpL x_Cal (zC z, zS z, x_rtc (zR z), sc) J Φ is ls st M h c' n' → x_Wt X ρ0 n0 (zL z) p l e R s m args below meth c (x_Q X ρ0 n0 Φ below args s z) (pc + len) ls st M h c' n')
    (hJ : ∀ t ls st M h c' n', c' ≤ zC z → n' ≤ zS z → J t ls st M h c' n' → x_Wt X ρ0 n0 (zL z) p l e R s m args below meth c (x_Q X ρ0 n0 Φ below args s z) (t) ls st M h c' n') : x_Wt X ρ0 n0 (zL z) p l e R s m args below meth c (x_Q X ρ0 n0 Φ below args s z) (pc) ls st M h cells slots := by
  simp only [x_ok1, Bool.and_eq_true, decide_eq_true_eq, beq_iff_eq] at hk
  subst hk
  simp only [wpL] at hw
  split at hw
  · exact sn_ishl hx d (hN _ _ _ _ _ _ hc hs hw)
  · exact hw.elim
theorem ss_ishr (hx : x_Cx X z p l R s m args meth c) (hk : x_ok1 z pc len .ishr k zs = true) (d : decode (zB z) pc = .ok (.ishr, len)) (hc : cells ≤ zC z) (hs : slots ≤ zS z) (hw : wpL x_Cal (zC z, zS z, x_rtc (zR z), sc) J Φ ((.ishr, k, zs) :: is) ls st M h cells slots)
    (hN : ∀ ls st M h c' n', c' ≤ zC z → n' ≤ zS z → wpL x_Cal (zC z, zS z, x_rtc (zR z), sc) J Φ is ls st M h c' n' → x_Wt X ρ0 n0 (zL z) p l e R s m args below meth c (x_Q X ρ0 n0 Φ below args s z) (pc + len) ls st M h c' n')
    (hJ : ∀ t ls st M h c' n', c' ≤ zC z → n' ≤ zS z → J t ls st M h c' n' → x_Wt X ρ0 n0 (zL z) p l e R s m args below meth c (x_Q X ρ0 n0 Φ below args s z) (t) ls st M h c' n') : x_Wt X ρ0 n0 (zL z) p l e R s m args below meth c (x_Q X ρ0 n0 Φ below args s z) (pc) ls st M h cells slots := by
  simp only [x_ok1, Bool.and_eq_true, decide_eq_true_eq, beq_iff_eq] at hk
  subst hk
  simp only [wpL] at hw
  split at hw
  · exact sn_ishr hx d (hN _ _ _ _ _ _ hc hs hw)
  · exact hw.elim
theorem ss_i2l (hx : x_Cx X z p l R s m args meth c) (hk : x_ok1 z pc len .i2l k zs = true) (d : decode (zB z) pc = .ok (.i2l, len)) (hc : cells ≤ zC z) (hs : slots ≤ zS z) (hw : wpL x_Cal (zC z, zS z, x_rtc (zR z), sc) J Φ ((.i2l, k, zs) :: is) ls st M h cells slots)
    (hN : ∀ ls st M h c' n', c' ≤ zC z → n' ≤ zS z → wpL x_Cal (zC z, zS z, x_rtc (zR z), sc) J Φ is ls st M h c' n' → x_Wt X ρ0 n0 (zL z) p l e R s m args below meth c (x_Q X ρ0 n0 Φ below args s z) (pc + len) ls st M h c' n')
    (hJ : ∀ t ls st M h c' n', c' ≤ zC z → n' ≤ zS z → J t ls st M h c' n' → x_Wt X ρ0 n0 (zL z) p l e R s m args below meth c (x_Q X ρ0 n0 Φ below args s z) (t) ls st M h c' n') : x_Wt X ρ0 n0 (zL z) p l e R s m args below meth c (x_Q X ρ0 n0 Φ below args s z) (pc) ls st M h cells slots := by
  simp only [x_ok1, Bool.and_eq_true, decide_eq_true_eq, beq_iff_eq] at hk
  subst hk
  simp only [wpL] at hw
  split at hw
  · exact sn_i2l hx d (hN _ _ _ _ _ _ hc hs hw)
  · exact hw.elim
theorem ss_l2i (hx : x_Cx X z p l R s m args meth c) (hk : x_ok1 z pc len .l2i k zs = true) (d : decode (zB z) pc = .ok (.l2i, len)) (hc : cells ≤ zC z) (hs : slots ≤ zS z) (hw : wpL x_Cal (zC z, zS z, x_rtc (zR z), sc) J Φ ((.l2i, k, zs) :: is) ls st M h cells slots)
    (hN : ∀ ls st M h c' n', c' ≤ zC z → n' ≤ zS z → wpL x_Cal (zC z, zS z, x_rtc (zR z), sc) J Φ is ls st M h c' n' → x_Wt X ρ0 n0 (zL z) p l e R s m args below meth c (x_Q X ρ0 n0 Φ below args s z) (pc + len) ls st M h c' n')
    (hJ : ∀ t ls st M h c' n', c' ≤ zC z → n' ≤ zS z → J t ls st M h c' n' → x_Wt X ρ0 n0 (zL z) p l e R s m args below meth c (x_Q X ρ0 n0 Φ below args s z) (t) ls st M h c' n') : x_Wt X ρ0 n0 (zL z) p l e R s m args below meth c (x_Q X ρ0 n0 Φ below args s z) (pc) ls st M h cells slots := by
  simp only [x_ok1, Bool.and_eq_true, decide_eq_true_eq, beq_iff_eq] at hk
  subst hk
  simp only [wpL] at hw
  split at hw
  · exact sn_l2i hx d (hN _ _ _ _ _ _ hc hs hw)
  · exact hw.elim
theorem ss_i2b (hx : x_Cx X z p l R s m args meth c) (hk : x_ok1 z pc len .i2b k zs = true) (d : decode (zB z) pc = .ok (.i2b, len)) (hc : cells ≤ zC z) (hs : slots ≤ zS z) (hw : wpL x_Cal (zC z, zS z, x_rtc (zR z), sc) J Φ ((.i2b, k, zs) :: is) ls st M h cells slots)
    (hN : ∀ ls st M h c' n', c' ≤ zC z → n' ≤ zS z → wpL x_Cal (zC z, zS z, x_rtc (zR z), sc) J Φ is ls st M h c' n' → x_Wt X ρ0 n0 (zL z) p l e R s m args below meth c (x_Q X ρ0 n0 Φ below args s z) (pc + len) ls st M h c' n')
    (hJ : ∀ t ls st M h c' n', c' ≤ zC z → n' ≤ zS z → J t ls st M h c' n' → x_Wt X ρ0 n0 (zL z) p l e R s m args below meth c (x_Q X ρ0 n0 Φ below args s z) (t) ls st M h c' n') : x_Wt X ρ0 n0 (zL z) p l e R s m args below meth c (x_Q X ρ0 n0 Φ below args s z) (pc) ls st M h cells slots := by
  simp only [x_ok1, Bool.and_eq_true, decide_eq_true_eq, beq_iff_eq] at hk
  subst hk
  simp only [wpL] at hw
  split at hw
  · exact sn_i2b hx d (hN _ _ _ _ _ _ hc hs hw)
  · exact hw.elim
theorem ss_ladd (hx : x_Cx X z p l R s m args meth c) (hk : x_ok1 z pc len .ladd k zs = true) (d : decode (zB z) pc = .ok (.ladd, len)) (hc : cells ≤ zC z) (hs : slots ≤ zS z) (hw : wpL x_Cal (zC z, zS z, x_rtc (zR z), sc) J Φ ((.ladd, k, zs) :: is) ls st M h cells slots)
    (hN : ∀ ls st M h c' n', c' ≤ zC z → n' ≤ zS z → wpL x_Cal (zC z, zS z, x_rtc (zR z), sc) J Φ is ls st M h c' n' → x_Wt X ρ0 n0 (zL z) p l e R s m args below meth c (x_Q X ρ0 n0 Φ below args s z) (pc + len) ls st M h c' n')
    (hJ : ∀ t ls st M h c' n', c' ≤ zC z → n' ≤ zS z → J t ls st M h c' n' → x_Wt X ρ0 n0 (zL z) p l e R s m args below meth c (x_Q X ρ0 n0 Φ below args s z) (t) ls st M h c' n') : x_Wt X ρ0 n0 (zL z) p l e R s m args below meth c (x_Q X ρ0 n0 Φ below args s z) (pc) ls st M h cells slots := by
  simp only [x_ok1, Bool.and_eq_true, decide_eq_true_eq, beq_iff_eq] at hk
  subst hk
  simp only [wpL] at hw
  split at hw
  · exact sn_ladd hx d (hN _ _ _ _ _ _ hc hs hw)
  · exact hw.elim
theorem ss_lsub (hx : x_Cx X z p l R s m args meth c) (hk : x_ok1 z pc len .lsub k zs = true) (d : decode (zB z) pc = .ok (.lsub, len)) (hc : cells ≤ zC z) (hs : slots ≤ zS z) (hw : wpL x_Cal (zC z, zS z, x_rtc (zR z), sc) J Φ ((.lsub, k, zs) :: is) ls st M h cells slots)
    (hN : ∀ ls st M h c' n', c' ≤ zC z → n' ≤ zS z → wpL x_Cal (zC z, zS z, x_rtc (zR z), sc) J Φ is ls st M h c' n' → x_Wt X ρ0 n0 (zL z) p l e R s m args below meth c (x_Q X ρ0 n0 Φ below args s z) (pc + len) ls st M h c' n')
    (hJ : ∀ t ls st M h c' n', c' ≤ zC z → n' ≤ zS z → J t ls st M h c' n' → x_Wt X ρ0 n0 (zL z) p l e R s m args below meth c (x_Q X ρ0 n0 Φ below args s z) (t) ls st M h c' n') : x_Wt X ρ0 n0 (zL z) p l e R s m args below meth c (x_Q X ρ0 n0 Φ below args s z) (pc) ls st M h cells slots := by
  simp only [x_ok1, Bool.and_eq_true, decide_eq_true_eq, beq_iff_eq] at hk
  subst hk
  simp only [wpL] at hw
  split at hw
  · exact sn_lsub hx d (hN _ _ _ _ _ _ hc hs hw)
  · exact hw.elim
theorem ss_lmul (hx : x_Cx X z p l R s m args meth c) (hk : x_ok1 z pc len .lmul k zs = true) (d : decode (zB z) pc = .ok (.lmul, len)) (hc : cells ≤ zC z) (hs : slots ≤ zS z) (hw : wpL x_Cal (zC z, zS z, x_rtc (zR z), sc) J Φ ((.lmul, k, zs) :: is) ls st M h cells slots)
    (hN : ∀ ls st M h c' n', c' ≤ zC z → n' ≤ zS z → wpL x_Cal (zC z, zS z, x_rtc (zR z), sc) J Φ is ls st M h c' n' → x_Wt X ρ0 n0 (zL z) p l e R s m args below meth c (x_Q X ρ0 n0 Φ below args s z) (pc + len) ls st M h c' n')
    (hJ : ∀ t ls st M h c' n', c' ≤ zC z → n' ≤ zS z → J t ls st M h c' n' → x_Wt X ρ0 n0 (zL z) p l e R s m args below meth c (x_Q X ρ0 n0 Φ below args s z) (t) ls st M h c' n') : x_Wt X ρ0 n0 (zL z) p l e R s m args below meth c (x_Q X ρ0 n0 Φ below args s z) (pc) ls st M h cells slots := by
  simp only [x_ok1, Bool.and_eq_true, decide_eq_true_eq, beq_iff_eq] at hk
  subst hk
  simp only [wpL] at hw
  split at hw
  · exact sn_lmul hx d (hN _ _ _ _ _ _ hc hs hw)
  · exact hw.elim
theorem ss_land (hx : x_Cx X z p l R s m args meth c) (hk : x_ok1 z pc len .land k zs = true) (d : decode (zB z) pc = .ok (.land, len)) (hc : cells ≤ zC z) (hs : slots ≤ zS z) (hw : wpL x_Cal (zC z, zS z, x_rtc (zR z), sc) J Φ ((.land, k, zs) :: is) ls st M h cells slots)
    (hN : ∀ ls st M h c' n', c' ≤ zC z → n' ≤ zS z → wpL x_Cal (zC z, zS z, x_rtc (zR z), sc) J Φ is ls st M h c' n' → x_Wt X ρ0 n0 (zL z) p l e R s m args below meth c (x_Q X ρ0 n0 Φ below args s z) (pc + len) ls st M h c' n')
    (hJ : ∀ t ls st M h c' n', c' ≤ zC z → n' ≤ zS z → J t ls st M h c' n' → x_Wt X ρ0 n0 (zL z) p l e R s m args below meth c (x_Q X ρ0 n0 Φ below args s z) (t) ls st M h c' n') : x_Wt X ρ0 n0 (zL z) p l e R s m args below meth c (x_Q X ρ0 n0 Φ below args s z) (pc) ls st M h cells slots := by
  simp only [x_ok1, Bool.and_eq_true, decide_eq_true_eq, beq_iff_eq] at hk
  subst hk
  simp only [wpL] at hw
  split at hw
  · exact sn_land hx d (hN _ _ _ _ _ _ hc hs hw)
  · exact hw.elim
theorem ss_lshr (hx : x_Cx X z p l R s m args meth c) (hk : x_ok1 z pc len .lshr k zs = true) (d : decode (zB z) pc = .ok (.lshr, len)) (hc : cells ≤ zC z) (hs : slots ≤ zS z) (hw : wpL x_Cal (zC z, zS z, x_rtc (zR z), sc) J Φ ((.lshr, k, zs) :: is) ls st M h cells slots)
    (hN : ∀ ls st M h c' n', c' ≤ zC z → n' ≤ zS z → wpL x_Cal (zC z, zS z, x_rtc (zR z), sc) J Φ is ls st M h c' n' → x_Wt X ρ0 n0 (zL z) p l e R s m args below meth c (x_Q X ρ0 n0 Φ below args s z) (pc + len) ls st M h c' n')
    (hJ : ∀ t ls st M h c' n', c' ≤ zC z → n' ≤ zS z → J t ls st M h c' n' → x_Wt X ρ0 n0 (zL z) p l e R s m args below meth c (x_Q X ρ0 n0 Φ below args s z) (t) ls st M h c' n') : x_Wt X ρ0 n0 (zL z) p l e R s m args below meth c (x_Q X ρ0 n0 Φ below args s z) (pc) ls st M h cells slots := by
  simp only [x_ok1, Bool.and_eq_true, decide_eq_true_eq, beq_iff_eq] at hk
  subst hk
  simp only [wpL] at hw
  split at hw
  · exact sn_lshr hx d (hN _ _ _ _ _ _ hc hs hw)
  · exact hw.elim
theorem ss_lcmp (hx : x_Cx X z p l R s m args meth c) (hk : x_ok1 z pc len .lcmp k zs = true) (d : decode (zB z) pc = .ok (.lcmp, len)) (hc : cells ≤ zC z) (hs : slots ≤ zS z) (hw : wpL x_Cal (zC z, zS z, x_rtc (zR z), sc) J Φ ((.lcmp, k, zs) :: is) ls st M h cells slots)
    (hN : ∀ ls st M h c' n', c' ≤ zC z → n' ≤ zS z → wpL x_Cal (zC z, zS z, x_rtc (zR z), sc) J Φ is ls st M h c' n' → x_Wt X ρ0 n0 (zL z) p l e R s m args below meth c (x_Q X ρ0 n0 Φ below args s z) (pc + len) ls st M h c' n')
    (hJ : ∀ t ls st M h c' n', c' ≤ zC z → n' ≤ zS z → J t ls st M h c' n' → x_Wt X ρ0 n0 (zL z) p l e R s m args below meth c (x_Q X ρ0 n0 Φ below args s z) (t) ls st M h c' n') : x_Wt X ρ0 n0 (zL z) p l e R s m args below meth c (x_Q X ρ0 n0 Φ below args s z) (pc) ls st M h cells slots := by
  simp only [x_ok1, Bool.and_eq_true, decide_eq_true_eq, beq_iff_eq] at hk
  subst hk
  simp only [wpL] at hw
  split at hw
  · exact sn_lcmp hx d (hN _ _ _ _ _ _ hc hs hw)
  · exact hw.elim
theorem ss_idiv (hx : x_Cx X z p l R s m args meth c) (hk : x_ok1 z pc len .idiv k zs = true) (d : decode (zB z) pc = .ok (.idiv, len)) (hc : cells ≤ zC z) (hs : slots ≤ zS z) (hw : wpL x_Cal (zC z, zS z, x_rtc (zR z), sc) J Φ ((.idiv, k, zs) :: is) ls st M h cells slots)
    (hN : ∀ ls st M h c' n', c' ≤ zC z → n' ≤ zS z → wpL x_Cal (zC z, zS z, x_rtc (zR z), sc) J Φ is ls st M h c' n' → x_Wt X ρ0 n0 (zL z) p l e R s m args below meth c (x_Q X ρ0 n0 Φ below args s z) (pc + len) ls st M h c' n')
    (hJ : ∀ t ls st M h c' n', c' ≤ zC z → n' ≤ zS z → J t ls st M h c' n' → x_Wt X ρ0 n0 (zL z) p l e R s m args below meth c (x_Q X ρ0 n0 Φ below args s z) (t) ls st M h c' n') : x_Wt X ρ0 n0 (zL z) p l e R s m args below meth c (x_Q X ρ0 n0 Φ below args s z) (pc) ls st M h cells slots := by
  simp only [x_ok1, Bool.and_eq_true, decide_eq_true_eq, beq_iff_eq] at hk
  subst hk
  simp only [wpL] at hw
  split at hw
  · exact sn_idiv hx hw.1 d (hN _ _ _ _ _ _ hc hs hw.2)
  · exact hw.elim
theorem ss_irem (hx : x_Cx X z p l R s m args meth c) (hk : x_ok1 z pc len .irem k zs = true) (d : decode (zB z) pc = .ok (.irem, len)) (hc : cells ≤ zC z) (hs : slots ≤ zS z) (hw : wpL x_Cal (zC z, zS z, x_rtc (zR z), sc) J Φ ((.irem, k, zs) :: is) ls st M h cells slots)
    (hN : ∀ ls st M h c' n', c' ≤ zC z → n' ≤ zS z → wpL x_Cal (zC z, zS z, x_rtc (zR z), sc) J Φ is ls st M h c' n' → x_Wt X ρ0 n0 (zL z) p l e R s m args below meth c (x_Q X ρ0 n0 Φ below args s z) (pc + len) ls st M h c' n')
    (hJ : ∀ t ls st M h c' n', c' ≤ zC z → n' ≤ zS z → J t ls st M h c' n' → x_Wt X ρ0 n0 (zL z) p l e R s m args below meth c (x_Q X ρ0 n0 Φ below args s z) (t) ls st M h c' n') : x_Wt X ρ0 n0 (zL z) p l e R s m args below meth c (x_Q X ρ0 n0 Φ below args s z) (pc) ls st M h cells slots := by
  simp only [x_ok1, Bool.and_eq_true, decide_eq_true_eq, beq_iff_eq] at hk
  subst hk
  simp only [wpL] at hw
  split at hw
  · exact sn_irem hx hw.1 d (hN _ _ _ _ _ _ hc hs hw.2)
  · exact hw.elim
theorem ss_dup (hx : x_Cx X z p l R s m args meth c) (hk : x_ok1 z pc len .dup k zs = true) (d : decode (zB z) pc = .ok (.dup, len)) (hc : cells ≤ zC z) (hs : slots ≤ zS z) (hw : wpL x_Cal (zC z, zS z, x_rtc (zR z), sc) J Φ ((.dup, k, zs) :: is) ls st M h cells slots)
    (hN : ∀ ls st M h c' n', c' ≤ zC z → n' ≤ zS z → wpL x_Cal (zC z, zS z, x_rtc (zR z), sc) J Φ is ls st M h c' n' → x_Wt X ρ0 n0 (zL z) p l e R s m args below meth c (x_Q X ρ0 n0 Φ below args s z) (pc + len) ls st M h c' n')
    (hJ : ∀ t ls st M h c' n', c' ≤ zC z → n' ≤ zS z → J t ls st M h c' n' → x_Wt X ρ0 n0 (zL z) p l e R s m args below meth c (x_Q X ρ0 n0 Φ below args s z) (t) ls st M h c' n') : x_Wt X ρ0 n0 (zL z) p l e R s m args below meth c (x_Q X ρ0 n0 Φ below args s z) (pc) ls st M h cells slots := by
  simp only [x_ok1, Bool.and_eq_true, decide_eq_true_eq, beq_iff_eq] at hk
  subst hk
  simp only [wpL] at hw
  split at hw
  · exact sn_dup hx hw.1 d (hN _ _ _ _ _ _ hc hs hw.2)
  · exact hw.elim
theorem ss_pop (hx : x_Cx X z p l R s m args meth c) (hk : x_ok1 z pc len .pop k zs = true) (d : decode (zB z) pc = .ok (.pop, len)) (hc : cells ≤ zC z) (hs : slots ≤ zS z) (hw : wpL x_Cal (zC z, zS z, x_rtc (zR z), sc) J Φ ((.pop, k, zs) :: is) ls st M h cells slots)
    (hN : ∀ ls st M h c' n', c' ≤ zC z → n' ≤ zS z → wpL x_Cal (zC z, zS z, x_rtc (zR z), sc) J Φ is ls st M h c' n' → x_Wt X ρ0 n0 (zL z) p l e R s m args below meth c (x_Q X ρ0 n0 Φ below args s z) (pc + len) ls st M h c' n')
    (hJ : ∀ t ls st M h c' n', c' ≤ zC z → n' ≤ zS z → J t ls st M h c' n' → x_Wt X ρ0 n0 (zL z) p l e R s m args below meth c (x_Q X ρ0 n0 Φ below args s z) (t) ls st M h c' n') : x_Wt X ρ0 n0 (zL z) p l e R s m args below meth c (x_Q X ρ0 n0 Φ below args s z) (pc) ls st M h cells slots := by
  simp only [x_ok1, Bool.and_eq_true, decide_eq_true_eq, beq_iff_eq] at hk
  subst hk
  simp only [wpL] at hw
  split at hw
  · exact sn_pop hx hw.1 d (hN _ _ _ _ _ _ hc hs hw.2)
  · exact hw.elim
theorem ss_dup2 (hx : x_Cx X z p l R s m args meth c) (hk : x_ok1 z pc len .dup2 k zs = true) (d : decode (zB z) pc = .ok (.dup2, len)) (hc : cells ≤ zC z) (hs : slots ≤ zS z) (hw : wpL x_Cal (zC z, zS z, x_rtc (zR z), sc) J Φ ((.dup2, k, zs) :: is) ls st M h cells slots)
    (hN : ∀ ls st M h c' n', c' ≤ zC z → n' ≤ zS z → wpL x_Cal (zC z, zS z, x_rtc (zR z), sc) J Φ is ls st M h c' n' → x_Wt X ρ0 n0 (zL z) p l e R s m args below meth c (x_Q X ρ0 n0 Φ below args s z) (pc + len) ls st M h c' n')
    (hJ : ∀ t ls st M h c' n', c' ≤ zC z → n' ≤ zS z → J t ls st M h c' n' → x_Wt X ρ0 n0 (zL z) p l e R s m args below meth c (x_Q X ρ0 n0 Φ below args s z) (t) ls st M h c' n') : x_Wt X ρ0 n0 (zL z) p l e R s m args below meth c (x_Q X ρ0 n0 Φ below args s z) (pc) ls st M h cells slots := by
  simp only [x_ok1, Bool.and_eq_true, decide_eq_true_eq, beq_iff_eq] at hk
  subst hk
  simp only [wpL] at hw
  split at hw
  · exact sn_dup2 hx hw.1 hw.2.1 d (hN _ _ _ _ _ _ hc hs hw.2.2)
  · exact hw.elim
theorem ss_ifCond (hx : x_Cx X z p l R s m args meth c) {q : ClassFile.Cond} {o : Int} (hk : x_ok1 z pc len (.ifCond q o) k zs = true) (d : decode (zB z) pc = .ok ((.ifCond q o), len)) (hc : cells ≤ zC z) (hs : slots ≤ zS z) (hw : wpL x_Cal (zC z, zS z, x_rtc (zR z), sc) J Φ (((.ifCond q o), k, zs) :: is) ls st M h cells slots)
    (hN : ∀ ls st M h c' n', c' ≤ zC z → n' ≤ zS z → wpL x_Cal (zC z, zS z, x_rtc (zR z), sc) J Φ is ls st M h c' n' → x_Wt X ρ0 n0 (zL z) p l e R s m args below meth c (x_Q X ρ0 n0 Φ below args s z) (pc + len) ls st M h c' n')
    (hJ : ∀ t ls st M h c' n', c' ≤ zC z → n' ≤ zS z → J t ls st M h c' n' → x_Wt X ρ0 n0 (zL z) p l e R s m args below meth c (x_Q X ρ0 n0 Φ below args s z) (t) ls st M h c' n') : x_Wt X ρ0 n0 (zL z) p l e R s m args below meth c (x_Q X ρ0 n0 Φ below args s z) (pc) ls st M h cells slots := by
  simp only [wpL] at hw
  split at hw
  · simp only [x_ok1, Bool.and_eq_true, decide_eq_true_eq, beq_iff_eq] at hk
    obtain ⟨h1, rfl⟩ := hk
    cases q with
    | eq => exact sn_if_eq hx h1 d (fun t => hJ _ _ _ _ _ _ _ hc hs (hw.1 t)) (fun t => hN _ _ _ _ _ _ hc hs (hw.2 t))
    | ne => exact sn_if_ne hx h1 d (fun t => hJ _ _ _ _ _ _ _ hc hs (hw.1 t)) (fun t => hN _ _ _ _ _ _ hc hs (hw.2 t))
    | lt => exact sn_if_lt hx h1 d (fun t => hJ _ _ _ _ _ _ _ hc hs (hw.1 t)) (fun t => hN _ _ _ _ _ _ hc hs (hw.2 t))
    | ge => exact sn_if_ge hx h1 d (fun t => hJ _ _ _ _ _ _ _ hc hs (hw.1 t)) (fun t => hN _ _ _ _ _ _ hc hs (hw.2 t))
    | gt => exact sn_if_gt hx h1 d (fun t => hJ _ _ _ _ _ _ _ hc hs (hw.1 t)) (fun t => hN _ _ _ _ _ _ hc hs (hw.2 t))
    | le => exact sn_if_le hx h1 d (fun t => hJ _ _ _ _ _ _ _ hc hs (hw.1 t)) (fun t => hN _ _ _ _ _ _ hc hs (hw.2 t))
  · exact hw.elim
theorem ss_if_icmp (hx : x_Cx X z p l R s m args meth c) {q : ClassFile.Cond} {o : Int} (hk : x_ok1 z pc len (.if_icmp q o) k zs = true) (d : decode (zB z) pc = .ok ((.if_icmp q o), len)) (hc : cells ≤ zC z) (hs : slots ≤ zS z) (hw : wpL x_Cal (zC z, zS z, x_rtc (zR z), sc) J Φ (((.if_icmp q o), k, zs) :: is) ls st M h cells slots)
    (hN : ∀ ls st M h c' n', c' ≤ zC z → n' ≤ zS z → wpL x_Cal (zC z, zS z, x_rtc (zR z), sc) J Φ is ls st M h c' n' → x_Wt X ρ0 n0 (zL z) p l e R s m args below meth c (x_Q X ρ0 n0 Φ below args s z) (pc + len) ls st M h c' n')
    (hJ : ∀ t ls st M h c' n', c' ≤ zC z → n' ≤ zS z → J t ls st M h c' n' → x_Wt X ρ0 n0 (zL z) p l e R s m args below meth c (x_Q X ρ0 n0 Φ below args s z) (t) ls st M h c' n') : x_Wt X ρ0 n0 (zL z) p l e R s m args below meth c (x_Q X ρ0 n0 Φ below args s z) (pc) ls st M h cells slots := by
  simp only [wpL] at hw
  split at hw
  · simp only [x_ok1, Bool.and_eq_true, decide_eq_true_eq, beq_iff_eq] at hk
    obtain ⟨h1, rfl⟩ := hk
    cases q with
    | eq => exact sn_icmp_eq hx h1 d (fun t => hJ _ _ _ _ _ _ _ hc hs (hw.1 t)) (fun t => hN _ _ _ _ _ _ hc hs (hw.2 t))
    | ne => exact sn_icmp_ne hx h1 d (fun t => hJ _ _ _ _ _ _ _ hc hs (hw.1 t)) (fun t => hN _ _ _ _ _ _ hc hs (hw.2 t))
    | lt => exact sn_icmp_lt hx h1 d (fun t => hJ _ _ _ _ _ _ _ hc hs (hw.1 t)) (fun t => hN _ _ _ _ _ _ hc hs (hw.2 t))
    | ge => exact sn_icmp_ge hx h1 d (fun t => hJ _ _ _ _ _ _ _ hc hs (hw.1 t)) (fun t => hN _ _ _ _ _ _ hc hs (hw.2 t))
    | gt => exact sn_icmp_gt hx h1 d (fun t => hJ _ _ _ _ _ _ _ hc hs (hw.1 t)) (fun t => hN _ _ _ _ _ _ hc hs (hw.2 t))
    | le => exact sn_icmp_le hx h1 d (fun t => hJ _ _ _ _ _ _ _ hc hs (hw.1 t)) (fun t => hN _ _ _ _ _ _ hc hs (hw.2 t))
  · exact hw.elim
theorem ss_ifnull (hx : x_Cx X z p l R s m args meth c) {o : Int} (hk : x_ok1 z pc len (.ifnull o) k zs = true) (d : decode (zB z) pc = .ok ((.ifnull o), len)) (hc : cells ≤ zC z) (hs : slots ≤ zS z) (hw : wpL x_Cal (zC z, zS z, x_rtc (zR z), sc) J Φ (((.ifnull o), k, zs) :: is) ls st M h cells slots)
    (hN : ∀ ls st M h c' n', c' ≤ zC z → n' ≤ zS z → wpL x_Cal (zC z, zS z, x_rtc (zR z), sc) J Φ is ls st M h c' n' → x_Wt X ρ0 n0 (zL z) p l e R s m args below meth c (x_Q X ρ0 n0 Φ below args s z) (pc + len) ls st M h c' n')
    (hJ : ∀ t ls st M h c' n', c' ≤ zC z → n' ≤ zS z → J t ls st M h c' n' → x_Wt X ρ0 n0 (zL z) p l e R s m args below meth c (x_Q X ρ0 n0 Φ below args s z) (t) ls st M h c' n') : x_Wt X ρ0 n0 (zL z) p l e R s m args below meth c (x_Q X ρ0 n0 Φ below args s z) (pc) ls st M h cells slots := by
  simp only [wpL] at hw
  split at hw
  · simp only [x_ok1, Bool.and_eq_true, decide_eq_true_eq, beq_iff_eq] at hk
    obtain ⟨h1, rfl⟩ := hk
    exact sn_ifnull hx h1 d (fun t => hJ _ _ _ _ _ _ _ hc hs (hw.1 t)) (fun t => hN _ _ _ _ _ _ hc hs (hw.2 t))
  · exact hw.elim
theorem ss_ifnonnull (hx : x_Cx X z p l R s m args meth c) {o : Int} (hk : x_ok1 z pc len (.ifnonnull o) k zs = true) (d : decode (zB z) pc = .ok ((.ifnonnull o), len)) (hc : cells ≤ zC z) (hs : slots ≤ zS z) (hw : wpL x_Cal (zC z, zS z, x_rtc (zR z), sc) J Φ (((.ifnonnull o), k, zs) :: is) ls st M h cells slots)
    (hN : ∀ ls st M h c' n', c' ≤ zC z → n' ≤ zS z → wpL x_Cal (zC z, zS z, x_rtc (zR z), sc) J Φ is ls st M h c' n' → x_Wt X ρ0 n0 (zL z) p l e R s m args below meth c (x_Q X ρ0 n0 Φ below args s z) (pc + len) ls st M h c' n')
    (hJ : ∀ t ls st M h c' n', c' ≤ zC z → n' ≤ zS z → J t ls st M h c' n' → x_Wt X ρ0 n0 (zL z) p l e R s m args below meth c (x_Q X ρ0 n0 Φ below args s z) (t) ls st M h c' n') : x_Wt X ρ0 n0 (zL z) p l e R s m args below meth c (x_Q X ρ0 n0 Φ below args s z) (pc) ls st M h cells slots := by
  simp only [wpL] at hw
  split at hw
  · simp only [x_ok1, Bool.and_eq_true, decide_eq_true_eq, beq_iff_eq] at hk
    obtain ⟨h1, rfl⟩ := hk
    exact sn_ifnonnull hx h1 d (fun t => hJ _ _ _ _ _ _ _ hc hs (hw.1 t)) (fun t => hN _ _ _ _ _ _ hc hs (hw.2 t))
  · simp only [x_ok1, Bool.and_eq_true, decide_eq_true_eq, beq_iff_eq] at hk
    obtain ⟨h1, rfl⟩ := hk
    intro ρ lsC H locs S
    exact lv_ifnonnull hx.1 hx.2.1 d h1 (hJ _ _ _ _ _ _ _ hc hs hw ρ lsC H locs S.pop)
  · exact hw.elim
theorem ss_goto (hx : x_Cx X z p l R s m args meth c) {o : Int} (hk : x_ok1 z pc len (.goto o) k zs = true) (d : decode (zB z) pc = .ok ((.goto o), len)) (hc : cells ≤ zC z) (hs : slots ≤ zS z) (hw : wpL x_Cal (zC z, zS z, x_rtc (zR z), sc) J Φ (((.goto o), k, zs) :: is) ls st M h cells slots)
    (hN : ∀ ls st M h c' n', c' ≤ zC z → n' ≤ zS z → wpL x_Cal (zC z, zS z, x_rtc (zR z), sc) J Φ is ls st M h c' n' → x_Wt X ρ0 n0 (zL z) p l e R s m args below meth c (x_Q X ρ0 n0 Φ below args s z) (pc + len) ls st M h c' n')
    (hJ : ∀ t ls st M h c' n', c' ≤ zC z → n' ≤ zS z → J t ls st M h c' n' → x_Wt X ρ0 n0 (zL z) p l e R s m args below meth c (x_Q X ρ0 n0 Φ below args s z) (t) ls st M h c' n') : x_Wt X ρ0 n0 (zL z) p l e R s m args below meth c (x_Q X ρ0 n0 Φ below args s z) (pc) ls st M h cells slots := by
  simp only [wpL] at hw
  split at hw
  · simp only [x_ok1, Bool.and_eq_true, decide_eq_true_eq, beq_iff_eq] at hk
    obtain ⟨h1, rfl⟩ := hk
    exact sn_goto hx h1 d (hJ _ _ _ _ _ _ _ hc hs hw)
  · exact hw.elim
theorem ss_getfield (hx : x_Cx X z p l R s m args meth c) {idx : Nat} (hk : x_ok1 z pc len (.getfield idx) k zs = true) (d : decode (zB z) pc = .ok ((.getfield idx), len)) (hc : cells ≤ zC z) (hs : slots ≤ zS z) (hw : wpL x_Cal (zC z, zS z, x_rtc (zR z), sc) J Φ (((.getfield idx), k, zs) :: is) ls st M h cells slots)
    (hN : ∀ ls st M h c' n', c' ≤ zC z → n' ≤ zS z → wpL x_Cal (zC z, zS z, x_rtc (zR z), sc) J Φ is ls st M h c' n' → x_Wt X ρ0 n0 (zL z) p l e R s m args below meth c (x_Q X ρ0 n0 Φ below args s z) (pc + len) ls st M h c' n')
    (hJ : ∀ t ls st M h c' n', c' ≤ zC z → n' ≤ zS z → J t ls st M h c' n' → x_Wt X ρ0 n0 (zL z) p l e R s m args below meth c (x_Q X ρ0 n0 Φ below args s z) (t) ls st M h c' n') : x_Wt X ρ0 n0 (zL z) p l e R s m args below meth c (x_Q X ρ0 n0 Φ below args s z) (pc) ls st M h cells slots := by
  simp only [wpL] at hw
  split at hw
  · rename_i q i k a st
    cases k with
    | nil => exact absurd hk (by simp [x_ok1])
    | cons pp k =>
      simp only [x_ok1, Bool.and_eq_true, decide_eq_true_eq, beq_iff_eq] at hk
      obtain ⟨h1, h2, h3, h4, rfl⟩ := hk
      have ht := x_tag0 h3
      refine sn_getf (v := xI (M a i)) hx h1 h2 (hx.hts _ (x_has_in h4)) d hw.1 (fun ρ => by rw [ht]; rfl) (fun ok => ?_) (hN _ _ _ _ _ _ hc hs hw.2)
      exact rng_i' (q := q) (i := i) (x_isl_i h1 ht) (by have := ok.2.2.2.2.1 a i (by rw [hw.1]; omega); rw [hw.1] at this; exact this)
  · rename_i q i k a st
    cases k with
    | nil => exact absurd hk (by simp [x_ok1])
    | cons pp k =>
      simp only [x_ok1, Bool.and_eq_true, decide_eq_true_eq, beq_iff_eq] at hk
      obtain ⟨h1, h2, h3, h4, rfl⟩ := hk
      have ht := x_tag1 h3
      refine sn_getf (v := xJ (M a i)) hx h1 h2 (hx.hts _ (x_has_in h4)) d hw.1 (fun ρ => by rw [ht]; rfl) (fun ok => ?_) (hN _ _ _ _ _ _ hc hs hw.2)
      exact rng_l' (q := q) (i := i) (x_isl_l h1 h2 ht) (by have := ok.2.2.2.2.1 a i (by rw [hw.1]; omega); rw [hw.1] at this; exact this)
  · rename_i q i k a st
    cases k with
    | nil => exact absurd hk (by simp [x_ok1])
    | cons pp k =>
      simp only [x_ok1, Bool.and_eq_true, decide_eq_true_eq, beq_iff_eq] at hk
      obtain ⟨h1, h2, h3, h4, rfl⟩ := hk
      refine sn_getf (v := xA (hP h a i)) hx h1 h2 (hx.hts _ (x_has_in h4)) d hw.1 (fun ρ => (x_fv2 h3).symm) (fun ok => ok.2.2.2.2.2 a i) (hN _ _ _ _ _ _ hc hs hw.2)
  · rename_i q i k a st
    cases k with
    | nil => exact absurd hk (by simp [x_ok1])
    | cons pp k =>
      simp only [x_ok1, Bool.and_eq_true, decide_eq_true_eq, beq_iff_eq] at hk
      obtain ⟨h1, h2, h3, h4, rfl⟩ := hk
      have ht := x_tag3 h3
      refine sn_getf (v := xI (M a i)) hx h1 h2 (hx.hts _ (x_has_in h4)) d hw.1 (fun ρ => by rw [ht]; rfl) (fun ok => ?_) (hN _ _ _ _ _ _ hc hs hw.2)
      exact rng_i' (q := q) (i := i) (x_isl_b h1 ht) (by have := ok.2.2.2.2.1 a i (by rw [hw.1]; omega); rw [hw.1] at this; exact this)
  · exact hw.elim
theorem ss_putfield (hx : x_Cx X z p l R s m args meth c) {idx : Nat} (hk : x_ok1 z pc len (.putfield idx) k zs = true) (d : decode (zB z) pc = .ok ((.putfield idx), len)) (hc : cells ≤ zC z) (hs : slots ≤ zS z) (hw : wpL x_Cal (zC z, zS z, x_rtc (zR z), sc) J Φ (((.putfield idx), k, zs) :: is) ls st M h cells slots)
    (hN : ∀ ls st M h c' n', c' ≤ zC z → n' ≤ zS z → wpL x_Cal (zC z, zS z, x_rtc (zR z), sc) J Φ is ls st M h c' n' → x_Wt X ρ0 n0 (zL z) p l e R s m args below meth c (x_Q X ρ0 n0 Φ below args s z) (pc + len) ls st M h c' n')
    (hJ : ∀ t ls st M h c' n', c' ≤ zC z → n' ≤ zS z → J t ls st M h c' n' → x_Wt X ρ0 n0 (zL z) p l e R s m args below meth c (x_Q X ρ0 n0 Φ below args s z) (t) ls st M h c' n') : x_Wt X ρ0 n0 (zL z) p l e R s m args below meth c (x_Q X ρ0 n0 Φ below args s z) (pc) ls st M h cells slots := by
  simp only [wpL] at hw
  split at hw
  · rename_i q i k v a st
    cases k with
    | nil => exact absurd hk (by simp [x_ok1])
    | cons pp k =>
      simp only [x_ok1, Bool.and_eq_true, decide_eq_true_eq, beq_iff_eq] at hk
      obtain ⟨h1, h2, h3, h4, h5, h6, rfl⟩ := hk
      rcases h5 with h5 | ⟨h5, h7, h8⟩
      · exact sn_putf hx h1 h2 (hx.hts _ (x_has_in h4)) h5 d hw.1 (v := xI v) (M' := x_w M a i v) (h' := h) rfl hw.1 (fun ρ => ⟨by rw [x_tag0 h3]; show _ = x_fv ρ _ (if a = a ∧ (i : Int) = i then v else M a i) _; rw [if_pos ⟨rfl, rfl⟩]; rfl, by rw [x_tag0 h3]; rfl, by rw [x_tag0 h3]; rfl⟩) (fun ρ j hj => by show x_fv ρ _ (if a = a ∧ (j : Int) = i then v else M a j) _ = _; rw [if_neg (by omega)]) (fun ρ b hb => x_w_o b hb) (fun ok hvk => ok.w a i v (fun _ => by rw [hw.1]; exact rng_i (by rw [h6]; rfl) hvk)) (hN _ _ _ _ _ _ hc hs hw.2)
      · exact sn_putfF hx h1 h2 (hx.hts _ (x_has_in h4)) h5 h7 h8 d hw.1 (v := xI v) (M' := x_w M a i v) (h' := h) rfl hw.1 (fun ρ => ⟨by rw [x_tag0 h3]; show _ = x_fv ρ _ (if a = a ∧ (i : Int) = i then v else M a i) _; rw [if_pos ⟨rfl, rfl⟩]; rfl, by rw [x_tag0 h3]; rfl, by rw [x_tag0 h3]; rfl⟩) (fun ρ j hj => by show x_fv ρ _ (if a = a ∧ (j : Int) = i then v else M a j) _ = _; rw [if_neg (by omega)]) (fun ρ b hb => x_w_o b hb) (fun ok hvk => ok.w a i v (fun _ => by rw [hw.1]; exact rng_i (by rw [h6]; rfl) hvk)) (hN _ _ _ _ _ _ hc hs hw.2)
  · rename_i q i k v a st
    cases k with
    | nil => exact absurd hk (by simp [x_ok1])
    | cons pp k =>
      simp only [x_ok1, Bool.and_eq_true, decide_eq_true_eq, beq_iff_eq] at hk
      obtain ⟨h1, h2, h3, h4, h5, h6, rfl⟩ := hk
      rcases h5 with h5 | ⟨h5, h7, h8⟩
      · exact sn_putf hx h1 h2 (hx.hts _ (x_has_in h4)) h5 d hw.1 (v := xJ v) (M' := x_w M a i v) (h' := h) rfl hw.1 (fun ρ => ⟨by rw [x_tag1 h3]; show _ = x_fv ρ _ (if a = a ∧ (i : Int) = i then v else M a i) _; rw [if_pos ⟨rfl, rfl⟩]; rfl, by rw [x_tag1 h3]; rfl, by rw [x_tag1 h3]; rfl⟩) (fun ρ j hj => by show x_fv ρ _ (if a = a ∧ (j : Int) = i then v else M a j) _ = _; rw [if_neg (by omega)]) (fun ρ b hb => x_w_o b hb) (fun ok hvk => ok.w a i v (fun _ => by rw [hw.1]; exact rng_l (by rw [h6]; rfl) hvk)) (hN _ _ _ _ _ _ hc hs hw.2)
      · exact sn_putfF hx h1 h2 (hx.hts _ (x_has_in h4)) h5 h7 h8 d hw.1 (v := xJ v) (M' := x_w M a i v) (h' := h) rfl hw.1 (fun ρ => ⟨by rw [x_tag1 h3]; show _ = x_fv ρ _ (if a = a ∧ (i : Int) = i then v else M a i) _; rw [if_pos ⟨rfl, rfl⟩]; rfl, by rw [x_tag1 h3]; rfl, by rw [x_tag1 h3]; rfl⟩) (fun ρ j hj => by show x_fv ρ _ (if a = a ∧ (j : Int) = i then v else M a j) _ = _; rw [if_neg (by omega)]) (fun ρ b hb => x_w_o b hb) (fun ok hvk => ok.w a i v (fun _ => by rw [hw.1]; exact rng_l (by rw [h6]; rfl) hvk)) (hN _ _ _ _ _ _ hc hs hw.2)
  · rename_i q i k r a st
    cases k with
    | nil => exact absurd hk (by simp [x_ok1])
    | cons pp k =>
      simp only [x_ok1, Bool.and_eq_true, decide_eq_true_eq, beq_iff_eq] at hk
      obtain ⟨h1, h2, h3, h4, h5, h6, rfl⟩ := hk
      rcases h5 with h5 | ⟨h5, h7, h8⟩
      · exact sn_putf hx h1 h2 (hx.hts _ (x_has_in h4)) h5 d hw.1 (v := xA r) (M' := M) (h' := x_pw h a i r) rfl hw.1 (fun ρ => ⟨by rw [show hP (x_pw h a i r) a i = r from if_pos ⟨rfl, rfl⟩]; exact (x_fv2 h3).symm, x_nar2 h3 _, x_fit2 h3 _⟩) (fun ρ j hj => by rw [show hP (x_pw h a i r) a j = hP h a j from if_neg (by omega)]) (fun ρ b hb => x_pw_o b hb) (fun ok hvk => ok.pw a i r hvk) (hN _ _ _ _ _ _ hc hs hw.2)
      · exact sn_putfF hx h1 h2 (hx.hts _ (x_has_in h4)) h5 h7 h8 d hw.1 (v := xA r) (M' := M) (h' := x_pw h a i r) rfl hw.1 (fun ρ => ⟨by rw [show hP (x_pw h a i r) a i = r from if_pos ⟨rfl, rfl⟩]; exact (x_fv2 h3).symm, x_nar2 h3 _, x_fit2 h3 _⟩) (fun ρ j hj => by rw [show hP (x_pw h a i r) a j = hP h a j from if_neg (by omega)]) (fun ρ b hb => x_pw_o b hb) (fun ok hvk => ok.pw a i r hvk) (hN _ _ _ _ _ _ hc hs hw.2)
  · rename_i q i k v a st
    cases k with
    | nil => exact absurd hk (by simp [x_ok1])
    | cons pp k =>
      simp only [x_ok1, Bool.and_eq_true, decide_eq_true_eq, beq_iff_eq] at hk
      obtain ⟨h1, h2, h3, h4, h5, h6, rfl⟩ := hk
      rcases h5 with h5 | ⟨h5, h7, h8⟩
      · exact sn_putf hx h1 h2 (hx.hts _ (x_has_in h4)) h5 d hw.1.1 (v := xI v) (M' := x_w M a i v) (h' := h) rfl hw.1.1 (fun ρ => ⟨by rw [x_tag3 h3]; show _ = x_fv ρ _ (if a = a ∧ (i : Int) = i then v else M a i) _; rw [if_pos ⟨rfl, rfl⟩]; rfl, by rw [x_tag3 h3]; exact x_nb hw.1.2, by rw [x_tag3 h3]; exact x_fb (x_w8f hw.1.2).1 (x_w8f hw.1.2).2⟩) (fun ρ j hj => by show x_fv ρ _ (if a = a ∧ (j : Int) = i then v else M a j) _ = _; rw [if_neg (by omega)]) (fun ρ b hb => x_w_o b hb) (fun ok hvk => ok.w a i v (fun _ => by rw [hw.1.1]; exact rng_i (by rw [h6]; rfl) hvk)) (hN _ _ _ _ _ _ hc hs hw.2)
      · exact sn_putfF hx h1 h2 (hx.hts _ (x_has_in h4)) h5 h7 h8 d hw.1.1 (v := xI v) (M' := x_w M a i v) (h' := h) rfl hw.1.1 (fun ρ => ⟨by rw [x_tag3 h3]; show _ = x_fv ρ _ (if a = a ∧ (i : Int) = i then v else M a i) _; rw [if_pos ⟨rfl, rfl⟩]; rfl, by rw [x_tag3 h3]; exact x_nb hw.1.2, by rw [x_tag3 h3]; exact x_fb (x_w8f hw.1.2).1 (x_w8f hw.1.2).2⟩) (fun ρ j hj => by show x_fv ρ _ (if a = a ∧ (j : Int) = i then v else M a j) _ = _; rw [if_neg (by omega)]) (fun ρ b hb => x_w_o b hb) (fun ok hvk => ok.w a i v (fun _ => by rw [hw.1.1]; exact rng_i (by rw [h6]; rfl) hvk)) (hN _ _ _ _ _ _ hc hs hw.2)
  · exact hw.elim
theorem ss_iaload (hx : x_Cx X z p l R s m args meth c) (hsc : x_scok sc X) (hk : x_ok1 z pc len .iaload k zs = true) (d : decode (zB z) pc = .ok (.iaload, len)) (hc : cells ≤ zC z) (hs : slots ≤ zS z) (hw : wpL x_Cal (zC z, zS z, x_rtc (zR z), sc) J Φ ((.iaload, k, zs) :: is) ls st M h cells slots)
    (hN : ∀ ls st M h c' n', c' ≤ zC z → n' ≤ zS z → wpL x_Cal (zC z, zS z, x_rtc (zR z), sc) J Φ is ls st M h c' n' → x_Wt X ρ0 n0 (zL z) p l e R s m args below meth c (x_Q X ρ0 n0 Φ below args s z) (pc + len) ls st M h c' n')
    (hJ : ∀ t ls st M h c' n', c' ≤ zC z → n' ≤ zS z → J t ls st M h c' n' → x_Wt X ρ0 n0 (zL z) p l e R s m args below meth c (x_Q X ρ0 n0 Φ below args s z) (t) ls st M h c' n') : x_Wt X ρ0 n0 (zL z) p l e R s m args below meth c (x_Q X ρ0 n0 Φ below args s z) (pc) ls st M h cells slots := by
  simp only [x_ok1, beq_iff_eq] at hk
  subst hk
  simp only [wpL] at hw
  split at hw
  · exact sn_iaload hx d hw.1 hw.2.1 (hN _ _ _ _ _ _ hc hs hw.2.2)
  · exact sn_sld hx hsc d hw.1 hw.2.1 (hN _ _ _ _ _ _ hc hs hw.2.2)
  · exact hw.elim
theorem ss_baload (hx : x_Cx X z p l R s m args meth c) (hk : x_ok1 z pc len .baload k zs = true) (d : decode (zB z) pc = .ok (.baload, len)) (hc : cells ≤ zC z) (hs : slots ≤ zS z) (hw : wpL x_Cal (zC z, zS z, x_rtc (zR z), sc) J Φ ((.baload, k, zs) :: is) ls st M h cells slots)
    (hN : ∀ ls st M h c' n', c' ≤ zC z → n' ≤ zS z → wpL x_Cal (zC z, zS z, x_rtc (zR z), sc) J Φ is ls st M h c' n' → x_Wt X ρ0 n0 (zL z) p l e R s m args below meth c (x_Q X ρ0 n0 Φ below args s z) (pc + len) ls st M h c' n')
    (hJ : ∀ t ls st M h c' n', c' ≤ zC z → n' ≤ zS z → J t ls st M h c' n' → x_Wt X ρ0 n0 (zL z) p l e R s m args below meth c (x_Q X ρ0 n0 Φ below args s z) (t) ls st M h c' n') : x_Wt X ρ0 n0 (zL z) p l e R s m args below meth c (x_Q X ρ0 n0 Φ below args s z) (pc) ls st M h cells slots := by
  simp only [x_ok1, Bool.and_eq_true, decide_eq_true_eq, beq_iff_eq] at hk
  subst hk
  simp only [wpL] at hw
  split at hw
  · exact sn_baload hx d hw.1 hw.2.1 (hN _ _ _ _ _ _ hc hs hw.2.2)
  · exact hw.elim
theorem ss_iastore (hx : x_Cx X z p l R s m args meth c) (hk : x_ok1 z pc len .iastore k zs = true) (d : decode (zB z) pc = .ok (.iastore, len)) (hc : cells ≤ zC z) (hs : slots ≤ zS z) (hw : wpL x_Cal (zC z, zS z, x_rtc (zR z), sc) J Φ ((.iastore, k, zs) :: is) ls st M h cells slots)
    (hN : ∀ ls st M h c' n', c' ≤ zC z → n' ≤ zS z → wpL x_Cal (zC z, zS z, x_rtc (zR z), sc) J Φ is ls st M h c' n' → x_Wt X ρ0 n0 (zL z) p l e R s m args below meth c (x_Q X ρ0 n0 Φ below args s z) (pc + len) ls st M h c' n')
    (hJ : ∀ t ls st M h c' n', c' ≤ zC z → n' ≤ zS z → J t ls st M h c' n' → x_Wt X ρ0 n0 (zL z) p l e R s m args below meth c (x_Q X ρ0 n0 Φ below args s z) (t) ls st M h c' n') : x_Wt X ρ0 n0 (zL z) p l e R s m args below meth c (x_Q X ρ0 n0 Φ below args s z) (pc) ls st M h cells slots := by
  simp only [x_ok1, Bool.and_eq_true, decide_eq_true_eq, beq_iff_eq] at hk
  subst hk
  simp only [wpL] at hw
  split at hw
  · exact sn_iastore hx d hw.1 hw.2.1 (hN _ _ _ _ _ _ hc hs hw.2.2)
  · exact hw.elim
theorem ss_bastore (hx : x_Cx X z p l R s m args meth c) (hk : x_ok1 z pc len .bastore k zs = true) (d : decode (zB z) pc = .ok (.bastore, len)) (hc : cells ≤ zC z) (hs : slots ≤ zS z) (hw : wpL x_Cal (zC z, zS z, x_rtc (zR z), sc) J Φ ((.bastore, k, zs) :: is) ls st M h cells slots)
    (hN : ∀ ls st M h c' n', c' ≤ zC z → n' ≤ zS z → wpL x_Cal (zC z, zS z, x_rtc (zR z), sc) J Φ is ls st M h c' n' → x_Wt X ρ0 n0 (zL z) p l e R s m args below meth c (x_Q X ρ0 n0 Φ below args s z) (pc + len) ls st M h c' n')
    (hJ : ∀ t ls st M h c' n', c' ≤ zC z → n' ≤ zS z → J t ls st M h c' n' → x_Wt X ρ0 n0 (zL z) p l e R s m args below meth c (x_Q X ρ0 n0 Φ below args s z) (t) ls st M h c' n') : x_Wt X ρ0 n0 (zL z) p l e R s m args below meth c (x_Q X ρ0 n0 Φ below args s z) (pc) ls st M h cells slots := by
  simp only [x_ok1, Bool.and_eq_true, decide_eq_true_eq, beq_iff_eq] at hk
  subst hk
  simp only [wpL] at hw
  split at hw
  · exact sn_bastore hx d hw.1 hw.2.1 (hN _ _ _ _ _ _ hc hs hw.2.2)
  · exact hw.elim
theorem ss_aaload (hx : x_Cx X z p l R s m args meth c) (hk : x_ok1 z pc len .aaload k zs = true) (d : decode (zB z) pc = .ok (.aaload, len)) (hc : cells ≤ zC z) (hs : slots ≤ zS z) (hw : wpL x_Cal (zC z, zS z, x_rtc (zR z), sc) J Φ ((.aaload, k, zs) :: is) ls st M h cells slots)
    (hN : ∀ ls st M h c' n', c' ≤ zC z → n' ≤ zS z → wpL x_Cal (zC z, zS z, x_rtc (zR z), sc) J Φ is ls st M h c' n' → x_Wt X ρ0 n0 (zL z) p l e R s m args below meth c (x_Q X ρ0 n0 Φ below args s z) (pc + len) ls st M h c' n')
    (hJ : ∀ t ls st M h c' n', c' ≤ zC z → n' ≤ zS z → J t ls st M h c' n' → x_Wt X ρ0 n0 (zL z) p l e R s m args below meth c (x_Q X ρ0 n0 Φ below args s z) (t) ls st M h c' n') : x_Wt X ρ0 n0 (zL z) p l e R s m args below meth c (x_Q X ρ0 n0 Φ below args s z) (pc) ls st M h cells slots := by
  simp only [x_ok1, beq_iff_eq] at hk
  subst hk
  simp only [wpL] at hw
  split at hw
  · rcases hw.1 with h1 | h1
    · exact sn_aaload23 hx d h1 hw.2.1 (hN _ _ _ _ _ _ hc hs hw.2.2)
    · exact sn_aaload24 hx d h1 hw.2.1 (hN _ _ _ _ _ _ hc hs hw.2.2)
  · exact hw.elim
theorem ss_aastore (hx : x_Cx X z p l R s m args meth c) (hk : x_ok1 z pc len .aastore k zs = true) (d : decode (zB z) pc = .ok (.aastore, len)) (hc : cells ≤ zC z) (hs : slots ≤ zS z) (hw : wpL x_Cal (zC z, zS z, x_rtc (zR z), sc) J Φ ((.aastore, k, zs) :: is) ls st M h cells slots)
    (hN : ∀ ls st M h c' n', c' ≤ zC z → n' ≤ zS z → wpL x_Cal (zC z, zS z, x_rtc (zR z), sc) J Φ is ls st M h c' n' → x_Wt X ρ0 n0 (zL z) p l e R s m args below meth c (x_Q X ρ0 n0 Φ below args s z) (pc + len) ls st M h c' n')
    (hJ : ∀ t ls st M h c' n', c' ≤ zC z → n' ≤ zS z → J t ls st M h c' n' → x_Wt X ρ0 n0 (zL z) p l e R s m args below meth c (x_Q X ρ0 n0 Φ below args s z) (t) ls st M h c' n') : x_Wt X ρ0 n0 (zL z) p l e R s m args below meth c (x_Q X ρ0 n0 Φ below args s z) (pc) ls st M h cells slots := by
  simp only [x_ok1, beq_iff_eq] at hk
  subst hk
  simp only [wpL] at hw
  split at hw
  · rcases hw.1 with ⟨h1, h2⟩ | ⟨h1, h2⟩
    · exact sn_aastore23 hx d h1 h2 hw.2.1 (hN _ _ _ _ _ _ hc hs hw.2.2)
    · exact sn_aastore24 hx d h1 h2 hw.2.1 (hN _ _ _ _ _ _ hc hs hw.2.2)
  · exact hw.elim
theorem ss_alen (hx : x_Cx X z p l R s m args meth c) (hsc : x_scok sc X) (hk : x_ok1 z pc len .arraylength k zs = true) (d : decode (zB z) pc = .ok (.arraylength, len)) (hc : cells ≤ zC z) (hs : slots ≤ zS z) (hw : wpL x_Cal (zC z, zS z, x_rtc (zR z), sc) J Φ ((.arraylength, k, zs) :: is) ls st M h cells slots)
    (hN : ∀ ls st M h c' n', c' ≤ zC z → n' ≤ zS z → wpL x_Cal (zC z, zS z, x_rtc (zR z), sc) J Φ is ls st M h c' n' → x_Wt X ρ0 n0 (zL z) p l e R s m args below meth c (x_Q X ρ0 n0 Φ below args s z) (pc + len) ls st M h c' n')
    (hJ : ∀ t ls st M h c' n', c' ≤ zC z → n' ≤ zS z → J t ls st M h c' n' → x_Wt X ρ0 n0 (zL z) p l e R s m args below meth c (x_Q X ρ0 n0 Φ below args s z) (t) ls st M h c' n') : x_Wt X ρ0 n0 (zL z) p l e R s m args below meth c (x_Q X ρ0 n0 Φ below args s z) (pc) ls st M h cells slots := by
  simp only [x_ok1, beq_iff_eq] at hk
  subst hk
  simp only [wpL] at hw
  split at hw
  · exact sn_alen hx d hw.1 hw.2.1 (hN _ _ _ _ _ _ hc hs hw.2.2)
  · exact sn_slen hx hsc hw.2.1 d hw.1 (hN _ _ _ _ _ _ hc hs hw.2.2)
  · exact hw.elim
theorem ss_new (hx : x_Cx X z p l R s m args meth c) {idx : Nat} (hk : x_ok1 z pc len (.new idx) k zs = true) (d : decode (zB z) pc = .ok ((.new idx), len)) (hc : cells ≤ zC z) (hs : slots ≤ zS z) (hw : wpL x_Cal (zC z, zS z, x_rtc (zR z), sc) J Φ (((.new idx), k, zs) :: is) ls st M h cells slots)
    (hN : ∀ ls st M h c' n', c' ≤ zC z → n' ≤ zS z → wpL x_Cal (zC z, zS z, x_rtc (zR z), sc) J Φ is ls st M h c' n' → x_Wt X ρ0 n0 (zL z) p l e R s m args below meth c (x_Q X ρ0 n0 Φ below args s z) (pc + len) ls st M h c' n')
    (hJ : ∀ t ls st M h c' n', c' ≤ zC z → n' ≤ zS z → J t ls st M h c' n' → x_Wt X ρ0 n0 (zL z) p l e R s m args below meth c (x_Q X ρ0 n0 Φ below args s z) (t) ls st M h c' n') : x_Wt X ρ0 n0 (zL z) p l e R s m args below meth c (x_Q X ρ0 n0 Φ below args s z) (pc) ls st M h cells slots := by
  simp only [wpL] at hw
  split at hw
  · rename_i q k
    rcases k with _ | ⟨p1, _ | ⟨p2, _ | ⟨p3, k⟩⟩⟩
    · exact absurd hk (by simp [x_ok1])
    · exact absurd hk (by simp [x_ok1])
    · exact absurd hk (by simp [x_ok1])
    · simp only [x_ok1, Bool.and_eq_true, decide_eq_true_eq, beq_iff_eq] at hk
      obtain ⟨h1, h2, h3, h4, rfl⟩ := hk
      exact sn_new hx h1 (hx.hts _ (x_has_in h2)) (hx.hts _ (x_has_in h3)) (hx.hts _ (x_has_in h4)) d hw.1.1 hw.1.2 (hN _ _ _ _ _ _ hw.1.1 hw.1.2 hw.2)
  · exact hw.elim
theorem ss_newarray (hx : x_Cx X z p l R s m args meth c) {t : ArrayType} (hk : x_ok1 z pc len (.newarray t) k zs = true) (d : decode (zB z) pc = .ok ((.newarray t), len)) (hc : cells ≤ zC z) (hs : slots ≤ zS z) (hw : wpL x_Cal (zC z, zS z, x_rtc (zR z), sc) J Φ (((.newarray t), k, zs) :: is) ls st M h cells slots)
    (hN : ∀ ls st M h c' n', c' ≤ zC z → n' ≤ zS z → wpL x_Cal (zC z, zS z, x_rtc (zR z), sc) J Φ is ls st M h c' n' → x_Wt X ρ0 n0 (zL z) p l e R s m args below meth c (x_Q X ρ0 n0 Φ below args s z) (pc + len) ls st M h c' n')
    (hJ : ∀ t ls st M h c' n', c' ≤ zC z → n' ≤ zS z → J t ls st M h c' n' → x_Wt X ρ0 n0 (zL z) p l e R s m args below meth c (x_Q X ρ0 n0 Φ below args s z) (t) ls st M h c' n') : x_Wt X ρ0 n0 (zL z) p l e R s m args below meth c (x_Q X ρ0 n0 Φ below args s z) (pc) ls st M h cells slots := by
  simp only [wpL] at hw
  split at hw
  · rename_i q k x st
    cases k with
    | nil => exact absurd hk (by simp [x_ok1])
    | cons pp k =>
      simp only [x_ok1, Bool.and_eq_true, decide_eq_true_eq, beq_iff_eq] at hk
      obtain ⟨h1, h0, h2, rfl⟩ := hk
      obtain ⟨⟨w1, w2, w3, w4⟩, w5⟩ := hw
      cases t with
      | int => subst h1; exact sn_newarray20 hx (hx.hts _ (x_has_in h2)) d ⟨w1, w2⟩ w3 w4 (hN _ _ _ _ _ _ w3 w4 w5)
      | byte => subst h1; exact sn_newarray21 hx (hx.hts _ (x_has_in h2)) d ⟨w1, w2⟩ w3 w4 (hN _ _ _ _ _ _ w3 w4 w5)
      | _ => exact absurd h0 (by rw [← h1]; decide)
  · exact hw.elim
theorem ss_anewarray (hx : x_Cx X z p l R s m args meth c) {idx : Nat} (hk : x_ok1 z pc len (.anewarray idx) k zs = true) (d : decode (zB z) pc = .ok ((.anewarray idx), len)) (hc : cells ≤ zC z) (hs : slots ≤ zS z) (hw : wpL x_Cal (zC z, zS z, x_rtc (zR z), sc) J Φ (((.anewarray idx), k, zs) :: is) ls st M h cells slots)
    (hN : ∀ ls st M h c' n', c' ≤ zC z → n' ≤ zS z → wpL x_Cal (zC z, zS z, x_rtc (zR z), sc) J Φ is ls st M h c' n' → x_Wt X ρ0 n0 (zL z) p l e R s m args below meth c (x_Q X ρ0 n0 Φ below args s z) (pc + len) ls st M h c' n')
    (hJ : ∀ t ls st M h c' n', c' ≤ zC z → n' ≤ zS z → J t ls st M h c' n' → x_Wt X ρ0 n0 (zL z) p l e R s m args below meth c (x_Q X ρ0 n0 Φ below args s z) (t) ls st M h c' n') : x_Wt X ρ0 n0 (zL z) p l e R s m args below meth c (x_Q X ρ0 n0 Φ below args s z) (pc) ls st M h cells slots := by
  simp only [wpL] at hw
  split at hw
  · rename_i q k x st
    obtain ⟨⟨w1, w2, w3, w4⟩, w5⟩ := hw
    rcases k with _ | ⟨p1, _ | ⟨p2, k⟩⟩
    · exact absurd hk (by simp [x_ok1])
    · exact absurd hk (by simp [x_ok1])
    · simp only [x_ok1, Bool.or_eq_true, Bool.and_eq_true, decide_eq_true_eq, beq_iff_eq] at hk
      rcases hk with ⟨rfl, h1, h2, rfl⟩ | ⟨rfl, h1, h2, rfl⟩
      · exact sn_anewarray23 hx (hx.hts _ (x_has_in h1)) (va_AO.of (hx.O.2.2.1.1 _ (x_hasO_in h2).1 rfl)) d ⟨w1, w2⟩ w3 w4 (hN _ _ _ _ _ _ w3 w4 w5)
      · exact sn_anewarray24 hx (hx.hts _ (x_has_in h1)) (va_AO.of (hx.O.2.2.1.1 _ (x_hasO_in h2).1 rfl)) d ⟨w1, w2⟩ w3 w4 (hN _ _ _ _ _ _ w3 w4 w5)
  · exact hw.elim
theorem x_dec {h : xH} {q na : Nat} {st : List xV} (hrc : x_rc h q (st.drop na)) (hq : q < 10) : ∃ r, hK h r = q ∧ st = ((st.take na).reverse).reverse ++ xA r :: st.drop (na + 1) ∧ (st.take (na + 1)).reverse = xA r :: (st.take na).reverse ∧ (st.take na).reverse.length = na := by
  cases hd : st.drop na with
  | nil => rw [hd] at hrc; exact hrc.elim
  | cons v w =>
    rw [hd] at hrc
    have hl : na < st.length := by
      have := congrArg List.length hd
      simp at this
      omega
    have hv : st[na]? = some v := by
      have h1 := List.getElem?_drop (xs := st) (i := na) (j := 0)
      rw [hd] at h1
      simpa using h1.symm
    have hw : st.drop (na + 1) = w := by rw [← List.drop_drop, hd]; rfl
    have ht : st.take (na + 1) = st.take na ++ [v] := by rw [List.take_succ, hv]; rfl
    rcases v with x | x | r | a | i
    · exact hrc.elim
    · exact hrc.elim
    · refine ⟨r, hrc.2, ?_, ?_, by simp; omega⟩
      · rw [List.reverse_reverse, hw, ← hd, List.take_append_drop]
      · rw [ht, List.reverse_append]
        rfl
    · exact hrc.elim
    · exact absurd hrc (by show ¬ q = 50; omega)
theorem x_decT {h : xH} {na : Nat} {st : List xV} (hrc : x_rc h 50 (st.drop na)) : ∃ r, st = ((st.take na).reverse).reverse ++ xS r :: st.drop (na + 1) ∧ (st.take (na + 1)).reverse = xS r :: (st.take na).reverse ∧ (st.take na).reverse.length = na := by
  cases hd : st.drop na with
  | nil => rw [hd] at hrc; exact hrc.elim
  | cons v w =>
    rw [hd] at hrc
    have hl : na < st.length := by
      have := congrArg List.length hd
      simp at this
      omega
    have hv : st[na]? = some v := by
      have h1 := List.getElem?_drop (xs := st) (i := na) (j := 0)
      rw [hd] at h1
      simpa using h1.symm
    have hw : st.drop (na + 1) = w := by rw [← List.drop_drop, hd]; rfl
    have ht : st.take (na + 1) = st.take na ++ [v] := by rw [List.take_succ, hv]; rfl
    rcases v with x | x | r | a | i
    · exact hrc.elim
    · exact hrc.elim
    · exact absurd hrc.1 (by omega)
    · exact hrc.elim
    · refine ⟨i, ?_, ?_, by simp; omega⟩
      · rw [List.reverse_reverse, hw, ← hd, List.take_append_drop]
      · rw [ht, List.reverse_append]
        rfl
theorem x_decS {na : Nat} {st : List xV} (hl : na ≤ st.length) : st = ((st.take na).reverse).reverse ++ st.drop na ∧ (st.take na).reverse.length = na := by
  refine ⟨by rw [List.reverse_reverse, List.take_append_drop], by simp; omega⟩
theorem ss_invokevirtual (hx : x_Cx X z p l R s m args meth c) {idx : Nat} (hk : x_ok1 z pc len (.invokevirtual idx) k zs = true) (d : decode (zB z) pc = .ok ((.invokevirtual idx), len)) (hc : cells ≤ zC z) (hs : slots ≤ zS z) (hw : wpL x_Cal (zC z, zS z, x_rtc (zR z), sc) J Φ (((.invokevirtual idx), k, zs) :: is) ls st M h cells slots)
    (hN : ∀ ls st M h c' n', c' ≤ zC z → n' ≤ zS z → wpL x_Cal (zC z, zS z, x_rtc (zR z), sc) J Φ is ls st M h c' n' → x_Wt X ρ0 n0 (zL z) p l e R s m args below meth c (x_Q X ρ0 n0 Φ below args s z) (pc + len) ls st M h c' n')
    (hJ : ∀ t ls st M h c' n', c' ≤ zC z → n' ≤ zS z → J t ls st M h c' n' → x_Wt X ρ0 n0 (zL z) p l e R s m args below meth c (x_Q X ρ0 n0 Φ below args s z) (t) ls st M h c' n') : x_Wt X ρ0 n0 (zL z) p l e R s m args below meth c (x_Q X ρ0 n0 Φ below args s z) (pc) ls st M h cells slots := by
  simp only [wpL] at hw
  split at hw
  · rename_i na mc ms q k zz
    rcases k with _ | ⟨pl, _ | ⟨pi, _ | ⟨pe, _ | ⟨p1, _ | ⟨p2, k⟩⟩⟩⟩⟩
    · exact absurd hk (by simp [x_ok1])
    · exact absurd hk (by simp [x_ok1])
    · exact absurd hk (by simp [x_ok1])
    · exact absurd hk (by simp [x_ok1])
    · exact absurd hk (by simp [x_ok1])
    · simp only [x_ok1, Bool.and_eq_true, decide_eq_true_eq, beq_iff_eq] at hk
      obtain ⟨rfl, rfl, h3, h4, h5, h6, h7, rfl⟩ := hk
      obtain ⟨w1, ⟨w2, w3⟩, w4, w5, w6⟩ := hw
      rcases h3 with h3 | h3
      rotate_left
      · subst h3
        obtain ⟨r, e1, e2, e3⟩ := x_decT w1
        rw [e2] at w6
        rw [e1]
        exact sn_callVS hx (hx.hts _ (x_has_in h4)) (hx.hts _ (x_has_in h5)) (hx.hts _ (x_has_in h6)) d w6 (by rw [e3]; exact x_okv_in h7) w4 w2 w3 (fun M' h' k => hN _ _ _ _ _ _ w2 w3 k) (fun v M' h' k => hN _ _ _ _ _ _ w2 w3 k) (fun e M' h' k => k)
      rw [show x_rcn q = (x_cl q).1 from if_neg (by omega)] at h6
      obtain ⟨r, hr, e1, e2, e3⟩ := x_dec w1 h3
      rw [e2] at w6
      rw [e1]
      exact sn_callV hx (hx.hts _ (x_has_in h4)) (hx.hts _ (x_has_in h5)) (hx.hts _ (x_has_in h6)) d h3 hr w6 (by rw [e3]; exact x_okv_in h7) w4 w2 w3 (fun M' h' k => hN _ _ _ _ _ _ w2 w3 k) (fun v M' h' k => hN _ _ _ _ _ _ w2 w3 k) (fun e M' h' k => k)
  · rename_i na mc ms q k zz zx
    rcases k with _ | ⟨pl, _ | ⟨pi, _ | ⟨pe, _ | ⟨p1, _ | ⟨p2, _ | ⟨psm, _ | ⟨pix, _ | ⟨pcx, k⟩⟩⟩⟩⟩⟩⟩⟩
    · exact absurd hk (by simp [x_ok1])
    · exact absurd hk (by simp [x_ok1])
    · exact absurd hk (by simp [x_ok1])
    · exact absurd hk (by simp [x_ok1])
    · exact absurd hk (by simp [x_ok1])
    · exact absurd hk (by simp [x_ok1])
    · exact absurd hk (by simp [x_ok1])
    · exact absurd hk (by simp [x_ok1])
    · simp only [x_ok1, Bool.and_eq_true, decide_eq_true_eq, beq_iff_eq] at hk
      obtain ⟨rfl, rfl, h3, h4, h5, h6, h8, h9, h10, h11, h12, h7, rfl⟩ := hk
      obtain ⟨w1, ⟨w2, w3⟩, w4, w5, w6⟩ := hw
      obtain ⟨r, hr, e1, e2, e3⟩ := x_dec w1 h3
      rw [e2] at w6
      rw [e1]
      exact sn_callVX hx (hx.hts _ (x_has_in h4)) (hx.hts _ (x_has_in h5)) (hx.hts _ (x_has_in h6)) (hx.hts _ (x_has_in h8)) (hx.hts _ (x_has_in h9)) (hx.hts _ (x_has_in h10)) h11 (by rw [e3]; exact h12) d h3 hr (fun e M' h' k => k) w6 (by rw [e3]; exact x_okv_in h7) w4 w2 w3 (fun M' h' k => hN _ _ _ _ _ _ w2 w3 k) (fun v M' h' k => hN _ _ _ _ _ _ w2 w3 k)
  · exact hw.elim
theorem ss_invokespecial (hx : x_Cx X z p l R s m args meth c) {idx : Nat} (hk : x_ok1 z pc len (.invokespecial idx) k zs = true) (d : decode (zB z) pc = .ok ((.invokespecial idx), len)) (hc : cells ≤ zC z) (hs : slots ≤ zS z) (hw : wpL x_Cal (zC z, zS z, x_rtc (zR z), sc) J Φ (((.invokespecial idx), k, zs) :: is) ls st M h cells slots)
    (hN : ∀ ls st M h c' n', c' ≤ zC z → n' ≤ zS z → wpL x_Cal (zC z, zS z, x_rtc (zR z), sc) J Φ is ls st M h c' n' → x_Wt X ρ0 n0 (zL z) p l e R s m args below meth c (x_Q X ρ0 n0 Φ below args s z) (pc + len) ls st M h c' n')
    (hJ : ∀ t ls st M h c' n', c' ≤ zC z → n' ≤ zS z → J t ls st M h c' n' → x_Wt X ρ0 n0 (zL z) p l e R s m args below meth c (x_Q X ρ0 n0 Φ below args s z) (t) ls st M h c' n') : x_Wt X ρ0 n0 (zL z) p l e R s m args below meth c (x_Q X ρ0 n0 Φ below args s z) (pc) ls st M h cells slots := by
  simp only [wpL] at hw
  split at hw
  · rename_i k
    split at hw
    · rename_i r st
      obtain ⟨w0, w1, w2⟩ := hw
      rcases k with _ | ⟨pl, _ | ⟨pi, _ | ⟨p2, k⟩⟩⟩
      · exact absurd hk (by simp [x_ok1])
      · exact absurd hk (by simp [x_ok1])
      · exact absurd hk (by simp [x_ok1])
      · simp only [x_ok1, Bool.and_eq_true, decide_eq_true_eq, beq_iff_eq] at hk
        obtain ⟨h1, h2, h3, h4, h5, rfl⟩ := hk
        exact sn_obj hx (hx.hts _ (x_has_in h1)) (hx.hts _ (x_has_in h2)) (hx.hts _ (x_has_in h3)) w0 d h4 h5 w1 (hN _ _ _ _ _ _ hc hs w2)
    · exact hw.elim
  · rename_i na mc ms q k zz
    rcases k with _ | ⟨nst, _ | ⟨pl, _ | ⟨pi, _ | ⟨p1, _ | ⟨p2, k⟩⟩⟩⟩⟩
    · exact absurd hk (by simp [x_ok1])
    · exact absurd hk (by simp [x_ok1])
    · exact absurd hk (by simp [x_ok1])
    · exact absurd hk (by simp [x_ok1])
    · exact absurd hk (by simp [x_ok1])
    · simp only [x_ok1, Bool.or_eq_true, Bool.and_eq_true, decide_eq_true_eq, beq_iff_eq] at hk
      obtain ⟨rfl, rfl, h3, h4, h5, h6, h8, h7, rfl⟩ := hk
      obtain ⟨w1, ⟨w2, w3⟩, w4, w5, w6⟩ := hw
      obtain ⟨r, hr, e1, e2, e3⟩ := x_dec w1 h3
      rw [e2] at w6
      rw [e1]
      rcases h4 with ⟨-, h4⟩ | ⟨-, h4⟩
      · exact sn_callI hx (hx.hts _ (x_has_in h4)) (hx.hts _ (x_has_in h5)) h6 h8 d h3 hr (fun e M' h' k => k) w6 (by rw [e3]; exact x_okv_in h7) w4 w2 w3 (fun M' h' k => hN _ _ _ _ _ _ w2 w3 k) (fun v M' h' k => hN _ _ _ _ _ _ w2 w3 k)
      · exact sn_callIN hx RX7 (va_Nw.use rfl (hx.O.2.2.1.1 _ (x_hasO_in h4).1 rfl)) (hx.hts _ (x_has_in h5)) h6 h8 d h3 hr (fun e M' h' k => k) w6 (by rw [e3]; exact x_okv_in h7) w4 w2 w3 (fun M' h' k => hN _ _ _ _ _ _ w2 w3 k) (fun v M' h' k => hN _ _ _ _ _ _ w2 w3 k)
  · rename_i na mc ms q k zz zx
    rcases k with _ | ⟨pl, _ | ⟨pi, _ | ⟨psm, _ | ⟨psu, _ | ⟨p1, _ | ⟨p2, k⟩⟩⟩⟩⟩⟩
    · exact absurd hk (by simp [x_ok1])
    · exact absurd hk (by simp [x_ok1])
    · exact absurd hk (by simp [x_ok1])
    · exact absurd hk (by simp [x_ok1])
    · exact absurd hk (by simp [x_ok1])
    · exact absurd hk (by simp [x_ok1])
    · simp only [x_ok1, Bool.and_eq_true, decide_eq_true_eq, beq_iff_eq] at hk
      obtain ⟨rfl, rfl, h3, h4, h5, h6, h8, h9, h10, h7, rfl⟩ := hk
      rw [h9] at h4
      obtain ⟨w1, ⟨w2, w3⟩, w4, w5, w6⟩ := hw
      obtain ⟨r, hr, e1, e2, e3⟩ := x_dec w1 h3
      rw [e2] at w6
      rw [e1]
      exact sn_callSU hx (hx.hts _ (x_has_in h4)) (hx.hts _ (x_has_in h5)) (hx.hts _ (x_has_in h6)) (hx.hts _ (x_has_in h8)) h10 d h3 hr (fun e M' h' k => k) w6 (by rw [e3]; exact x_okv_in h7) w4 w2 w3 (fun M' h' k => hN _ _ _ _ _ _ w2 w3 k) (fun v M' h' k => hN _ _ _ _ _ _ w2 w3 k)
  · exact hw.elim
theorem ss_invokestatic (hx : x_Cx X z p l R s m args meth c) {idx : Nat} (hk : x_ok1 z pc len (.invokestatic idx) k zs = true) (d : decode (zB z) pc = .ok ((.invokestatic idx), len)) (hc : cells ≤ zC z) (hs : slots ≤ zS z) (hw : wpL x_Cal (zC z, zS z, x_rtc (zR z), sc) J Φ (((.invokestatic idx), k, zs) :: is) ls st M h cells slots)
    (hN : ∀ ls st M h c' n', c' ≤ zC z → n' ≤ zS z → wpL x_Cal (zC z, zS z, x_rtc (zR z), sc) J Φ is ls st M h c' n' → x_Wt X ρ0 n0 (zL z) p l e R s m args below meth c (x_Q X ρ0 n0 Φ below args s z) (pc + len) ls st M h c' n')
    (hJ : ∀ t ls st M h c' n', c' ≤ zC z → n' ≤ zS z → J t ls st M h c' n' → x_Wt X ρ0 n0 (zL z) p l e R s m args below meth c (x_Q X ρ0 n0 Φ below args s z) (t) ls st M h c' n') : x_Wt X ρ0 n0 (zL z) p l e R s m args below meth c (x_Q X ρ0 n0 Φ below args s z) (pc) ls st M h cells slots := by
  simp only [wpL] at hw
  split at hw
  · rename_i k
    split at hw
    · rcases k with _ | ⟨pl, _ | ⟨pn, _ | ⟨ps, _ | ⟨pi, k⟩⟩⟩⟩
      · exact absurd hk (by simp [x_ok1])
      · exact absurd hk (by simp [x_ok1])
      · exact absurd hk (by simp [x_ok1])
      · exact absurd hk (by simp [x_ok1])
      · simp only [x_ok1, Bool.and_eq_true, decide_eq_true_eq, beq_iff_eq] at hk
        obtain ⟨h1, h2, h3, h4, h5, h6, rfl⟩ := hk
        exact sn_acp hx (hx.hts _ (x_has_in h1)) (hx.hts _ (x_has_in h2)) (hx.hts _ (x_has_in h3)) (hx.hts _ (x_has_in h4)) d h5 h6 hw.2.2.1 hw.1.1 hw.1.2 hw.2.1 (hN _ _ _ _ _ _ hc hs hw.2.2.2)
    · exact hw.elim
  · rename_i k
    split at hw
    · rcases k with _ | ⟨pl, _ | ⟨pn, _ | ⟨ps, _ | ⟨pi, k⟩⟩⟩⟩
      · exact absurd hk (by simp [x_ok1])
      · exact absurd hk (by simp [x_ok1])
      · exact absurd hk (by simp [x_ok1])
      · exact absurd hk (by simp [x_ok1])
      · simp only [x_ok1, Bool.and_eq_true, decide_eq_true_eq, beq_iff_eq] at hk
        obtain ⟨h1, h2, h3, h4, h5, h6, rfl⟩ := hk
        exact sn_acpB hx (hx.hts _ (x_has_in h1)) (hx.hts _ (x_has_in h2)) (hx.hts _ (x_has_in h3)) (hx.hts _ (x_has_in h4)) d h5 h6 hw.2.2.2.1 hw.1.1 hw.1.2 hw.2.1 hw.2.2.1 (hN _ _ _ _ _ _ hc hs hw.2.2.2.2)
    · exact hw.elim
  · rename_i k
    split at hw
    · rcases k with _ | ⟨pl, _ | ⟨pn, _ | ⟨ps, _ | ⟨pi, k⟩⟩⟩⟩
      · exact absurd hk (by simp [x_ok1])
      · exact absurd hk (by simp [x_ok1])
      · exact absurd hk (by simp [x_ok1])
      · exact absurd hk (by simp [x_ok1])
      · simp only [x_ok1, Bool.and_eq_true, decide_eq_true_eq, beq_iff_eq] at hk
        obtain ⟨h1, h2, h3, h4, h5, h6, rfl⟩ := hk
        exact sn_min hx (hx.hts _ (x_has_in h1)) (hx.hts _ (x_has_in h2)) (hx.hts _ (x_has_in h3)) (hx.hts _ (x_has_in h4)) d h5 h6 hw.1 hc hs (hN _ _ _ _ _ _ hc hs hw.2)
    · exact hw.elim
  · rename_i k
    split at hw
    · rcases k with _ | ⟨pl, _ | ⟨pn, _ | ⟨ps, _ | ⟨pi, k⟩⟩⟩⟩
      · exact absurd hk (by simp [x_ok1])
      · exact absurd hk (by simp [x_ok1])
      · exact absurd hk (by simp [x_ok1])
      · exact absurd hk (by simp [x_ok1])
      · simp only [x_ok1, Bool.and_eq_true, decide_eq_true_eq, beq_iff_eq] at hk
        obtain ⟨h1, h2, h3, h4, h5, h6, rfl⟩ := hk
        exact sn_max hx (hx.hts _ (x_has_in h1)) (hx.hts _ (x_has_in h2)) (hx.hts _ (x_has_in h3)) (hx.hts _ (x_has_in h4)) d h5 h6 hw.1 hc hs (hN _ _ _ _ _ _ hc hs hw.2)
    · exact hw.elim
  · rename_i na mc ms k zz
    rcases k with _ | ⟨pl, _ | ⟨ps, _ | ⟨p1, _ | ⟨p2, k⟩⟩⟩⟩
    · exact absurd hk (by simp [x_ok1])
    · exact absurd hk (by simp [x_ok1])
    · exact absurd hk (by simp [x_ok1])
    · exact absurd hk (by simp [x_ok1])
    · simp only [x_ok1, Bool.or_eq_true, Bool.and_eq_true, decide_eq_true_eq, beq_iff_eq] at hk
      obtain ⟨rfl, rfl, h3, h4, h7, rfl⟩ := hk
      obtain ⟨⟨w2, w3⟩, w4, w5, w6⟩ := hw
      obtain ⟨e1, e3⟩ := x_decS w5
      rw [e1]
      exact sn_callS hx (hx.hts _ (x_has_in h3)) (hx.hts _ (x_has_in h4)) d w6 (by rw [e3]; exact x_okz_in h7) w4 w2 w3 (fun M' h' k => hN _ _ _ _ _ _ w2 w3 k) (fun v M' h' k => hN _ _ _ _ _ _ w2 w3 k) (fun e M' h' k => k)
  · exact hw.elim
theorem x_rt0 {t : Option FieldType} (h : x_rtc t = 0) : t = none := by
  rcases t with _ | t
  · rfl
  · cases t <;> simp [x_rtc] at h
theorem x_rt1 {t : Option FieldType} (h : x_rtc t = 1) : t = some .int := by
  rcases t with _ | t
  · simp [x_rtc] at h
  · cases t <;> simp [x_rtc] at h <;> rfl
theorem x_rt2 {t : Option FieldType} (h : x_rtc t = 2) : t = some .boolean := by
  rcases t with _ | t
  · simp [x_rtc] at h
  · cases t <;> simp [x_rtc] at h <;> rfl
theorem x_rt4 {t : Option FieldType} (h : x_rtc t = 4) : ∃ ty, t = some ty ∧ ((∃ n, ty = .object n) ∨ ∃ u, ty = .array u) := by
  rcases t with _ | t
  · simp [x_rtc] at h
  · cases t <;> simp [x_rtc] at h
    · exact ⟨_, rfl, Or.inl ⟨_, rfl⟩⟩
    · exact ⟨_, rfl, Or.inr ⟨_, rfl⟩⟩
theorem ss_return (hx : x_Cx X z p l R s m args meth c) (hk : x_ok1 z pc len .return_ k zs = true) (d : decode (zB z) pc = .ok (.return_, len)) (hc : cells ≤ zC z) (hs : slots ≤ zS z) (hw : wpL x_Cal (zC z, zS z, x_rtc (zR z), sc) J Φ ((.return_, k, zs) :: is) ls st M h cells slots)
    (hN : ∀ ls st M h c' n', c' ≤ zC z → n' ≤ zS z → wpL x_Cal (zC z, zS z, x_rtc (zR z), sc) J Φ is ls st M h c' n' → x_Wt X ρ0 n0 (zL z) p l e R s m args below meth c (x_Q X ρ0 n0 Φ below args s z) (pc + len) ls st M h c' n')
    (hJ : ∀ t ls st M h c' n', c' ≤ zC z → n' ≤ zS z → J t ls st M h c' n' → x_Wt X ρ0 n0 (zL z) p l e R s m args below meth c (x_Q X ρ0 n0 Φ below args s z) (t) ls st M h c' n') : x_Wt X ρ0 n0 (zL z) p l e R s m args below meth c (x_Q X ρ0 n0 Φ below args s z) (pc) ls st M h cells slots := by
  simp only [x_ok1, beq_iff_eq] at hk
  subst hk
  simp only [wpL] at hw
  split at hw
  · exact sn_vret hx (x_rt0 hw.1) d hc hs hw.2
  · exact hw.elim
theorem ss_ireturn (hx : x_Cx X z p l R s m args meth c) (hk : x_ok1 z pc len .ireturn k zs = true) (d : decode (zB z) pc = .ok (.ireturn, len)) (hc : cells ≤ zC z) (hs : slots ≤ zS z) (hw : wpL x_Cal (zC z, zS z, x_rtc (zR z), sc) J Φ ((.ireturn, k, zs) :: is) ls st M h cells slots)
    (hN : ∀ ls st M h c' n', c' ≤ zC z → n' ≤ zS z → wpL x_Cal (zC z, zS z, x_rtc (zR z), sc) J Φ is ls st M h c' n' → x_Wt X ρ0 n0 (zL z) p l e R s m args below meth c (x_Q X ρ0 n0 Φ below args s z) (pc + len) ls st M h c' n')
    (hJ : ∀ t ls st M h c' n', c' ≤ zC z → n' ≤ zS z → J t ls st M h c' n' → x_Wt X ρ0 n0 (zL z) p l e R s m args below meth c (x_Q X ρ0 n0 Φ below args s z) (t) ls st M h c' n') : x_Wt X ρ0 n0 (zL z) p l e R s m args below meth c (x_Q X ρ0 n0 Φ below args s z) (pc) ls st M h cells slots := by
  simp only [x_ok1, beq_iff_eq] at hk
  subst hk
  simp only [wpL] at hw
  split at hw
  · obtain ⟨w1 | ⟨w1, w2⟩, w3⟩ := hw
    · exact sn_iret hx (x_rt1 w1) rfl d hc hs w3
    · rcases w2 with rfl | rfl
      · exact sn_iret hx (x_rt2 w1) (by decide) d hc hs w3
      · exact sn_iret hx (x_rt2 w1) (by decide) d hc hs w3
  · exact hw.elim
theorem x_rt3 {t : Option FieldType} (h : x_rtc t = 3) : t = some .long := by
  rcases t with _ | t
  · simp [x_rtc] at h
  · cases t <;> simp [x_rtc] at h <;> rfl
theorem ss_ineg (hx : x_Cx X z p l R s m args meth c) (hk : x_ok1 z pc len .ineg k zs = true) (d : decode (zB z) pc = .ok (.ineg, len)) (hc : cells ≤ zC z) (hs : slots ≤ zS z) (hw : wpL x_Cal (zC z, zS z, x_rtc (zR z), sc) J Φ ((.ineg, k, zs) :: is) ls st M h cells slots)
    (hN : ∀ ls st M h c' n', c' ≤ zC z → n' ≤ zS z → wpL x_Cal (zC z, zS z, x_rtc (zR z), sc) J Φ is ls st M h c' n' → x_Wt X ρ0 n0 (zL z) p l e R s m args below meth c (x_Q X ρ0 n0 Φ below args s z) (pc + len) ls st M h c' n')
    (hJ : ∀ t ls st M h c' n', c' ≤ zC z → n' ≤ zS z → J t ls st M h c' n' → x_Wt X ρ0 n0 (zL z) p l e R s m args below meth c (x_Q X ρ0 n0 Φ below args s z) (t) ls st M h c' n') : x_Wt X ρ0 n0 (zL z) p l e R s m args below meth c (x_Q X ρ0 n0 Φ below args s z) (pc) ls st M h cells slots := by
  simp only [x_ok1, beq_iff_eq] at hk
  subst hk
  simp only [wpL] at hw
  split at hw
  · exact sn_ineg hx d (hN _ _ _ _ _ _ hc hs hw)
  · exact hw.elim
theorem ss_i2c (hx : x_Cx X z p l R s m args meth c) (hk : x_ok1 z pc len .i2c k zs = true) (d : decode (zB z) pc = .ok (.i2c, len)) (hc : cells ≤ zC z) (hs : slots ≤ zS z) (hw : wpL x_Cal (zC z, zS z, x_rtc (zR z), sc) J Φ ((.i2c, k, zs) :: is) ls st M h cells slots)
    (hN : ∀ ls st M h c' n', c' ≤ zC z → n' ≤ zS z → wpL x_Cal (zC z, zS z, x_rtc (zR z), sc) J Φ is ls st M h c' n' → x_Wt X ρ0 n0 (zL z) p l e R s m args below meth c (x_Q X ρ0 n0 Φ below args s z) (pc + len) ls st M h c' n')
    (hJ : ∀ t ls st M h c' n', c' ≤ zC z → n' ≤ zS z → J t ls st M h c' n' → x_Wt X ρ0 n0 (zL z) p l e R s m args below meth c (x_Q X ρ0 n0 Φ below args s z) (t) ls st M h c' n') : x_Wt X ρ0 n0 (zL z) p l e R s m args below meth c (x_Q X ρ0 n0 Φ below args s z) (pc) ls st M h cells slots := by
  simp only [x_ok1, beq_iff_eq] at hk
  subst hk
  simp only [wpL] at hw
  split at hw
  · exact sn_i2c hx d (hN _ _ _ _ _ _ hc hs hw)
  · exact hw.elim
theorem ss_iushr (hx : x_Cx X z p l R s m args meth c) (hk : x_ok1 z pc len .iushr k zs = true) (d : decode (zB z) pc = .ok (.iushr, len)) (hc : cells ≤ zC z) (hs : slots ≤ zS z) (hw : wpL x_Cal (zC z, zS z, x_rtc (zR z), sc) J Φ ((.iushr, k, zs) :: is) ls st M h cells slots)
    (hN : ∀ ls st M h c' n', c' ≤ zC z → n' ≤ zS z → wpL x_Cal (zC z, zS z, x_rtc (zR z), sc) J Φ is ls st M h c' n' → x_Wt X ρ0 n0 (zL z) p l e R s m args below meth c (x_Q X ρ0 n0 Φ below args s z) (pc + len) ls st M h c' n')
    (hJ : ∀ t ls st M h c' n', c' ≤ zC z → n' ≤ zS z → J t ls st M h c' n' → x_Wt X ρ0 n0 (zL z) p l e R s m args below meth c (x_Q X ρ0 n0 Φ below args s z) (t) ls st M h c' n') : x_Wt X ρ0 n0 (zL z) p l e R s m args below meth c (x_Q X ρ0 n0 Φ below args s z) (pc) ls st M h cells slots := by
  simp only [x_ok1, beq_iff_eq] at hk
  subst hk
  simp only [wpL] at hw
  split at hw
  · exact sn_iushr hx d (hN _ _ _ _ _ _ hc hs hw)
  · exact hw.elim
theorem ss_lor (hx : x_Cx X z p l R s m args meth c) (hk : x_ok1 z pc len .lor k zs = true) (d : decode (zB z) pc = .ok (.lor, len)) (hc : cells ≤ zC z) (hs : slots ≤ zS z) (hw : wpL x_Cal (zC z, zS z, x_rtc (zR z), sc) J Φ ((.lor, k, zs) :: is) ls st M h cells slots)
    (hN : ∀ ls st M h c' n', c' ≤ zC z → n' ≤ zS z → wpL x_Cal (zC z, zS z, x_rtc (zR z), sc) J Φ is ls st M h c' n' → x_Wt X ρ0 n0 (zL z) p l e R s m args below meth c (x_Q X ρ0 n0 Φ below args s z) (pc + len) ls st M h c' n')
    (hJ : ∀ t ls st M h c' n', c' ≤ zC z → n' ≤ zS z → J t ls st M h c' n' → x_Wt X ρ0 n0 (zL z) p l e R s m args below meth c (x_Q X ρ0 n0 Φ below args s z) (t) ls st M h c' n') : x_Wt X ρ0 n0 (zL z) p l e R s m args below meth c (x_Q X ρ0 n0 Φ below args s z) (pc) ls st M h cells slots := by
  simp only [x_ok1, beq_iff_eq] at hk
  subst hk
  simp only [wpL] at hw
  split at hw
  · exact sn_lor hx d (hN _ _ _ _ _ _ hc hs hw)
  · exact hw.elim
theorem ss_lshl (hx : x_Cx X z p l R s m args meth c) (hk : x_ok1 z pc len .lshl k zs = true) (d : decode (zB z) pc = .ok (.lshl, len)) (hc : cells ≤ zC z) (hs : slots ≤ zS z) (hw : wpL x_Cal (zC z, zS z, x_rtc (zR z), sc) J Φ ((.lshl, k, zs) :: is) ls st M h cells slots)
    (hN : ∀ ls st M h c' n', c' ≤ zC z → n' ≤ zS z → wpL x_Cal (zC z, zS z, x_rtc (zR z), sc) J Φ is ls st M h c' n' → x_Wt X ρ0 n0 (zL z) p l e R s m args below meth c (x_Q X ρ0 n0 Φ below args s z) (pc + len) ls st M h c' n')
    (hJ : ∀ t ls st M h c' n', c' ≤ zC z → n' ≤ zS z → J t ls st M h c' n' → x_Wt X ρ0 n0 (zL z) p l e R s m args below meth c (x_Q X ρ0 n0 Φ below args s z) (t) ls st M h c' n') : x_Wt X ρ0 n0 (zL z) p l e R s m args below meth c (x_Q X ρ0 n0 Φ below args s z) (pc) ls st M h cells slots := by
  simp only [x_ok1, beq_iff_eq] at hk
  subst hk
  simp only [wpL] at hw
  split at hw
  · exact sn_lshl hx d (hN _ _ _ _ _ _ hc hs hw)
  · exact hw.elim
theorem ss_dup_x1 (hx : x_Cx X z p l R s m args meth c) (hk : x_ok1 z pc len .dup_x1 k zs = true) (d : decode (zB z) pc = .ok (.dup_x1, len)) (hc : cells ≤ zC z) (hs : slots ≤ zS z) (hw : wpL x_Cal (zC z, zS z, x_rtc (zR z), sc) J Φ ((.dup_x1, k, zs) :: is) ls st M h cells slots)
    (hN : ∀ ls st M h c' n', c' ≤ zC z → n' ≤ zS z → wpL x_Cal (zC z, zS z, x_rtc (zR z), sc) J Φ is ls st M h c' n' → x_Wt X ρ0 n0 (zL z) p l e R s m args below meth c (x_Q X ρ0 n0 Φ below args s z) (pc + len) ls st M h c' n')
    (hJ : ∀ t ls st M h c' n', c' ≤ zC z → n' ≤ zS z → J t ls st M h c' n' → x_Wt X ρ0 n0 (zL z) p l e R s m args below meth c (x_Q X ρ0 n0 Φ below args s z) (t) ls st M h c' n') : x_Wt X ρ0 n0 (zL z) p l e R s m args below meth c (x_Q X ρ0 n0 Φ below args s z) (pc) ls st M h cells slots := by
  simp only [x_ok1, beq_iff_eq] at hk
  subst hk
  simp only [wpL] at hw
  split at hw
  · exact sn_dup_x1 hx hw.1 hw.2.1 d (hN _ _ _ _ _ _ hc hs hw.2.2)
  · exact hw.elim
theorem ss_getstatic (hx : x_Cx X z p l R s m args meth c) {idx : Nat} (hk : x_ok1 z pc len (.getstatic idx) k zs = true) (d : decode (zB z) pc = .ok ((.getstatic idx), len)) (hc : cells ≤ zC z) (hs : slots ≤ zS z) (hw : wpL x_Cal (zC z, zS z, x_rtc (zR z), sc) J Φ (((.getstatic idx), k, zs) :: is) ls st M h cells slots)
    (hN : ∀ ls st M h c' n', c' ≤ zC z → n' ≤ zS z → wpL x_Cal (zC z, zS z, x_rtc (zR z), sc) J Φ is ls st M h c' n' → x_Wt X ρ0 n0 (zL z) p l e R s m args below meth c (x_Q X ρ0 n0 Φ below args s z) (pc + len) ls st M h c' n')
    (hJ : ∀ t ls st M h c' n', c' ≤ zC z → n' ≤ zS z → J t ls st M h c' n' → x_Wt X ρ0 n0 (zL z) p l e R s m args below meth c (x_Q X ρ0 n0 Φ below args s z) (t) ls st M h c' n') : x_Wt X ρ0 n0 (zL z) p l e R s m args below meth c (x_Q X ρ0 n0 Φ below args s z) (pc) ls st M h cells slots := by
  simp only [wpL] at hw
  split at hw
  · rename_i k
    cases k with
    | nil => exact absurd hk (by simp [x_ok1])
    | cons pp k =>
      simp only [x_ok1, Bool.and_eq_true, beq_iff_eq] at hk
      obtain ⟨h1, rfl⟩ := hk
      intro ρ lsC H locs S
      exact va_gets hx.1 hx.2.1 hx.O.2.2.2.2.2.1 S.2.2.2.1 hx.own (hx.hts _ (x_has_in h1)) (fun _ h => h) d (hN _ _ _ _ _ _ hc hs hw ρ lsC H locs (S.push (v := xI 1) (by show x_i32 1; unfold x_i32; omega)))
  · exact hw.elim
theorem ss_lreturn (hx : x_Cx X z p l R s m args meth c) (hk : x_ok1 z pc len .lreturn k zs = true) (d : decode (zB z) pc = .ok (.lreturn, len)) (hc : cells ≤ zC z) (hs : slots ≤ zS z) (hw : wpL x_Cal (zC z, zS z, x_rtc (zR z), sc) J Φ ((.lreturn, k, zs) :: is) ls st M h cells slots)
    (hN : ∀ ls st M h c' n', c' ≤ zC z → n' ≤ zS z → wpL x_Cal (zC z, zS z, x_rtc (zR z), sc) J Φ is ls st M h c' n' → x_Wt X ρ0 n0 (zL z) p l e R s m args below meth c (x_Q X ρ0 n0 Φ below args s z) (pc + len) ls st M h c' n')
    (hJ : ∀ t ls st M h c' n', c' ≤ zC z → n' ≤ zS z → J t ls st M h c' n' → x_Wt X ρ0 n0 (zL z) p l e R s m args below meth c (x_Q X ρ0 n0 Φ below args s z) (t) ls st M h c' n') : x_Wt X ρ0 n0 (zL z) p l e R s m args below meth c (x_Q X ρ0 n0 Φ below args s z) (pc) ls st M h cells slots := by
  simp only [x_ok1, beq_iff_eq] at hk
  subst hk
  simp only [wpL] at hw
  split at hw
  · exact sn_lret hx (x_rt3 hw.1) d hc hs hw.2
  · exact hw.elim
theorem ss_areturn (hx : x_Cx X z p l R s m args meth c) (hk : x_ok1 z pc len .areturn k zs = true) (d : decode (zB z) pc = .ok (.areturn, len)) (hc : cells ≤ zC z) (hs : slots ≤ zS z) (hw : wpL x_Cal (zC z, zS z, x_rtc (zR z), sc) J Φ ((.areturn, k, zs) :: is) ls st M h cells slots)
    (hN : ∀ ls st M h c' n', c' ≤ zC z → n' ≤ zS z → wpL x_Cal (zC z, zS z, x_rtc (zR z), sc) J Φ is ls st M h c' n' → x_Wt X ρ0 n0 (zL z) p l e R s m args below meth c (x_Q X ρ0 n0 Φ below args s z) (pc + len) ls st M h c' n')
    (hJ : ∀ t ls st M h c' n', c' ≤ zC z → n' ≤ zS z → J t ls st M h c' n' → x_Wt X ρ0 n0 (zL z) p l e R s m args below meth c (x_Q X ρ0 n0 Φ below args s z) (t) ls st M h c' n') : x_Wt X ρ0 n0 (zL z) p l e R s m args below meth c (x_Q X ρ0 n0 Φ below args s z) (pc) ls st M h cells slots := by
  simp only [x_ok1, beq_iff_eq] at hk
  subst hk
  simp only [wpL] at hw
  split at hw
  · obtain ⟨w1, w3⟩ := hw
    obtain ⟨ty, h1, h2⟩ := x_rt4 w1
    exact sn_aret hx h1 h2 d hc hs w3
  · exact hw.elim
end SS
end
section
/-! from a method's table to its contract -/
theorem x_lk_mem {B : xB} {t : Nat} {v : Bool × List xPI} (h : x_blk B t = some v) : (t, v) ∈ B := by
  unfold x_blk at h
  induction B with
  | nil => cases h
  | cons b B ih =>
    obtain ⟨t', v'⟩ := b
    rw [List.lookup_cons] at h
    by_cases e : t = t'
    · subst e
      simp at h
      subst h
      exact List.mem_cons_self
    · rw [beq_eq_false_iff_ne.mpr e] at h
      exact List.mem_cons_of_mem _ (ih h)
set_option maxRecDepth 20000 in
theorem x_thl_ok : ∀ q ∈ x_thl, x_thr RX7 q.1 q.2.1 (x_en q.2.2) := by
  have h : x_thl.all (fun q => Bundle.fit (x_en q.2.2) && (Cond.classLink RX7 q.1 (x_en q.2.2) :: Cond.initialized (x_en q.2.2) :: vx_at0 RX7 q.2.1 (x_en q.2.2) x_ex).all (fun w => decide (w ∈ x_tbl) && ((goodWord w || x_odd w) && vx_ot w))) = true := by decide +kernel
  intro q hq
  have h1 := List.all_eq_true.mp h q hq
  simp only [Bool.and_eq_true] at h1
  refine ⟨h1.1, fun w hw => ?_⟩
  have h2 := List.all_eq_true.mp h1.2 w hw
  simp only [Bool.and_eq_true, Bool.or_eq_true, decide_eq_true_eq] at h2
  exact h2
theorem x_sw_at {J : xJT} {ls : xL} {st : List xV} {M : xM} {h : xH} {c n : Nat} {x : Int} {d : Prop} : ∀ (ts : List Nat) (lo : Int), x_sw J ls st M h c n x d lo ts → d ∧ ∀ (j t : Nat), ts[j]? = some t → x = lo + j → J t ls st M h c n
  | [], lo, hw => ⟨hw, fun j t h => by simp at h⟩
  | t0 :: ts, lo, hw => by
    obtain ⟨h1, h2⟩ := hw
    obtain ⟨i1, i2⟩ := x_sw_at ts (lo + 1) h2
    refine ⟨i1, fun j t h e => ?_⟩
    cases j with
    | zero =>
      simp at h
      subst h
      exact h1 (by simpa using e)
    | succ j => exact i2 j t (by simpa using h) (by rw [e]; push_cast; omega)
theorem x_lk_at {J : xJT} {ls : xL} {st : List xV} {M : xM} {h : xH} {c n pc : Nat} {x dflt : Int} {d : Prop} : ∀ (ps : List (Int × Int)) (ts : List Nat), ps.map (fun o => (pc : Int) + o.2) = ts.map (fun (x : Nat) => (x : Int)) → x_lk J ls st M h c n x d (ps.map (fun p => p.1)) ts → (d ∧ Op.lookupswitch.offset ps dflt x = dflt) ∨ ∃ t : Nat, J t ls st M h c n ∧ (pc : Int) + Op.lookupswitch.offset ps dflt x = (t : Int)
  | [], ts, he, hw => by
    cases ts with
    | nil => exact Or.inl ⟨hw, rfl⟩
    | cons t ts => cases he
  | (a, o) :: ps, ts, he, hw => by
    cases ts with
    | nil => cases he
    | cons t ts =>
      simp only [List.map_cons, List.cons.injEq] at he
      obtain ⟨w1, w2⟩ := hw
      rw [Op.lookupswitch.offset_cons]
      by_cases hx : x = a
      · exact Or.inr ⟨t, w1 hx, by rw [if_pos hx.symm]; exact he.1⟩
      · rw [if_neg (fun z => hx z.symm)]
        exact x_lk_at ps ts he.2 (w2 hx)
section SA
variable {X : xX} {ρ0 : Nat → Nat} {n0 : Nat} {z : xMD} {p : Program} {l : Launch} {e : Env} {R : Room} {s : State} {m : MethodId} {args : Array Value} {below : List Frame} {meth : Method} {c : Code} {Φ : xO → xM → xH → Prop}
theorem ss_ts {pc cells slots len : Nat} {ls : xL} {st : List xV} {M : xM} {h : xH} {J : xJT} {is : List xPI} {k : List Nat} {zs : List xMD} {sc : xSc} {dd lo hi : Int} {os : Array Int} (hx : x_Cx X z p l R s m args meth c) (hk : x_ok1 z pc len (.tableswitch dd lo hi os) k zs = true) (d : decode (zB z) pc = .ok (.tableswitch dd lo hi os, len)) (hc : cells ≤ zC z) (hs : slots ≤ zS z) (hw : wpL x_Cal (zC z, zS z, x_rtc (zR z), sc) J Φ ((.tableswitch dd lo hi os, k, zs) :: is) ls st M h cells slots)
    (hJ : ∀ t ls st M h c' n', c' ≤ zC z → n' ≤ zS z → J t ls st M h c' n' → x_Wt X ρ0 n0 (zL z) p l e R s m args below meth c (x_Q X ρ0 n0 Φ below args s z) t ls st M h c' n') : x_Wt X ρ0 n0 (zL z) p l e R s m args below meth c (x_Q X ρ0 n0 Φ below args s z) pc ls st M h cells slots := by
  simp only [wpL] at hw
  split at hw
  · rename_i t ts x st
    simp only [x_ok1, Bool.and_eq_true, decide_eq_true_eq] at hk
    obtain ⟨h1, h2, h3, h4, h5⟩ := hk
    obtain ⟨w1, w2⟩ := x_sw_at ts lo hw
    intro ρ lsC H locs S
    have hx32 : x_i32 x := S.top
    by_cases hr : x < lo ∨ hi < x
    · exact lv_tableOut hx.1 hx.2.1 d (by rw [i32_to hx32]; exact hr) h1 (hJ _ _ _ _ _ _ _ hc hs (w1 hr) ρ lsC H locs S.pop)
    · have hlen : ts.length = os.size := by
        have := congrArg List.length h2
        simpa using this.symm
      obtain ⟨j, hj⟩ : ∃ j : Nat, (x - lo).toNat = j := ⟨_, rfl⟩
      have hj2 : j < os.size := by omega
      have ho : os[j]? = some os[j] := Array.getElem?_eq_getElem hj2
      have ht : ts[j]? = some (ts[j]'(by omega)) := List.getElem?_eq_getElem (by omega)
      have e2 := congrArg (fun z => z[j]?) h2
      simp only [List.getElem?_map, Array.getElem?_toList, ho, ht, Option.map_some, Option.some.injEq] at e2
      exact lv_tableIn hx.1 hx.2.1 d (by rw [i32_to hx32]; omega) (by rw [i32_to hx32]; omega) (off := os[j]) (by rw [i32_to hx32, hj]; exact ho) e2 (hJ _ _ _ _ _ _ _ hc hs (w2 j _ ht (by omega)) ρ lsC H locs S.pop)
  · exact hw.elim
theorem ss_lk {pc cells slots len : Nat} {ls : xL} {st : List xV} {M : xM} {h : xH} {J : xJT} {is : List xPI} {k : List Nat} {zs : List xMD} {sc : xSc} {dd : Int} {os : Array (Int × Int)} (hx : x_Cx X z p l R s m args meth c) (hk : x_ok1 z pc len (.lookupswitch dd os) k zs = true) (d : decode (zB z) pc = .ok (.lookupswitch dd os, len)) (hc : cells ≤ zC z) (hs : slots ≤ zS z) (hw : wpL x_Cal (zC z, zS z, x_rtc (zR z), sc) J Φ ((.lookupswitch dd os, k, zs) :: is) ls st M h cells slots)
    (hJ : ∀ t ls st M h c' n', c' ≤ zC z → n' ≤ zS z → J t ls st M h c' n' → x_Wt X ρ0 n0 (zL z) p l e R s m args below meth c (x_Q X ρ0 n0 Φ below args s z) t ls st M h c' n') : x_Wt X ρ0 n0 (zL z) p l e R s m args below meth c (x_Q X ρ0 n0 Φ below args s z) pc ls st M h cells slots := by
  simp only [wpL] at hw
  split at hw
  · rename_i t ts x st
    simp only [x_ok1, Bool.and_eq_true, decide_eq_true_eq] at hk
    obtain ⟨h1, h2, h3⟩ := hk
    intro ρ lsC H locs S
    have hx32 : x_i32 x := S.top
    rcases x_lk_at (pc := pc) (dflt := dd) os.toList ts h2 hw with ⟨w1, w2⟩ | ⟨t, w1, w2⟩
    · exact lv_lookup hx.1 hx.2.1 d h3 (by rw [i32_to hx32]; exact w2) h1 (hJ _ _ _ _ _ _ _ hc hs w1 ρ lsC H locs S.pop)
    · exact lv_lookup hx.1 hx.2.1 d h3 (by rw [i32_to hx32]) w2 (hJ _ _ _ _ _ _ _ hc hs w1 ρ lsC H locs S.pop)
  · exact hw.elim
theorem x_s1 {pc cells slots len : Nat} {ls : xL} {st : List xV} {M : xM} {h : xH} {J : xJT} {is : List xPI} {i : Instr} {k : List Nat} {zs : List xMD} {sc : xSc} (hsc : x_scok sc X) (hx : x_Cx X z p l R s m args meth c) (hk : x_ok1 z pc len i k zs = true) (d : decode (zB z) pc = .ok (i, len)) (hc : cells ≤ zC z) (hs : slots ≤ zS z) (hw : wpL x_Cal (zC z, zS z, x_rtc (zR z), sc) J Φ ((i, k, zs) :: is) ls st M h cells slots)
    (hN : ∀ ls st M h c' n', c' ≤ zC z → n' ≤ zS z → wpL x_Cal (zC z, zS z, x_rtc (zR z), sc) J Φ is ls st M h c' n' → x_Wt X ρ0 n0 (zL z) p l e R s m args below meth c (x_Q X ρ0 n0 Φ below args s z) (pc + len) ls st M h c' n')
    (hJ : ∀ t ls st M h c' n', c' ≤ zC z → n' ≤ zS z → J t ls st M h c' n' → x_Wt X ρ0 n0 (zL z) p l e R s m args below meth c (x_Q X ρ0 n0 Φ below args s z) t ls st M h c' n') : x_Wt X ρ0 n0 (zL z) p l e R s m args below meth c (x_Q X ρ0 n0 Φ below args s z) pc ls st M h cells slots := by
  cases i with
  | iconst x => exact ss_iconst hx hk d hc hs hw hN hJ
  | bipush x => exact ss_bipush hx hk d hc hs hw hN hJ
  | sipush x => exact ss_sipush hx hk d hc hs hw hN hJ
  | lconst x => exact ss_lconst hx hk d hc hs hw hN hJ
  | aconst_null => exact ss_null hx hk d hc hs hw hN hJ
  | ldc i => exact ss_ldc hx hk d hc hs hw hN hJ
  | ldc2_w i => exact ss_ldcl hx hk d hc hs hw hN hJ
  | iload i => exact ss_iload hx hk d hc hs hw hN hJ
  | iload_n i => exact ss_iload_n hx hk d hc hs hw hN hJ
  | lload i => exact ss_lload hx hk d hc hs hw hN hJ
  | lload_n i => exact ss_lload_n hx hk d hc hs hw hN hJ
  | aload i => exact ss_aload hx hk d hc hs hw hN hJ
  | aload_n i => exact ss_aload_n hx hk d hc hs hw hN hJ
  | istore i => exact ss_istore hx hk d hc hs hw hN hJ
  | istore_n i => exact ss_istore_n hx hk d hc hs hw hN hJ
  | lstore i => exact ss_lstore hx hk d hc hs hw hN hJ
  | lstore_n i => exact ss_lstore_n hx hk d hc hs hw hN hJ
  | astore i => exact ss_astore hx hk d hc hs hw hN hJ
  | astore_n i => exact ss_astore_n hx hk d hc hs hw hN hJ
  | iinc i d => exact ss_iinc hx hk d hc hs hw hN hJ
  | iadd => exact ss_iadd hx hk d hc hs hw hN hJ
  | isub => exact ss_isub hx hk d hc hs hw hN hJ
  | imul => exact ss_imul hx hk d hc hs hw hN hJ
  | idiv => exact ss_idiv hx hk d hc hs hw hN hJ
  | irem => exact ss_irem hx hk d hc hs hw hN hJ
  | iand => exact ss_iand hx hk d hc hs hw hN hJ
  | ior => exact ss_ior hx hk d hc hs hw hN hJ
  | ixor => exact ss_ixor hx hk d hc hs hw hN hJ
  | ishl => exact ss_ishl hx hk d hc hs hw hN hJ
  | ishr => exact ss_ishr hx hk d hc hs hw hN hJ
  | i2l => exact ss_i2l hx hk d hc hs hw hN hJ
  | l2i => exact ss_l2i hx hk d hc hs hw hN hJ
  | i2b => exact ss_i2b hx hk d hc hs hw hN hJ
  | ladd => exact ss_ladd hx hk d hc hs hw hN hJ
  | lsub => exact ss_lsub hx hk d hc hs hw hN hJ
  | lmul => exact ss_lmul hx hk d hc hs hw hN hJ
  | land => exact ss_land hx hk d hc hs hw hN hJ
  | lshr => exact ss_lshr hx hk d hc hs hw hN hJ
  | lcmp => exact ss_lcmp hx hk d hc hs hw hN hJ
  | dup => exact ss_dup hx hk d hc hs hw hN hJ
  | dup2 => exact ss_dup2 hx hk d hc hs hw hN hJ
  | pop => exact ss_pop hx hk d hc hs hw hN hJ
  | ifCond q o => exact ss_ifCond hx hk d hc hs hw hN hJ
  | if_icmp q o => exact ss_if_icmp hx hk d hc hs hw hN hJ
  | ifnull o => exact ss_ifnull hx hk d hc hs hw hN hJ
  | ifnonnull o => exact ss_ifnonnull hx hk d hc hs hw hN hJ
  | goto o => exact ss_goto hx hk d hc hs hw hN hJ
  | getfield i => exact ss_getfield hx hk d hc hs hw hN hJ
  | putfield i => exact ss_putfield hx hk d hc hs hw hN hJ
  | iaload => exact ss_iaload hx hsc hk d hc hs hw hN hJ
  | baload => exact ss_baload hx hk d hc hs hw hN hJ
  | aaload => exact ss_aaload hx hk d hc hs hw hN hJ
  | iastore => exact ss_iastore hx hk d hc hs hw hN hJ
  | bastore => exact ss_bastore hx hk d hc hs hw hN hJ
  | aastore => exact ss_aastore hx hk d hc hs hw hN hJ
  | arraylength => exact ss_alen hx hsc hk d hc hs hw hN hJ
  | new i => exact ss_new hx hk d hc hs hw hN hJ
  | newarray t => exact ss_newarray hx hk d hc hs hw hN hJ
  | anewarray i => exact ss_anewarray hx hk d hc hs hw hN hJ
  | invokevirtual i => exact ss_invokevirtual hx hk d hc hs hw hN hJ
  | invokespecial i => exact ss_invokespecial hx hk d hc hs hw hN hJ
  | invokestatic i => exact ss_invokestatic hx hk d hc hs hw hN hJ
  | return_ => exact ss_return hx hk d hc hs hw hN hJ
  | ireturn => exact ss_ireturn hx hk d hc hs hw hN hJ
  | areturn => exact ss_areturn hx hk d hc hs hw hN hJ
  | ineg => exact ss_ineg hx hk d hc hs hw hN hJ
  | i2c => exact ss_i2c hx hk d hc hs hw hN hJ
  | iushr => exact ss_iushr hx hk d hc hs hw hN hJ
  | lor => exact ss_lor hx hk d hc hs hw hN hJ
  | lshl => exact ss_lshl hx hk d hc hs hw hN hJ
  | dup_x1 => exact ss_dup_x1 hx hk d hc hs hw hN hJ
  | lreturn => exact ss_lreturn hx hk d hc hs hw hN hJ
  | getstatic q => exact ss_getstatic hx hk d hc hs hw hN hJ
  | tableswitch q1 q2 q3 q4 => exact ss_ts hx hk d hc hs hw hJ
  | lookupswitch q1 q2 => exact ss_lk hx hk d hc hs hw hJ
  | _ => exact absurd hk (by simp [x_ok1])
theorem x_snd {sc : xSc} (hsc : x_scok sc X) (hx : x_Cx X z p l R s m args meth c) {J : xJT}
    (hJ : ∀ t ls st M h c' n', c' ≤ zC z → n' ≤ zS z → J t ls st M h c' n' → x_Wt X ρ0 n0 (zL z) p l e R s m args below meth c (x_Q X ρ0 n0 Φ below args s z) t ls st M h c' n') : ∀ (is : List xPI) (pc : Nat) (ls : xL) (st : List xV) (M : xM) (h : xH) (cells slots : Nat), x_chk z pc is = true → cells ≤ zC z → slots ≤ zS z → wpL x_Cal (zC z, zS z, x_rtc (zR z), sc) J Φ is ls st M h cells slots → x_Wt X ρ0 n0 (zL z) p l e R s m args below meth c (x_Q X ρ0 n0 Φ below args s z) pc ls st M h cells slots := by
  intro is
  induction is with
  | nil => intro pc ls st M h cells slots _ _ _ hw; exact hw.elim
  | cons pi is ih =>
    intro pc ls st M h cells slots hch hc hs hw
    obtain ⟨i, k, zs⟩ := pi
    by_cases hn : i = .nop
    · subst hn
      simp only [wpL] at hw
      split at hw
      · simp only [x_chk] at hch
        cases zs with
        | nil =>
          have := beq_iff_eq.mp hch
          subst this
          exact hJ _ _ _ _ _ _ _ hc hs hw
        | cons a b => exact absurd hch (by simp)
      · exact hw.elim
    · by_cases ht : i = .athrow
      · subst ht
        simp only [wpL] at hw
        split at hw
        · rename_i ee k
          simp only [x_chk] at hch
          split at hch
          · rename_i e9 ik ic heq
            cases heq
            simp only [Bool.and_eq_true, decide_eq_true_eq] at hch
            obtain ⟨h1, h2, h3, h4, h5, h6, h7, h8⟩ := hch
            exact sn_throw hx (by rw [h5]; exact x_thl_ok _ h6) h1 h2 h3 h4 h7 h8 hw.2.1 hw.1.1 hw.1.2 hw.2.2
          · exact absurd hch (by simp)
        · exact hw.elim
      · rw [x_chk] at hch
        · cases hd : decode (zB z) pc with
          | error er => rw [hd] at hch; exact absurd hch (by simp)
          | ok jl =>
            obtain ⟨j, len⟩ := jl
            rw [hd] at hch
            simp only [Bool.and_eq_true, decide_eq_true_eq] at hch
            obtain ⟨rfl, h2, h3⟩ := hch
            exact x_s1 hsc hx h2 hd hc hs hw (fun ls st M h c' n' hc' hs' hw' => ih _ _ _ _ _ _ _ h3 hc' hs' hw') hJ
        · exact hn
        · exact ht
theorem x_chkB_at {B : xB} (hB : x_chkB z B = true) {t : Nat} {fl : Bool} {is : List xPI} (ht : x_blk B t = some (fl, is)) : x_chk z t is = true := by
  unfold x_chkB at hB
  rw [Bool.and_eq_true] at hB
  exact List.all_eq_true.mp hB.1 _ (x_lk_mem ht)
theorem x_wpG {sc : xSc} (hsc : x_scok sc X) (hx : x_Cx X z p l R s m args meth c) {B : xB} (hB : x_chkB z B = true) {K : xJT}
    (hK : ∀ t ls st M h c' n', c' ≤ zC z → n' ≤ zS z → K t ls st M h c' n' → x_Wt X ρ0 n0 (zL z) p l e R s m args below meth c (x_Q X ρ0 n0 Φ below args s z) t ls st M h c' n') : ∀ (f t : Nat) (ls : xL) (st : List xV) (M : xM) (h : xH) (cells slots : Nat), cells ≤ zC z → slots ≤ zS z → wpG x_Cal (zC z, zS z, x_rtc (zR z), sc) B K Φ f t ls st M h cells slots → x_Wt X ρ0 n0 (zL z) p l e R s m args below meth c (x_Q X ρ0 n0 Φ below args s z) t ls st M h cells slots := by
  intro f
  induction f with
  | zero => intro t ls st M h cells slots _ _ hw; exact hw.elim
  | succ f ih =>
    intro t ls st M h cells slots hc hs hw
    simp only [wpG] at hw
    split at hw
    · exact hK _ _ _ _ _ _ _ hc hs hw
    · rename_i is hb
      exact x_snd hsc hx (fun t ls st M h c' n' hc' hs' hj => ih t ls st M h c' n' hc' hs' hj) is t ls st M h cells slots (x_chkB_at hB hb) hc hs hw
    · exact hw.elim
/-- loops: from every cut point, with what stands there, one goes on to another with a smaller measure, or to the end -/
theorem x_loops {sc : xSc} (hsc : x_scok sc X) (hx : x_Cx X z p l R s m args meth c) {B : xB} (hB : x_chkB z B = true) {K : xJT} (μ : Nat → xL → List xV → xM → xH → Nat) (f : Nat)
    (hK : ∀ t ls st M h c' n', K t ls st M h c' n' → ∃ is, x_blk B t = some (true, is) ∧ wpL x_Cal (zC z, zS z, x_rtc (zR z), sc) (wpG x_Cal (zC z, zS z, x_rtc (zR z), sc) B (fun t2 ls2 st2 M2 h2 c2 n2 => K t2 ls2 st2 M2 h2 c2 n2 ∧ μ t2 ls2 st2 M2 h2 < μ t ls st M h) Φ f) Φ is ls st M h c' n') :
    ∀ (N t : Nat) (ls : xL) (st : List xV) (M : xM) (h : xH) (cells slots : Nat), μ t ls st M h < N → cells ≤ zC z → slots ≤ zS z → K t ls st M h cells slots → x_Wt X ρ0 n0 (zL z) p l e R s m args below meth c (x_Q X ρ0 n0 Φ below args s z) t ls st M h cells slots := by
  intro N
  induction N with
  | zero => intro t ls st M h cells slots hN; omega
  | succ N ih =>
    intro t ls st M h cells slots hN hc hs hk
    obtain ⟨is, hb, hw⟩ := hK t ls st M h cells slots hk
    exact x_snd hsc hx (fun t1 ls1 st1 M1 h1 c1 n1 hc1 hs1 hj => x_wpG hsc hx hB (fun t2 ls2 st2 M2 h2 c2 n2 hc2 hs2 hk2 => ih t2 ls2 st2 M2 h2 c2 n2 (by omega) hc2 hs2 hk2.1) f t1 ls1 st1 M1 h1 c1 n1 hc1 hs1 hj) is t ls st M h cells slots (x_chkB_at hB hb) hc hs hw
end SA
theorem x_entl {X : xX} {ρ : Nat → Nat} : ∀ (as : List xV) (i j : Nat) (v : xV), x_ent as i j = some v → (j, x_c X ρ v) ∈ lv_args i (as.map (x_c X ρ)) ∧ v ∈ as
  | [], i, j, v, h => by cases h
  | a :: as, i, j, v, h => by
    unfold x_ent at h
    rw [List.map_cons, lv_args]
    by_cases hj : j = i
    · rw [if_pos hj] at h
      cases h
      subst hj
      exact ⟨List.mem_cons_self, List.mem_cons_self⟩
    · rw [if_neg hj] at h
      obtain ⟨i1, i2⟩ := x_entl (X := X) (ρ := ρ) as _ _ _ h
      refine ⟨List.mem_cons_of_mem _ ?_, List.mem_cons_of_mem _ i2⟩
      have e : (if (x_c X ρ a).category = 2 then i + 2 else i + 1) = i + x_cat a := by
        rw [x_cat_c]
        rcases a with x | x | x <;> rfl
      rw [e]
      exact i1
theorem x_lgsl {X : xX} {ρ : Nat → Nat} (as : List xV) : (lg_sl (as.map (x_c X ρ))).length = (as.map x_cat).sum := by
  induction as with
  | nil => rfl
  | cons a as ih =>
    rw [List.map_cons, List.map_cons, List.sum_cons, ← ih]
    unfold lg_sl
    rw [List.flatMap_cons, List.length_append]
    congr 1
    rcases a with x | x | r | a | i
    · rfl
    · rfl
    · show List.length (if (va_rf (x_rf ρ r)).category = 2 then _ else _) = 1
      generalize x_rf ρ r = y
      cases y <;> rfl
    · rfl
    · rfl
def x_sc0 : xSc := (0, -1, fun _ => 0)
/-- A METHOD: its table, what it does from the entry up to its cut points, and from each of them on -/
theorem x_met {z : xMD} {B : xB} (hB : x_chkB z B = true) {as : List xV} {M : xM} {h : xH} {Φ : xO → xM → xH → Prop} (hl : (as.map x_cat).sum ≤ zL z) (K : xJT) (μ : Nat → xL → List xV → xM → xH → Nat) (f : Nat)
    (h0 : wpG x_Cal (zC z, zS z, x_rtc (zR z), x_sc0) B K Φ f 0 (x_ent as 0) [] M h 0 0)
    (hK : ∀ t ls st M h c' n', K t ls st M h c' n' → ∃ is, x_blk B t = some (true, is) ∧ wpL x_Cal (zC z, zS z, x_rtc (zR z), x_sc0) (wpG x_Cal (zC z, zS z, x_rtc (zR z), x_sc0) B (fun t2 ls2 st2 M2 h2 c2 n2 => K t2 ls2 st2 M2 h2 c2 n2 ∧ μ t2 ls2 st2 M2 h2 < μ t ls st M h) Φ f) Φ is ls st M h c' n') : x_Cal z as M h Φ := by
  intro l hl0 X ρ
  have hpn : plainName (zN z).cls = true := by
    unfold x_chkB at hB
    simp only [Bool.and_eq_true] at hB
    exact hB.2.1
  have hzf : zF z < 1000 := by
    unfold x_chkB at hB
    simp only [Bool.and_eq_true, decide_eq_true_eq] at hB
    exact hB.2.2.2
  refine vx_ofW (cc := zB z) (maxL := zL z) (ret := zR z) hpn (by unfold x_w1; rw [x_cw_n hzf]) ?_
  intro p e s m args below meth c s₁ B1 hml hex hv
  obtain ⟨rfl, has, hsz, hP, hK1, hO⟩ := hv
  have hts := atoms_spec (ws := x_w1 z) B1.pre
  have hx : x_Cx X z p l (x_rm z) s m (as.map (x_c X ρ)).toArray meth c :=
    ⟨B1.exec, B1.bytes, hml, findClass_of_methodNamed B1.named, fun w hw => hts w (List.mem_cons_of_mem _ hw), B1.returns, B1.notSynchronized, hl0, hex, rfl, (name_of_methodNamed B1.named B1.method).1, hK1, hO, hsz⟩
  have hen := lv_entry (as.map (x_c X ρ)) (n := zL z) (by rw [x_lgsl]; exact hl)
  rw [lg_entry_eq]
  generalize (lg_sl (as.map (x_c X ρ)) ++ List.replicate (zL z - (lg_sl (as.map (x_c X ρ))).length) Slot.unset).toArray = lsC at hen ⊢
  have hW := x_wpG (Or.inl (by decide)) (ρ0 := ρ) (n0 := hn h) (e := e) (below := below) hx hB (fun t ls st M h c' n' hc' hs' hk => x_loops (Or.inl (by decide)) hx hB μ f hK _ t ls st M h c' n' (Nat.lt_succ_self _) hc' hs' hk) f 0 (x_ent as 0) [] M h 0 0 (Nat.zero_le _) (Nat.zero_le _) h0
  exact hW ρ lsC s.heap [] ⟨⟨hen.1, hen.2.1, fun i v hi => ⟨hen.2.2 _ (x_entl as 0 i v hi).1, has v (x_entl (X := X) (ρ := ρ) as 0 i v hi).2⟩⟩, fun v hv => absurd hv List.not_mem_nil, hP, va_S.rf, fun id _ => rfl, Nat.le_refl _⟩
end
section
/-! loops with an index, methods without loops, and more rows for simp -/
def x_gc (o : Option (Bool × List xPI)) (Cl : xCal) (E : Nat × Nat × Nat × xSc) (J : xJT) (Φ : xO → xM → xH → Prop) (ls : xL) (st : List xV) (M : xM) (h : xH) (c n : Nat) : Prop := match o with
  | some (_, is) => wpL Cl E J Φ is ls st M h c n
  | none => False
theorem wq_gc (Cl : xCal) (E : Nat × Nat × Nat × xSc) (J : xJT) (Φ : xO → xM → xH → Prop) (ls : xL) (st : List xV) (M : xM) (h : xH) (c n : Nat) (b : Bool) (is : List xPI) : x_gc (some (b, is)) Cl E J Φ ls st M h c n = wpL Cl E J Φ is ls st M h c n := rfl
theorem wq_g3 (Cl : xCal) (E : Nat × Nat × Nat × xSc) (B : xB) (K : xJT) (Φ : xO → xM → xH → Prop) (t : Nat) (ls : xL) (st : List xV) (M : xM) (h : xH) (c n : Nat) : wpG Cl E B K Φ 20 t ls st M h c n = x_g (x_blk B t) Cl E B K Φ 19 t ls st M h c n := rfl
abbrev xIv : Type := Nat → Nat → xL → List xV → xM → xH → Nat → Nat → Prop
section SB
variable {X : xX} {ρ0 : Nat → Nat} {n0 : Nat} {z : xMD} {p : Program} {l : Launch} {e : Env} {R : Room} {s : State} {m : MethodId} {args : Array Value} {below : List Frame} {meth : Method} {c : Code} {Φ : xO → xM → xH → Prop}
theorem x_loopsI {sc : xSc} (hsc : x_scok sc X) (hx : x_Cx X z p l R s m args meth c) {B : xB} (hB : x_chkB z B = true) (I : xIv) (f : Nat)
    (hK : ∀ t m ls st M h c' n', I t m ls st M h c' n' → x_gc (x_blk B t) x_Cal (zC z, zS z, x_rtc (zR z), sc) (wpG x_Cal (zC z, zS z, x_rtc (zR z), sc) B (fun t2 ls2 st2 M2 h2 c2 n2 => ∃ m2, m2 < m ∧ I t2 m2 ls2 st2 M2 h2 c2 n2) Φ f) Φ ls st M h c' n') :
    ∀ (N mm t : Nat) (ls : xL) (st : List xV) (M : xM) (h : xH) (cells slots : Nat), mm < N → cells ≤ zC z → slots ≤ zS z → I t mm ls st M h cells slots → x_Wt X ρ0 n0 (zL z) p l e R s m args below meth c (x_Q X ρ0 n0 Φ below args s z) t ls st M h cells slots := by
  intro N
  induction N with
  | zero => intro mm t ls st M h cells slots hN; omega
  | succ N ih =>
    intro mm t ls st M h cells slots hN hc hs hk
    have hw := hK t mm ls st M h cells slots hk
    cases hb : x_blk B t with
    | none => rw [hb] at hw; exact hw.elim
    | some q =>
      obtain ⟨fl, is⟩ := q
      rw [hb, wq_gc] at hw
      exact x_snd hsc hx (fun t1 ls1 st1 M1 h1 c1 n1 hc1 hs1 hj => x_wpG hsc hx hB (fun t2 ls2 st2 M2 h2 c2 n2 hc2 hs2 hk2 => by
        obtain ⟨m2, q1, q2⟩ := hk2
        exact ih m2 t2 ls2 st2 M2 h2 c2 n2 (by omega) hc2 hs2 q2) f t1 ls1 st1 M1 h1 c1 n1 hc1 hs1 hj) is t ls st M h cells slots (x_chkB_at hB hb) hc hs hw
end SB
/-- A METHOD with loops: I t m is what holds at the cut point t with m rounds left at most -/
theorem x_metI {z : xMD} {B : xB} (hB : x_chkB z B = true) {as : List xV} {M : xM} {h : xH} {Φ : xO → xM → xH → Prop} (hl : (as.map x_cat).sum ≤ zL z) (I : xIv) (f : Nat)
    (h0 : wpG x_Cal (zC z, zS z, x_rtc (zR z), x_sc0) B (fun t ls st M h c n => ∃ m, I t m ls st M h c n) Φ f 0 (x_ent as 0) [] M h 0 0)
    (hK : ∀ t m ls st M h c' n', I t m ls st M h c' n' → x_gc (x_blk B t) x_Cal (zC z, zS z, x_rtc (zR z), x_sc0) (wpG x_Cal (zC z, zS z, x_rtc (zR z), x_sc0) B (fun t2 ls2 st2 M2 h2 c2 n2 => ∃ m2, m2 < m ∧ I t2 m2 ls2 st2 M2 h2 c2 n2) Φ f) Φ ls st M h c' n') : x_Cal z as M h Φ := by
  intro l hl0 X ρ
  have hpn : plainName (zN z).cls = true := by
    unfold x_chkB at hB
    simp only [Bool.and_eq_true] at hB
    exact hB.2.1
  have hzf : zF z < 1000 := by
    unfold x_chkB at hB
    simp only [Bool.and_eq_true, decide_eq_true_eq] at hB
    exact hB.2.2.2
  refine vx_ofW (cc := zB z) (maxL := zL z) (ret := zR z) hpn (by unfold x_w1; rw [x_cw_n hzf]) ?_
  intro p e s m args below meth c s₁ B1 hml hex hv
  obtain ⟨rfl, has, hsz, hP, hK1, hO⟩ := hv
  have hts := atoms_spec (ws := x_w1 z) B1.pre
  have hx : x_Cx X z p l (x_rm z) s m (as.map (x_c X ρ)).toArray meth c :=
    ⟨B1.exec, B1.bytes, hml, findClass_of_methodNamed B1.named, fun w hw => hts w (List.mem_cons_of_mem _ hw), B1.returns, B1.notSynchronized, hl0, hex, rfl, (name_of_methodNamed B1.named B1.method).1, hK1, hO, hsz⟩
  have hen := lv_entry (as.map (x_c X ρ)) (n := zL z) (by rw [x_lgsl]; exact hl)
  rw [lg_entry_eq]
  generalize (lg_sl (as.map (x_c X ρ)) ++ List.replicate (zL z - (lg_sl (as.map (x_c X ρ))).length) Slot.unset).toArray = lsC at hen ⊢
  have hW := x_wpG (Or.inl (by decide)) (ρ0 := ρ) (n0 := hn h) (e := e) (below := below) hx hB (fun t ls st M h c' n' hc' hs' hk => x_loopsI (Or.inl (by decide)) hx hB I f hK _ _ t ls st M h c' n' (Nat.lt_succ_self _) hc' hs' hk.choose_spec) f 0 (x_ent as 0) [] M h 0 0 (Nat.zero_le _) (Nat.zero_le _) h0
  exact hW ρ lsC s.heap [] ⟨⟨hen.1, hen.2.1, fun i v hi => ⟨hen.2.2 _ (x_entl as 0 i v hi).1, has v (x_entl (X := X) (ρ := ρ) as 0 i v hi).2⟩⟩, fun v hv => absurd hv List.not_mem_nil, hP, va_S.rf, fun id _ => rfl, Nat.le_refl _⟩

/-- a method without loops -/
theorem x_met0 {z : xMD} {B : xB} (hB : x_chkB z B = true) {as : List xV} {M : xM} {h : xH} {Φ : xO → xM → xH → Prop} (hl : (as.map x_cat).sum ≤ zL z)
    (h0 : wpG x_Cal (zC z, zS z, x_rtc (zR z), x_sc0) B (fun _ _ _ _ _ _ _ => False) Φ 20 0 (x_ent as 0) [] M h 0 0) : x_Cal z as M h Φ :=
  x_metI hB hl (fun _ _ _ _ _ _ _ _ => False) 20 (by
    have e : (fun (t : Nat) (ls : xL) (st : List xV) (M : xM) (h : xH) (c n : Nat) => ∃ m : Nat, False) = (fun _ _ _ _ _ _ _ => False) := by
      funext t ls st M h c n
      simp
    rw [e]
    exact h0) (fun _ _ _ _ _ _ _ _ h => h.elim)
end
