/-! from a method's table to its contract -/
theorem x_lk_mem {B : xB} {t : Nat} {v : Bool × List xPI} (h : x_blk B t = some v) : (t, v) ∈ B := by
  unfold x_blk at h
  induction B with
  | nil => cases h
  | cons b B ih =>
    obtain ⟨t', v'⟩ := b
    rw [List.lookup_cons] at h
    by_cases e : t = t'
    · subst e
      simp at h
      subst h
      exact List.mem_cons_self
    · rw [beq_eq_false_iff_ne.mpr e] at h
      exact List.mem_cons_of_mem _ (ih h)
set_option maxRecDepth 20000 in
theorem x_thl_ok : ∀ q ∈ x_thl, x_thr RX7 q.1 q.2.1 (x_en q.2.2) := by
  have h : x_thl.all (fun q => Bundle.fit (x_en q.2.2) && (Cond.classLink RX7 q.1 (x_en q.2.2) :: Cond.initialized (x_en q.2.2) :: vx_at0 RX7 q.2.1 (x_en q.2.2) x_ex).all (fun w => decide (w ∈ x_tbl) && ((goodWord w || x_odd w) && vx_ot w))) = true := by decide +kernel
  intro q hq
  have h1 := List.all_eq_true.mp h q hq
  simp only [Bool.and_eq_true] at h1
  refine ⟨h1.1, fun w hw => ?_⟩
  have h2 := List.all_eq_true.mp h1.2 w hw
  simp only [Bool.and_eq_true, Bool.or_eq_true, decide_eq_true_eq] at h2
  exact h2
theorem x_sw_at {J : xJT} {ls : xL} {st : List xV} {M : xM} {h : xH} {c n : Nat} {x : Int} {d : Prop} : ∀ (ts : List Nat) (lo : Int), x_sw J ls st M h c n x d lo ts → d ∧ ∀ (j t : Nat), ts[j]? = some t → x = lo + j → J t ls st M h c n
  | [], lo, hw => ⟨hw, fun j t h => by simp at h⟩
  | t0 :: ts, lo, hw => by
    obtain ⟨h1, h2⟩ := hw
    obtain ⟨i1, i2⟩ := x_sw_at ts (lo + 1) h2
    refine ⟨i1, fun j t h e => ?_⟩
    cases j with
    | zero =>
      simp at h
      subst h
      exact h1 (by simpa using e)
    | succ j => exact i2 j t (by simpa using h) (by rw [e]; push_cast; omega)
theorem x_lk_at {J : xJT} {ls : xL} {st : List xV} {M : xM} {h : xH} {c n pc : Nat} {x dflt : Int} {d : Prop} : ∀ (ps : List (Int × Int)) (ts : List Nat), ps.map (fun o => (pc : Int) + o.2) = ts.map (fun (x : Nat) => (x : Int)) → x_lk J ls st M h c n x d (ps.map (fun p => p.1)) ts → (d ∧ Op.lookupswitch.offset ps dflt x = dflt) ∨ ∃ t : Nat, J t ls st M h c n ∧ (pc : Int) + Op.lookupswitch.offset ps dflt x = (t : Int)
  | [], ts, he, hw => by
    cases ts with
    | nil => exact Or.inl ⟨hw, rfl⟩
    | cons t ts => cases he
  | (a, o) :: ps, ts, he, hw => by
    cases ts with
    | nil => cases he
    | cons t ts =>
      simp only [List.map_cons, List.cons.injEq] at he
      obtain ⟨w1, w2⟩ := hw
      rw [Op.lookupswitch.offset_cons]
      by_cases hx : x = a
      · exact Or.inr ⟨t, w1 hx, by rw [if_pos hx.symm]; exact he.1⟩
      · rw [if_neg (fun z => hx z.symm)]
        exact x_lk_at ps ts he.2 (w2 hx)
section SA
variable {X : xX} {ρ0 : Nat → Nat} {n0 : Nat} {z : xMD} {p : Program} {l : Launch} {e : Env} {R : Room} {s : State} {m : MethodId} {args : Array Value} {below : List Frame} {meth : Method} {c : Code} {Φ : xO → xM → xH → Prop}
theorem ss_ts {pc cells slots len : Nat} {ls : xL} {st : List xV} {M : xM} {h : xH} {J : xJT} {is : List xPI} {k : List Nat} {zs : List xMD} {sc : xSc} {dd lo hi : Int} {os : Array Int} (hx : x_Cx X z p l R s m args meth c) (hk : x_ok1 z pc len (.tableswitch dd lo hi os) k zs = true) (d : decode (zB z) pc = .ok (.tableswitch dd lo hi os, len)) (hc : cells ≤ zC z) (hs : slots ≤ zS z) (hw : wpL x_Cal (zC z, zS z, x_rtc (zR z), sc) J Φ ((.tableswitch dd lo hi os, k, zs) :: is) ls st M h cells slots)
    (hJ : ∀ t ls st M h c' n', c' ≤ zC z → n' ≤ zS z → J t ls st M h c' n' → x_Wt X ρ0 n0 (zL z) p l e R s m args below meth c (x_Q X ρ0 n0 Φ below args s z) t ls st M h c' n') : x_Wt X ρ0 n0 (zL z) p l e R s m args below meth c (x_Q X ρ0 n0 Φ below args s z) pc ls st M h cells slots := by
  simp only [wpL] at hw
  split at hw
  · rename_i t ts x st
    simp only [x_ok1, Bool.and_eq_true, decide_eq_true_eq] at hk
    obtain ⟨h1, h2, h3, h4, h5⟩ := hk
    obtain ⟨w1, w2⟩ := x_sw_at ts lo hw
    intro ρ lsC H locs S
    have hx32 : x_i32 x := S.top
    by_cases hr : x < lo ∨ hi < x
    · exact lv_tableOut hx.1 hx.2.1 d (by rw [i32_to hx32]; exact hr) h1 (hJ _ _ _ _ _ _ _ hc hs (w1 hr) ρ lsC H locs S.pop)
    · have hlen : ts.length = os.size := by
        have := congrArg List.length h2
        simpa using this.symm
      obtain ⟨j, hj⟩ : ∃ j : Nat, (x - lo).toNat = j := ⟨_, rfl⟩
      have hj2 : j < os.size := by omega
      have ho : os[j]? = some os[j] := Array.getElem?_eq_getElem hj2
      have ht : ts[j]? = some (ts[j]'(by omega)) := List.getElem?_eq_getElem (by omega)
      have e2 := congrArg (fun z => z[j]?) h2
      simp only [List.getElem?_map, Array.getElem?_toList, ho, ht, Option.map_some, Option.some.injEq] at e2
      exact lv_tableIn hx.1 hx.2.1 d (by rw [i32_to hx32]; omega) (by rw [i32_to hx32]; omega) (off := os[j]) (by rw [i32_to hx32, hj]; exact ho) e2 (hJ _ _ _ _ _ _ _ hc hs (w2 j _ ht (by omega)) ρ lsC H locs S.pop)
  · exact hw.elim
theorem ss_lk {pc cells slots len : Nat} {ls : xL} {st : List xV} {M : xM} {h : xH} {J : xJT} {is : List xPI} {k : List Nat} {zs : List xMD} {sc : xSc} {dd : Int} {os : Array (Int × Int)} (hx : x_Cx X z p l R s m args meth c) (hk : x_ok1 z pc len (.lookupswitch dd os) k zs = true) (d : decode (zB z) pc = .ok (.lookupswitch dd os, len)) (hc : cells ≤ zC z) (hs : slots ≤ zS z) (hw : wpL x_Cal (zC z, zS z, x_rtc (zR z), sc) J Φ ((.lookupswitch dd os, k, zs) :: is) ls st M h cells slots)
    (hJ : ∀ t ls st M h c' n', c' ≤ zC z → n' ≤ zS z → J t ls st M h c' n' → x_Wt X ρ0 n0 (zL z) p l e R s m args below meth c (x_Q X ρ0 n0 Φ below args s z) t ls st M h c' n') : x_Wt X ρ0 n0 (zL z) p l e R s m args below meth c (x_Q X ρ0 n0 Φ below args s z) pc ls st M h cells slots := by
  simp only [wpL] at hw
  split at hw
  · rename_i t ts x st
    simp only [x_ok1, Bool.and_eq_true, decide_eq_true_eq] at hk
    obtain ⟨h1, h2, h3⟩ := hk
    intro ρ lsC H locs S
    have hx32 : x_i32 x := S.top
    rcases x_lk_at (pc := pc) (dflt := dd) os.toList ts h2 hw with ⟨w1, w2⟩ | ⟨t, w1, w2⟩
    · exact lv_lookup hx.1 hx.2.1 d h3 (by rw [i32_to hx32]; exact w2) h1 (hJ _ _ _ _ _ _ _ hc hs w1 ρ lsC H locs S.pop)
    · exact lv_lookup hx.1 hx.2.1 d h3 (by rw [i32_to hx32]) w2 (hJ _ _ _ _ _ _ _ hc hs w1 ρ lsC H locs S.pop)
  · exact hw.elim
theorem x_s1 {pc cells slots len : Nat} {ls : xL} {st : List xV} {M : xM} {h : xH} {J : xJT} {is : List xPI} {i : Instr} {k : List Nat} {zs : List xMD} {sc : xSc} (hsc : x_scok sc X) (hx : x_Cx X z p l R s m args meth c) (hk : x_ok1 z pc len i k zs = true) (d : decode (zB z) pc = .ok (i, len)) (hc : cells ≤ zC z) (hs : slots ≤ zS z) (hw : wpL x_Cal (zC z, zS z, x_rtc (zR z), sc) J Φ ((i, k, zs) :: is) ls st M h cells slots)
    (hN : ∀ ls st M h c' n', c' ≤ zC z → n' ≤ zS z → wpL x_Cal (zC z, zS z, x_rtc (zR z), sc) J Φ is ls st M h c' n' → x_Wt X ρ0 n0 (zL z) p l e R s m args below meth c (x_Q X ρ0 n0 Φ below args s z) (pc + len) ls st M h c' n')
    (hJ : ∀ t ls st M h c' n', c' ≤ zC z → n' ≤ zS z → J t ls st M h c' n' → x_Wt X ρ0 n0 (zL z) p l e R s m args below meth c (x_Q X ρ0 n0 Φ below args s z) t ls st M h c' n') : x_Wt X ρ0 n0 (zL z) p l e R s m args below meth c (x_Q X ρ0 n0 Φ below args s z) pc ls st M h cells slots := by
  cases i with
  | iconst x => exact ss_iconst hx hk d hc hs hw hN hJ
  | bipush x => exact ss_bipush hx hk d hc hs hw hN hJ
  | sipush x => exact ss_sipush hx hk d hc hs hw hN hJ
  | lconst x => exact ss_lconst hx hk d hc hs hw hN hJ
  | aconst_null => exact ss_null hx hk d hc hs hw hN hJ
  | ldc i => exact ss_ldc hx hk d hc hs hw hN hJ
  | ldc2_w i => exact ss_ldcl hx hk d hc hs hw hN hJ
  | iload i => exact ss_iload hx hk d hc hs hw hN hJ
  | iload_n i => exact ss_iload_n hx hk d hc hs hw hN hJ
  | lload i => exact ss_lload hx hk d hc hs hw hN hJ
  | lload_n i => exact ss_lload_n hx hk d hc hs hw hN hJ
  | aload i => exact ss_aload hx hk d hc hs hw hN hJ
  | aload_n i => exact ss_aload_n hx hk d hc hs hw hN hJ
  | istore i => exact ss_istore hx hk d hc hs hw hN hJ
  | istore_n i => exact ss_istore_n hx hk d hc hs hw hN hJ
  | lstore i => exact ss_lstore hx hk d hc hs hw hN hJ
  | lstore_n i => exact ss_lstore_n hx hk d hc hs hw hN hJ
  | astore i => exact ss_astore hx hk d hc hs hw hN hJ
  | astore_n i => exact ss_astore_n hx hk d hc hs hw hN hJ
  | iinc i d => exact ss_iinc hx hk d hc hs hw hN hJ
  | iadd => exact ss_iadd hx hk d hc hs hw hN hJ
  | isub => exact ss_isub hx hk d hc hs hw hN hJ
  | imul => exact ss_imul hx hk d hc hs hw hN hJ
  | idiv => exact ss_idiv hx hk d hc hs hw hN hJ
  | irem => exact ss_irem hx hk d hc hs hw hN hJ
  | iand => exact ss_iand hx hk d hc hs hw hN hJ
  | ior => exact ss_ior hx hk d hc hs hw hN hJ
  | ixor => exact ss_ixor hx hk d hc hs hw hN hJ
  | ishl => exact ss_ishl hx hk d hc hs hw hN hJ
  | ishr => exact ss_ishr hx hk d hc hs hw hN hJ
  | i2l => exact ss_i2l hx hk d hc hs hw hN hJ
  | l2i => exact ss_l2i hx hk d hc hs hw hN hJ
  | i2b => exact ss_i2b hx hk d hc hs hw hN hJ
  | ladd => exact ss_ladd hx hk d hc hs hw hN hJ
  | lsub => exact ss_lsub hx hk d hc hs hw hN hJ
  | lmul => exact ss_lmul hx hk d hc hs hw hN hJ
  | land => exact ss_land hx hk d hc hs hw hN hJ
  | lshr => exact ss_lshr hx hk d hc hs hw hN hJ
  | lcmp => exact ss_lcmp hx hk d hc hs hw hN hJ
  | dup => exact ss_dup hx hk d hc hs hw hN hJ
  | dup2 => exact ss_dup2 hx hk d hc hs hw hN hJ
  | pop => exact ss_pop hx hk d hc hs hw hN hJ
  | ifCond q o => exact ss_ifCond hx hk d hc hs hw hN hJ
  | if_icmp q o => exact ss_if_icmp hx hk d hc hs hw hN hJ
  | ifnull o => exact ss_ifnull hx hk d hc hs hw hN hJ
  | ifnonnull o => exact ss_ifnonnull hx hk d hc hs hw hN hJ
  | goto o => exact ss_goto hx hk d hc hs hw hN hJ
  | getfield i => exact ss_getfield hx hk d hc hs hw hN hJ
  | putfield i => exact ss_putfield hx hk d hc hs hw hN hJ
  | iaload => exact ss_iaload hx hsc hk d hc hs hw hN hJ
  | baload => exact ss_baload hx hk d hc hs hw hN hJ
  | aaload => exact ss_aaload hx hk d hc hs hw hN hJ
  | iastore => exact ss_iastore hx hk d hc hs hw hN hJ
  | bastore => exact ss_bastore hx hk d hc hs hw hN hJ
  | aastore => exact ss_aastore hx hk d hc hs hw hN hJ
  | arraylength => exact ss_alen hx hsc hk d hc hs hw hN hJ
  | new i => exact ss_new hx hk d hc hs hw hN hJ
  | newarray t => exact ss_newarray hx hk d hc hs hw hN hJ
  | anewarray i => exact ss_anewarray hx hk d hc hs hw hN hJ
  | invokevirtual i => exact ss_invokevirtual hx hk d hc hs hw hN hJ
  | invokespecial i => exact ss_invokespecial hx hk d hc hs hw hN hJ
  | invokestatic i => exact ss_invokestatic hx hk d hc hs hw hN hJ
  | return_ => exact ss_return hx hk d hc hs hw hN hJ
  | ireturn => exact ss_ireturn hx hk d hc hs hw hN hJ
  | areturn => exact ss_areturn hx hk d hc hs hw hN hJ
  | ineg => exact ss_ineg hx hk d hc hs hw hN hJ
  | i2c => exact ss_i2c hx hk d hc hs hw hN hJ
  | iushr => exact ss_iushr hx hk d hc hs hw hN hJ
  | lor => exact ss_lor hx hk d hc hs hw hN hJ
  | lshl => exact ss_lshl hx hk d hc hs hw hN hJ
  | dup_x1 => exact ss_dup_x1 hx hk d hc hs hw hN hJ
  | lreturn => exact ss_lreturn hx hk d hc hs hw hN hJ
  | getstatic q => exact ss_getstatic hx hk d hc hs hw hN hJ
  | tableswitch q1 q2 q3 q4 => exact ss_ts hx hk d hc hs hw hJ
  | lookupswitch q1 q2 => exact ss_lk hx hk d hc hs hw hJ
  | _ => exact absurd hk (by simp [x_ok1])
theorem x_snd {sc : xSc} (hsc : x_scok sc X) (hx : x_Cx X z p l R s m args meth c) {J : xJT}
    (hJ : ∀ t ls st M h c' n', c' ≤ zC z → n' ≤ zS z → J t ls st M h c' n' → x_Wt X ρ0 n0 (zL z) p l e R s m args below meth c (x_Q X ρ0 n0 Φ below args s z) t ls st M h c' n') : ∀ (is : List xPI) (pc : Nat) (ls : xL) (st : List xV) (M : xM) (h : xH) (cells slots : Nat), x_chk z pc is = true → cells ≤ zC z → slots ≤ zS z → wpL x_Cal (zC z, zS z, x_rtc (zR z), sc) J Φ is ls st M h cells slots → x_Wt X ρ0 n0 (zL z) p l e R s m args below meth c (x_Q X ρ0 n0 Φ below args s z) pc ls st M h cells slots := by
  intro is
  induction is with
  | nil => intro pc ls st M h cells slots _ _ _ hw; exact hw.elim
  | cons pi is ih =>
    intro pc ls st M h cells slots hch hc hs hw
    obtain ⟨i, k, zs⟩ := pi
    by_cases hn : i = .nop
    · subst hn
      simp only [wpL] at hw
      split at hw
      · simp only [x_chk] at hch
        cases zs with
        | nil =>
          have := beq_iff_eq.mp hch
          subst this
          exact hJ _ _ _ _ _ _ _ hc hs hw
        | cons a b => exact absurd hch (by simp)
      · exact hw.elim
    · by_cases ht : i = .athrow
      · subst ht
        simp only [wpL] at hw
        split at hw
        · rename_i ee k
          simp only [x_chk] at hch
          split at hch
          · rename_i e9 ik ic heq
            cases heq
            simp only [Bool.and_eq_true, decide_eq_true_eq] at hch
            obtain ⟨h1, h2, h3, h4, h5, h6, h7, h8⟩ := hch
            exact sn_throw hx (by rw [h5]; exact x_thl_ok _ h6) h1 h2 h3 h4 h7 h8 hw.2.1 hw.1.1 hw.1.2 hw.2.2
          · exact absurd hch (by simp)
        · exact hw.elim
      · rw [x_chk] at hch
        · cases hd : decode (zB z) pc with
          | error er => rw [hd] at hch; exact absurd hch (by simp)
          | ok jl =>
            obtain ⟨j, len⟩ := jl
            rw [hd] at hch
            simp only [Bool.and_eq_true, decide_eq_true_eq] at hch
            obtain ⟨rfl, h2, h3⟩ := hch
            exact x_s1 hsc hx h2 hd hc hs hw (fun ls st M h c' n' hc' hs' hw' => ih _ _ _ _ _ _ _ h3 hc' hs' hw') hJ
        · exact hn
        · exact ht
theorem x_chkB_at {B : xB} (hB : x_chkB z B = true) {t : Nat} {fl : Bool} {is : List xPI} (ht : x_blk B t = some (fl, is)) : x_chk z t is = true := by
  unfold x_chkB at hB
  rw [Bool.and_eq_true] at hB
  exact List.all_eq_true.mp hB.1 _ (x_lk_mem ht)
theorem x_wpG {sc : xSc} (hsc : x_scok sc X) (hx : x_Cx X z p l R s m args meth c) {B : xB} (hB : x_chkB z B = true) {K : xJT}
    (hK : ∀ t ls st M h c' n', c' ≤ zC z → n' ≤ zS z → K t ls st M h c' n' → x_Wt X ρ0 n0 (zL z) p l e R s m args below meth c (x_Q X ρ0 n0 Φ below args s z) t ls st M h c' n') : ∀ (f t : Nat) (ls : xL) (st : List xV) (M : xM) (h : xH) (cells slots : Nat), cells ≤ zC z → slots ≤ zS z → wpG x_Cal (zC z, zS z, x_rtc (zR z), sc) B K Φ f t ls st M h cells slots → x_Wt X ρ0 n0 (zL z) p l e R s m args below meth c (x_Q X ρ0 n0 Φ below args s z) t ls st M h cells slots := by
  intro f
  induction f with
  | zero => intro t ls st M h cells slots _ _ hw; exact hw.elim
  | succ f ih =>
    intro t ls st M h cells slots hc hs hw
    simp only [wpG] at hw
    split at hw
    · exact hK _ _ _ _ _ _ _ hc hs hw
    · rename_i is hb
      exact x_snd hsc hx (fun t ls st M h c' n' hc' hs' hj => ih t ls st M h c' n' hc' hs' hj) is t ls st M h cells slots (x_chkB_at hB hb) hc hs hw
    · exact hw.elim
/-- loops: from every cut point, with what stands there, one goes on to another with a smaller measure, or to the end -/
theorem x_loops {sc : xSc} (hsc : x_scok sc X) (hx : x_Cx X z p l R s m args meth c) {B : xB} (hB : x_chkB z B = true) {K : xJT} (μ : Nat → xL → List xV → xM → xH → Nat) (f : Nat)
    (hK : ∀ t ls st M h c' n', K t ls st M h c' n' → ∃ is, x_blk B t = some (true, is) ∧ wpL x_Cal (zC z, zS z, x_rtc (zR z), sc) (wpG x_Cal (zC z, zS z, x_rtc (zR z), sc) B (fun t2 ls2 st2 M2 h2 c2 n2 => K t2 ls2 st2 M2 h2 c2 n2 ∧ μ t2 ls2 st2 M2 h2 < μ t ls st M h) Φ f) Φ is ls st M h c' n') :
    ∀ (N t : Nat) (ls : xL) (st : List xV) (M : xM) (h : xH) (cells slots : Nat), μ t ls st M h < N → cells ≤ zC z → slots ≤ zS z → K t ls st M h cells slots → x_Wt X ρ0 n0 (zL z) p l e R s m args below meth c (x_Q X ρ0 n0 Φ below args s z) t ls st M h cells slots := by
  intro N
  induction N with
  | zero => intro t ls st M h cells slots hN; omega
  | succ N ih =>
    intro t ls st M h cells slots hN hc hs hk
    obtain ⟨is, hb, hw⟩ := hK t ls st M h cells slots hk
    exact x_snd hsc hx (fun t1 ls1 st1 M1 h1 c1 n1 hc1 hs1 hj => x_wpG hsc hx hB (fun t2 ls2 st2 M2 h2 c2 n2 hc2 hs2 hk2 => ih t2 ls2 st2 M2 h2 c2 n2 (by omega) hc2 hs2 hk2.1) f t1 ls1 st1 M1 h1 c1 n1 hc1 hs1 hj) is t ls st M h cells slots (x_chkB_at hB hb) hc hs hw
end SA
theorem x_entl {X : xX} {ρ : Nat → Nat} : ∀ (as : List xV) (i j : Nat) (v : xV), x_ent as i j = some v → (j, x_c X ρ v) ∈ lv_args i (as.map (x_c X ρ)) ∧ v ∈ as
  | [], i, j, v, h => by cases h
  | a :: as, i, j, v, h => by
    unfold x_ent at h
    rw [List.map_cons, lv_args]
    by_cases hj : j = i
    · rw [if_pos hj] at h
      cases h
      subst hj
      exact ⟨List.mem_cons_self, List.mem_cons_self⟩
    · rw [if_neg hj] at h
      obtain ⟨i1, i2⟩ := x_entl (X := X) (ρ := ρ) as _ _ _ h
      refine ⟨List.mem_cons_of_mem _ ?_, List.mem_cons_of_mem _ i2⟩
      have e : (if (x_c X ρ a).category = 2 then i + 2 else i + 1) = i + x_cat a := by
        rw [x_cat_c]
        rcases a with x | x | x <;> rfl
      rw [e]
      exact i1
theorem x_lgsl {X : xX} {ρ : Nat → Nat} (as : List xV) : (lg_sl (as.map (x_c X ρ))).length = (as.map x_cat).sum := by
  induction as with
  | nil => rfl
  | cons a as ih =>
    rw [List.map_cons, List.map_cons, List.sum_cons, ← ih]
    unfold lg_sl
    rw [List.flatMap_cons, List.length_append]
    congr 1
    rcases a with x | x | r | a | i
    · rfl
    · rfl
    · show List.length (if (va_rf (x_rf ρ r)).category = 2 then _ else _) = 1
      generalize x_rf ρ r = y
      cases y <;> rfl
    · rfl
    · rfl
def x_sc0 : xSc := (0, -1, fun _ => 0)
/-- A METHOD: its table, what it does from the entry up to its cut points, and from each of them on -/
theorem x_met {z : xMD} {B : xB} (hB : x_chkB z B = true) {as : List xV} {M : xM} {h : xH} {Φ : xO → xM → xH → Prop} (hl : (as.map x_cat).sum ≤ zL z) (K : xJT) (μ : Nat → xL → List xV → xM → xH → Nat) (f : Nat)
    (h0 : wpG x_Cal (zC z, zS z, x_rtc (zR z), x_sc0) B K Φ f 0 (x_ent as 0) [] M h 0 0)
    (hK : ∀ t ls st M h c' n', K t ls st M h c' n' → ∃ is, x_blk B t = some (true, is) ∧ wpL x_Cal (zC z, zS z, x_rtc (zR z), x_sc0) (wpG x_Cal (zC z, zS z, x_rtc (zR z), x_sc0) B (fun t2 ls2 st2 M2 h2 c2 n2 => K t2 ls2 st2 M2 h2 c2 n2 ∧ μ t2 ls2 st2 M2 h2 < μ t ls st M h) Φ f) Φ is ls st M h c' n') : x_Cal z as M h Φ := by
  intro l hl0 X ρ
  have hpn : plainName (zN z).cls = true := by
    unfold x_chkB at hB
    simp only [Bool.and_eq_true] at hB
    exact hB.2.1
  have hzf : zF z < 1000 := by
    unfold x_chkB at hB
    simp only [Bool.and_eq_true, decide_eq_true_eq] at hB
    exact hB.2.2.2
  refine vx_ofW (cc := zB z) (maxL := zL z) (ret := zR z) hpn (by unfold x_w1; rw [x_cw_n hzf]) ?_
  intro p e s m args below meth c s₁ B1 hml hex hv
  obtain ⟨rfl, has, hsz, hP, hK1, hO⟩ := hv
  have hts := atoms_spec (ws := x_w1 z) B1.pre
  have hx : x_Cx X z p l (x_rm z) s m (as.map (x_c X ρ)).toArray meth c :=
    ⟨B1.exec, B1.bytes, hml, findClass_of_methodNamed B1.named, fun w hw => hts w (List.mem_cons_of_mem _ hw), B1.returns, B1.notSynchronized, hl0, hex, rfl, (name_of_methodNamed B1.named B1.method).1, hK1, hO, hsz⟩
  have hen := lv_entry (as.map (x_c X ρ)) (n := zL z) (by rw [x_lgsl]; exact hl)
  rw [lg_entry_eq]
  generalize (lg_sl (as.map (x_c X ρ)) ++ List.replicate (zL z - (lg_sl (as.map (x_c X ρ))).length) Slot.unset).toArray = lsC at hen ⊢
  have hW := x_wpG (Or.inl (by decide)) (ρ0 := ρ) (n0 := hn h) (e := e) (below := below) hx hB (fun t ls st M h c' n' hc' hs' hk => x_loops (Or.inl (by decide)) hx hB μ f hK _ t ls st M h c' n' (Nat.lt_succ_self _) hc' hs' hk) f 0 (x_ent as 0) [] M h 0 0 (Nat.zero_le _) (Nat.zero_le _) h0
  exact hW ρ lsC s.heap [] ⟨⟨hen.1, hen.2.1, fun i v hi => ⟨hen.2.2 _ (x_entl as 0 i v hi).1, has v (x_entl (X := X) (ρ := ρ) as 0 i v hi).2⟩⟩, fun v hv => absurd hv List.not_mem_nil, hP, va_S.rf, fun id _ => rfl, Nat.le_refl _⟩
