/-! loops with an index, methods without loops, and more rows for simp -/
def x_gc (o : Option (Bool × List xPI)) (Cl : xCal) (E : Nat × Nat × Nat × xSc) (J : xJT) (Φ : xO → xM → xH → Prop) (ls : xL) (st : List xV) (M : xM) (h : xH) (c n : Nat) : Prop := match o with
  | some (_, is) => wpL Cl E J Φ is ls st M h c n
  | none => False
theorem wq_gc (Cl : xCal) (E : Nat × Nat × Nat × xSc) (J : xJT) (Φ : xO → xM → xH → Prop) (ls : xL) (st : List xV) (M : xM) (h : xH) (c n : Nat) (b : Bool) (is : List xPI) : x_gc (some (b, is)) Cl E J Φ ls st M h c n = wpL Cl E J Φ is ls st M h c n := rfl
theorem wq_g3 (Cl : xCal) (E : Nat × Nat × Nat × xSc) (B : xB) (K : xJT) (Φ : xO → xM → xH → Prop) (t : Nat) (ls : xL) (st : List xV) (M : xM) (h : xH) (c n : Nat) : wpG Cl E B K Φ 20 t ls st M h c n = x_g (x_blk B t) Cl E B K Φ 19 t ls st M h c n := rfl
abbrev xIv : Type := Nat → Nat → xL → List xV → xM → xH → Nat → Nat → Prop
section SB
variable {X : xX} {ρ0 : Nat → Nat} {n0 : Nat} {z : xMD} {p : Program} {l : Launch} {e : Env} {R : Room} {s : State} {m : MethodId} {args : Array Value} {below : List Frame} {meth : Method} {c : Code} {Φ : xO → xM → xH → Prop}
theorem x_loopsI {sc : xSc} (hsc : x_scok sc X) (hx : x_Cx X z p l R s m args meth c) {B : xB} (hB : x_chkB z B = true) (I : xIv) (f : Nat)
    (hK : ∀ t m ls st M h c' n', I t m ls st M h c' n' → x_gc (x_blk B t) x_Cal (zC z, zS z, x_rtc (zR z), sc) (wpG x_Cal (zC z, zS z, x_rtc (zR z), sc) B (fun t2 ls2 st2 M2 h2 c2 n2 => ∃ m2, m2 < m ∧ I t2 m2 ls2 st2 M2 h2 c2 n2) Φ f) Φ ls st M h c' n') :
    ∀ (N mm t : Nat) (ls : xL) (st : List xV) (M : xM) (h : xH) (cells slots : Nat), mm < N → cells ≤ zC z → slots ≤ zS z → I t mm ls st M h cells slots → x_Wt X ρ0 n0 (zL z) p l e R s m args below meth c (x_Q X ρ0 n0 Φ below args s z) t ls st M h cells slots := by
  intro N
  induction N with
  | zero => intro mm t ls st M h cells slots hN; omega
  | succ N ih =>
    intro mm t ls st M h cells slots hN hc hs hk
    have hw := hK t mm ls st M h cells slots hk
    cases hb : x_blk B t with
    | none => rw [hb] at hw; exact hw.elim
    | some q =>
      obtain ⟨fl, is⟩ := q
      rw [hb, wq_gc] at hw
      exact x_snd hsc hx (fun t1 ls1 st1 M1 h1 c1 n1 hc1 hs1 hj => x_wpG hsc hx hB (fun t2 ls2 st2 M2 h2 c2 n2 hc2 hs2 hk2 => by
        obtain ⟨m2, q1, q2⟩ := hk2
        exact ih m2 t2 ls2 st2 M2 h2 c2 n2 (by omega) hc2 hs2 q2) f t1 ls1 st1 M1 h1 c1 n1 hc1 hs1 hj) is t ls st M h cells slots (x_chkB_at hB hb) hc hs hw
end SB
/-- A METHOD with loops: I t m is what holds at the cut point t with m rounds left at most -/
theorem x_metI {z : xMD} {B : xB} (hB : x_chkB z B = true) {as : List xV} {M : xM} {h : xH} {Φ : xO → xM → xH → Prop} (hl : (as.map x_cat).sum ≤ zL z) (I : xIv) (f : Nat)
    (h0 : wpG x_Cal (zC z, zS z, x_rtc (zR z), x_sc0) B (fun t ls st M h c n => ∃ m, I t m ls st M h c n) Φ f 0 (x_ent as 0) [] M h 0 0)
    (hK : ∀ t m ls st M h c' n', I t m ls st M h c' n' → x_gc (x_blk B t) x_Cal (zC z, zS z, x_rtc (zR z), x_sc0) (wpG x_Cal (zC z, zS z, x_rtc (zR z), x_sc0) B (fun t2 ls2 st2 M2 h2 c2 n2 => ∃ m2, m2 < m ∧ I t2 m2 ls2 st2 M2 h2 c2 n2) Φ f) Φ ls st M h c' n') : x_Cal z as M h Φ := by
  intro l hl0 X ρ
  have hpn : plainName (zN z).cls = true := by
    unfold x_chkB at hB
    simp only [Bool.and_eq_true] at hB
    exact hB.2.1
  have hzf : zF z < 1000 := by
    unfold x_chkB at hB
    simp only [Bool.and_eq_true, decide_eq_true_eq] at hB
    exact hB.2.2.2
  refine vx_ofW (cc := zB z) (maxL := zL z) (ret := zR z) hpn (by unfold x_w1; rw [x_cw_n hzf]) ?_
  intro p e s m args below meth c s₁ B1 hml hex hv
  obtain ⟨rfl, has, hsz, hP, hK1, hO⟩ := hv
  have hts := atoms_spec (ws := x_w1 z) B1.pre
  have hx : x_Cx X z p l (x_rm z) s m (as.map (x_c X ρ)).toArray meth c :=
    ⟨B1.exec, B1.bytes, hml, findClass_of_methodNamed B1.named, fun w hw => hts w (List.mem_cons_of_mem _ hw), B1.returns, B1.notSynchronized, hl0, hex, rfl, (name_of_methodNamed B1.named B1.method).1, hK1, hO, hsz⟩
  have hen := lv_entry (as.map (x_c X ρ)) (n := zL z) (by rw [x_lgsl]; exact hl)
  rw [lg_entry_eq]
  generalize (lg_sl (as.map (x_c X ρ)) ++ List.replicate (zL z - (lg_sl (as.map (x_c X ρ))).length) Slot.unset).toArray = lsC at hen ⊢
  have hW := x_wpG (Or.inl (by decide)) (ρ0 := ρ) (n0 := hn h) (e := e) (below := below) hx hB (fun t ls st M h c' n' hc' hs' hk => x_loopsI (Or.inl (by decide)) hx hB I f hK _ _ t ls st M h c' n' (Nat.lt_succ_self _) hc' hs' hk.choose_spec) f 0 (x_ent as 0) [] M h 0 0 (Nat.zero_le _) (Nat.zero_le _) h0
  exact hW ρ lsC s.heap [] ⟨⟨hen.1, hen.2.1, fun i v hi => ⟨hen.2.2 _ (x_entl as 0 i v hi).1, has v (x_entl (X := X) (ρ := ρ) as 0 i v hi).2⟩⟩, fun v hv => absurd hv List.not_mem_nil, hP, va_S.rf, fun id _ => rfl, Nat.le_refl _⟩

/-- a method without loops -/
theorem x_met0 {z : xMD} {B : xB} (hB : x_chkB z B = true) {as : List xV} {M : xM} {h : xH} {Φ : xO → xM → xH → Prop} (hl : (as.map x_cat).sum ≤ zL z)
    (h0 : wpG x_Cal (zC z, zS z, x_rtc (zR z), x_sc0) B (fun _ _ _ _ _ _ _ => False) Φ 20 0 (x_ent as 0) [] M h 0 0) : x_Cal z as M h Φ :=
  x_metI hB hl (fun _ _ _ _ _ _ _ _ => False) 20 (by
    have e : (fun (t : Nat) (ls : xL) (st : List xV) (M : xM) (h : xH) (c n : Nat) => ∃ m : Nat, False) = (fun _ _ _ _ _ _ _ => False) := by
      funext t ls st M h c n
      simp
    rw [e]
    exact h0) (fun _ _ _ _ _ _ _ _ h => h.elim)
