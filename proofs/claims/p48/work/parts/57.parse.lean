/-! texts that parse, piece by piece -/
def atL (B : Int → Int) (x : Nat) (K : List Int) : Prop := ∀ i : Nat, i < K.length → B ((x + i : Nat) : Int) = K.getD i 0
section PRS
variable {B : Int → Int} {n x s k : Nat} {l : Bool} {S S' : xSr} {m c : Nat} {N N' : Int → Int} {K K2 L : List Int}
theorem atL_app (h : atL B x (K ++ K2)) : atL B x K ∧ atL B (x + K.length) K2 := by
  refine ⟨fun i hi => ?_, fun i hi => ?_⟩
  · have := h i (by rw [List.length_append]; omega)
    rw [getD_app_lo hi] at this
    exact this
  · have := h (K.length + i) (by rw [List.length_append]; omega)
    rw [getD_app_hi (by omega)] at this
    rw [show x + K.length + i = x + (K.length + i) by omega, this]
    simp
theorem atL_cons {a : Int} (h : atL B x (a :: K)) : B (x : Nat) = a ∧ atL B (x + 1) K := by
  have h2 := atL_app (K := [a]) (K2 := K) h
  refine ⟨?_, h2.2⟩
  have := h2.1 0 (by simp)
  simpa using this
theorem tk_ts (hs : x ≤ s) (hsp : ∀ q : Nat, x ≤ q → q < s → B q = 32) (hn : s < n) (hB : B (s : Nat) ≠ 32 ∧ B (s : Nat) ≠ 10) : ts B n x = s :=
  ren_eq hs (by omega) (fun q h1 h2 => isSp_t.mpr (Or.inl (hsp q h1 h2))) (fun _ => bf_of isSp_t (by omega))
theorem tk_word (hs : x ≤ s) (hsp : ∀ q : Nat, x ≤ q → q < s → B q = 32) (hk : 1 ≤ k ∧ k ≤ 6) (hn : s + k < n) (hL : ∀ q : Nat, q < k → 97 ≤ B ((s + q : Nat) : Int) ∧ B ((s + q : Nat) : Int) ≤ 122) (he : ¬ (97 ≤ B ((s + k : Nat) : Int) ∧ B ((s + k : Nat) : Int) ≤ 122)) (hl : l = true → s ≠ x) : ts B n x = s ∧ kin B n x l = 1 ∧ ten B n x = s + k ∧ twv B n x = wdk 32 B s k := by
  have h0 := hL 0 (by omega)
  rw [Nat.add_zero] at h0
  have e1 : ts B n x = s := tk_ts hs hsp (by omega) (by omega)
  have e2 : twe B n x = s + k := by
    unfold twe
    rw [e1]
    exact ren_eq (by omega) (by omega) (fun q h1 h2 => isLt_t.mpr (by have := hL (q - s) (by omega); rw [show s + (q - s) = q by omega] at this; exact this)) (fun _ => bf_of isLt_t he)
  have e3 : kin B n x l = 1 := kin_w.mpr (by rw [e1]; exact ⟨by omega, isLt_t.mpr h0, fun q => hl q.1 q.2⟩)
  refine ⟨e1, e3, by rw [ten_w e3, e2], ?_⟩
  unfold twv
  rw [e1, e2, if_pos (by omega), show s + k - s = k by omega]
theorem tk_num (hs : x ≤ s) (hsp : ∀ q : Nat, x ≤ q → q < s → B q = 32) (hk : 1 ≤ k ∧ k ≤ 4) (hn : s + k < n) (hL : ∀ q : Nat, q < k → 48 ≤ B ((s + q : Nat) : Int) ∧ B ((s + q : Nat) : Int) ≤ 57) (he : ¬ (48 ≤ B ((s + k : Nat) : Int) ∧ B ((s + k : Nat) : Int) ≤ 57)) (hl : l = true → s ≠ x) : ts B n x = s ∧ kin B n x l = 2 ∧ ten B n x = s + k ∧ tnv B n x = nvk B s k := by
  have h0 := hL 0 (by omega)
  rw [Nat.add_zero] at h0
  have e1 : ts B n x = s := tk_ts hs hsp (by omega) (by omega)
  have e2 : tde B n x = s + k := by
    unfold tde
    rw [e1]
    exact ren_eq (by omega) (by omega) (fun q h1 h2 => isDg_t.mpr (by have := hL (q - s) (by omega); rw [show s + (q - s) = q by omega] at this; exact this)) (fun _ => bf_of isDg_t he)
  have e3 : kin B n x l = 2 := kin_n.mpr (by rw [e1, e2]; exact ⟨by omega, isDg_t.mpr h0, fun q => hl q.1 q.2, by omega⟩)
  refine ⟨e1, e3, by rw [ten_n e3, e2], ?_⟩
  unfold tnv
  rw [e1, e2, show s + k - s = k by omega]
theorem tk_semi (hn : x < n) (hB : B (x : Nat) = 59) : kin B n x l = 3 ∧ ten B n x = x + 1 := by
  have e1 : ts B n x = x := tk_ts (Nat.le_refl _) (fun q h1 h2 => by omega) hn (by omega)
  have e2 : isLt B (x : Nat) = false := bf_of isLt_t (by omega)
  have e3 : isDg B (x : Nat) = false := bf_of isDg_t (by omega)
  have hnn : ¬ n ≤ x := by omega
  simp [kin, ten, e1, e2, e3, hB, hnn]
theorem tk_end : kin B n n l = 0 := by
  have e1 : ts B n n = n := ren_eq (Nat.le_refl _) (Nat.le_refl _) (fun q h1 h2 => by omega) (fun h => by omega)
  unfold kin
  rw [e1, if_pos (Nat.le_refl _)]
/-- a word's number -/
def wl (K : List Int) : Int := K.foldl (fun a ch => 32 * a + (ch - 96)) 0
theorem wdk_at : ∀ (j : Nat) (K : List Int), j = K.length → atL B s K → wdk 32 B s j = wl K
  | 0, K, hj, _ => by
    cases K with
    | nil => rfl
    | cons a K => cases hj
  | j + 1, K, hj, h => by
    have hne : K ≠ [] := fun e => by rw [e] at hj; cases hj
    obtain ⟨K1, a, rfl⟩ : ∃ K1 a, K = K1 ++ [a] := ⟨K.dropLast, K.getLast hne, (List.dropLast_concat_getLast hne).symm⟩
    have hl : K1.length = j := by rw [List.length_append] at hj; simp at hj; omega
    obtain ⟨h1, h2⟩ := atL_app h
    have h3 := (atL_cons h2).1
    show 32 * wdk 32 B s j + (B ((s + j : Nat) : Int) - 96) = wl (K1 ++ [a])
    rw [wdk_at j K1 hl.symm h1, ← hl, h3]
    unfold wl
    rw [List.foldl_append]
    rfl
theorem nvk_dg {v : Int} (hv : 0 ≤ v ∧ v < 100) (h : atL B s (dgL v)) : nvk B s (dgL v).length = v := by
  unfold dgL at h ⊢
  by_cases h10 : v < 10
  · rw [if_pos h10] at h ⊢
    have h1 := (atL_cons h).1
    show 10 * 0 + (B ((s + 0 : Nat) : Int) - 48) = v
    rw [Nat.add_zero, h1]
    omega
  · rw [if_neg h10] at h ⊢
    obtain ⟨h1, h2⟩ := atL_cons h
    have h3 := (atL_cons h2).1
    show 10 * (10 * 0 + (B ((s + 0 : Nat) : Int) - 48)) + (B ((s + 1 : Nat) : Int) - 48) = v
    rw [Nat.add_zero, h1, h3]
    omega
theorem dg_at {v : Int} (hv : 0 ≤ v ∧ v < 100) (h : atL B s (dgL v)) (q : Nat) (hq : q < (dgL v).length) : 48 ≤ B ((s + q : Nat) : Int) ∧ B ((s + q : Nat) : Int) ≤ 57 := by
  rw [h q hq]
  have hm : (dgL v).getD q 0 ∈ dgL v := by
    rw [List.getD_eq_getElem?_getD, List.getElem?_eq_getElem hq]
    exact List.getElem_mem hq
  have : ∀ a ∈ dgL v, 48 ≤ a ∧ a ≤ 57 := by
    unfold dgL
    intro a ha
    split at ha <;> simp at ha <;> omega
  exact this _ hm
theorem dg_len {v : Int} : 1 ≤ (dgL v).length ∧ (dgL v).length ≤ 2 := by
  rw [dgL_len]
  split <;> omega
/-- a blank, a number, and no digit behind it -/
theorem tk_dg {v d : Int} (hv : 0 ≤ v ∧ v < 100) (h : atL B x (32 :: dgL v ++ [d])) (hd : ¬ (48 ≤ d ∧ d ≤ 57)) (hn : x + 1 + (dgL v).length < n) : ts B n x = x + 1 ∧ kin B n x l = 2 ∧ ten B n x = x + 1 + (dgL v).length ∧ tnv B n x = v ∧ B ((x + 1 + (dgL v).length : Nat) : Int) = d := by
  obtain ⟨h1, h2⟩ := atL_app (K := 32 :: dgL v) h
  obtain ⟨h3, h4⟩ := atL_cons h1
  have h5 := (atL_cons h2).1
  have e : x + (32 :: dgL v).length = x + 1 + (dgL v).length := by simp; omega
  rw [e] at h5
  have hl := dg_len (v := v)
  obtain ⟨t1, t2, t3, t4⟩ := tk_num (l := l) (n := n) (s := x + 1) (x := x) (B := B) (k := (dgL v).length) (by omega) (fun q q1 q2 => by rw [show q = x by omega]; exact h3) (by omega) hn (dg_at hv h4) (by rw [h5]; exact hd) (fun _ => by omega)
  exact ⟨t1, t2, t3, t4.trans (nvk_dg hv h4), h5⟩
/-- a word at once, and no letter behind it -/
theorem tk_wd {d : Int} (hk : 1 ≤ K.length ∧ K.length ≤ 6) (hK : ∀ a ∈ K, 97 ≤ a ∧ a ≤ 122) (h : atL B x (K ++ [d])) (hd : ¬ (97 ≤ d ∧ d ≤ 122)) (hn : x + K.length < n) : kin B n x false = 1 ∧ ten B n x = x + K.length ∧ twv B n x = wl K := by
  obtain ⟨h1, h2⟩ := atL_app h
  have h5 := (atL_cons h2).1
  obtain ⟨t1, t2, t3, t4⟩ := tk_word (l := false) (n := n) (s := x) (x := x) (B := B) (k := K.length) (Nat.le_refl _) (fun q q1 q2 => by omega) hk hn (fun q hq => by
    rw [h1 q hq]
    apply hK
    rw [List.getD_eq_getElem?_getD, List.getElem?_eq_getElem hq]
    exact List.getElem_mem hq) (by rw [h5]; exact hd) (fun q => by cases q)
  exact ⟨t2, t3, t4.trans (wdk_at _ K rfl h1)⟩
/-- a blank, a word, and no letter behind it -/
theorem tk_wd2 {d : Int} (hk : 1 ≤ K.length ∧ K.length ≤ 6) (hK : ∀ a ∈ K, 97 ≤ a ∧ a ≤ 122) (h : atL B x (32 :: K ++ [d])) (hd : ¬ (97 ≤ d ∧ d ≤ 122)) (hn : x + 1 + K.length < n) : ts B n x = x + 1 ∧ kin B n x l = 1 ∧ ten B n x = x + 1 + K.length ∧ twv B n x = wl K := by
  obtain ⟨h1, h2⟩ := atL_app (K := 32 :: K) h
  obtain ⟨h3, h4⟩ := atL_cons h1
  have h5 := (atL_cons h2).1
  have e : x + (32 :: K).length = x + 1 + K.length := by simp; omega
  rw [e] at h5
  obtain ⟨t1, t2, t3, t4⟩ := tk_word (l := l) (n := n) (s := x + 1) (x := x) (B := B) (k := K.length) (by omega) (fun q q1 q2 => by rw [show q = x by omega]; exact h3) hk hn (fun q hq => by
    rw [h4 q hq]
    apply hK
    rw [List.getD_eq_getElem?_getD, List.getElem?_eq_getElem hq]
    exact List.getElem_mem hq) (by rw [h5]; exact hd) (fun _ => by omega)
  exact ⟨t1, t2, t3, t4.trans (wdk_at _ K rfl h4)⟩
theorem nuc_0 {hi : Int} (h1 : kin B n x l = 2) (h2 : 1 ≤ tnv B n x ∧ tnv B n x ≤ hi) : nuc B n x l hi = 0 := by
  unfold nuc
  rw [if_neg (by simp [h1]), if_neg (by omega)]
theorem sem_ok {y : Nat} (h1 : kin B n x true = 3) (h2 : ten B n x = y) : pSem B n (.inr (x, true, S, m, c, N)) = .inr (y, false, S, m, c, N) := by
  show (if kin B n x true = 3 then Sum.inr (ten B n x, false, S, m, c, N) else _) = _
  rw [if_pos h1, h2]
/-- the text L parses to this state -/
def PS (L : List Int) (S : xSr) (m c : Nat) (N : Int → Int) : Prop := ∃ k : Nat, k ≤ L.length ∧ ∀ (B : Int → Int) (n : Nat), atL B 0 L → L.length ≤ n → ∀ j : Nat, pSco B n (k + j) (0, false, S0, 0, 0, fun _ => 0) = pSco B n j (L.length, false, S, m, c, N)
theorem PS.nil : PS [] S0 0 0 (fun _ => 0) := ⟨0, Nat.le_refl _, fun B n _ _ j => by rw [Nat.zero_add]; rfl⟩
theorem PS.add {m' c' : Nat} (P : PS L S m c N) (hK : 1 ≤ K.length) (h : ∀ (B : Int → Int) (n : Nat), atL B L.length K → L.length + K.length ≤ n → kin B n L.length false ≠ 0 ∧ pSem B n (pStm B n (L.length, false, S, m, c, N)) = .inr (L.length + K.length, false, S', m', c', N')) : PS (L ++ K) S' m' c' N' := by
  obtain ⟨k, hk, hP⟩ := P
  refine ⟨k + 1, by rw [List.length_append]; omega, fun B n hB hn j => ?_⟩
  rw [List.length_append] at hn
  obtain ⟨h1, h2⟩ := atL_app hB
  rw [Nat.zero_add] at h2
  obtain ⟨h3, h4⟩ := h B n h2 hn
  rw [show k + 1 + j = k + (j + 1) by omega, hP B n h1 (by omega) (j + 1), List.length_append]
  show (if kin B n L.length false = 0 then _ else match pSem B n (pStm B n (L.length, false, S, m, c, N)) with
    | .inl e => (Sum.inl e : xRr)
    | .inr R' => pSco B n j R') = _
  rw [if_neg h3, h4]
theorem PS.load (P : PS L S m c N) (hB : atL B 0 L) : pLoad B L.length = .inr (L.length, false, S, m, c, N) := by
  obtain ⟨k, hk, hP⟩ := P
  unfold pLoad
  rw [show L.length + 1 = k + ((L.length - k) + 1) by omega, hP B L.length hB (Nat.le_refl _)]
  show (if kin B L.length L.length false = 0 then _ else _) = _
  rw [if_pos tk_end]
theorem PS.bars1 (P : PS L S m c N) {v : Int} (hv : 1 ≤ v ∧ v ≤ 99) (hN : (sN S : Int) + v ≤ 150) : PS (L ++ ([98, 97, 114, 115] ++ (32 :: dgL v ++ [59]))) (addS S v.toNat 4) m c N := by
  refine P.add (by simp) (fun B n hB hn => ?_)
  have hl := dg_len (v := v)
  have el : ([98, 97, 114, 115] ++ (32 :: dgL v ++ [59]) : List Int).length = 4 + 1 + (dgL v).length + 1 := by simp; omega
  rw [el] at hn ⊢
  obtain ⟨b1, b2⟩ := atL_app hB
  have b3 : atL B L.length ([98, 97, 114, 115] ++ [32]) := (atL_app (K := [98, 97, 114, 115] ++ [32]) (K2 := dgL v ++ [59]) (by simpa using hB)).1
  obtain ⟨w1, w2, w3⟩ := tk_wd (n := n) (by decide) (by decide) b3 (by decide) (by simp; omega)
  have w2' : ten B n L.length = L.length + 4 := w2
  have b4 : atL B (L.length + 4) (32 :: dgL v ++ [59]) := b2
  obtain ⟨n1, n2, n3, n4, n5⟩ := tk_dg (n := n) (l := true) (x := L.length + 4) ⟨by omega, by omega⟩ b4 (by decide) (by omega)
  obtain ⟨s1, s2⟩ := tk_semi (l := true) (n := n) (x := L.length + 4 + 1 + (dgL v).length) (B := B) (by omega) n5
  refine ⟨by rw [w1]; decide, ?_⟩
  have e1 : pStm B n (L.length, false, S, m, c, N) = .inr (L.length + 4 + 1 + (dgL v).length, true, addS S v.toNat 4, m, c, N) := by
    unfold pStm
    show (if kin B n L.length false ≠ 1 then _ else if twv B n L.length = 67155 then pBars B n (ten B n L.length) _ else _) = _
    rw [if_neg (by rw [w1]; simp), if_pos (by rw [w3]; decide), w2']
    unfold pBars
    show (if nuc B n (L.length + 4) true 99 ≠ 0 then _ else if (150 : Int) < (sN S : Nat) + tnv B n (L.length + 4) then _ else if kin B n (ten B n (L.length + 4)) true = 2 then _ else _) = _
    rw [if_neg (by rw [nuc_0 n2 (by omega)]; simp), if_neg (by omega), n3, if_neg (by rw [s1]; decide), n4]
    rfl
  rw [e1, sem_ok s1 s2]
  rw [show L.length + 4 + 1 + (dgL v).length + 1 = L.length + (4 + 1 + (dgL v).length + 1) by omega]
/-- a statement of a word, then numbers: what its tokens are -/
theorem PS.bars2 (P : PS L S m c N) {v b : Int} (hv : 1 ≤ v ∧ v ≤ 99) (hb : 1 ≤ b ∧ b ≤ 12) (hN : (sN S : Int) + v ≤ 150) : PS (L ++ ([98, 97, 114, 115] ++ (32 :: dgL v ++ (32 :: dgL b ++ [59])))) (addS S v.toNat b) m c N := by
  refine P.add (by simp) (fun B n hB hn => ?_)
  have hl := dg_len (v := v)
  have hl2 := dg_len (v := b)
  have el : ([98, 97, 114, 115] ++ (32 :: dgL v ++ (32 :: dgL b ++ [59])) : List Int).length = 4 + 1 + (dgL v).length + 1 + (dgL b).length + 1 := by simp; omega
  rw [el] at hn ⊢
  obtain ⟨b1, b2⟩ := atL_app hB
  have b3 : atL B L.length ([98, 97, 114, 115] ++ [32]) := (atL_app (K := [98, 97, 114, 115] ++ [32]) (K2 := dgL v ++ (32 :: dgL b ++ [59])) (by simpa using hB)).1
  obtain ⟨w1, w2, w3⟩ := tk_wd (n := n) (by decide) (by decide) b3 (by decide) (by simp; omega)
  have w2' : ten B n L.length = L.length + 4 := w2
  have b4 : atL B (L.length + 4) ((32 :: dgL v ++ [32]) ++ (dgL b ++ [59])) := by
    have : (32 :: dgL v ++ (32 :: dgL b ++ [59]) : List Int) = (32 :: dgL v ++ [32]) ++ (dgL b ++ [59]) := by simp
    rw [this] at b2
    exact b2
  obtain ⟨n1, n2, n3, n4, n5⟩ := tk_dg (n := n) (l := true) (x := L.length + 4) ⟨by omega, by omega⟩ (atL_app b4).1 (by decide) (by omega)
  have b5 : atL B (L.length + 4 + 1 + (dgL v).length) (32 :: dgL b ++ [59]) := by
    have b6 : atL B (L.length + 4) ((32 :: dgL v) ++ (32 :: dgL b ++ [59])) := b2
    have b7 := (atL_app b6).2
    have e : L.length + 4 + (32 :: dgL v).length = L.length + 4 + 1 + (dgL v).length := by simp; omega
    rw [e] at b7
    exact b7
  obtain ⟨m1, m2, m3, m4, m5⟩ := tk_dg (n := n) (l := true) (x := L.length + 4 + 1 + (dgL v).length) ⟨by omega, by omega⟩ b5 (by decide) (by omega)
  obtain ⟨s1, s2⟩ := tk_semi (l := true) (n := n) (x := L.length + 4 + 1 + (dgL v).length + 1 + (dgL b).length) (B := B) (by omega) m5
  refine ⟨by rw [w1]; decide, ?_⟩
  have e1 : pStm B n (L.length, false, S, m, c, N) = .inr (L.length + 4 + 1 + (dgL v).length + 1 + (dgL b).length, true, addS S v.toNat b, m, c, N) := by
    unfold pStm
    show (if kin B n L.length false ≠ 1 then _ else if twv B n L.length = 67155 then pBars B n (ten B n L.length) _ else _) = _
    rw [if_neg (by rw [w1]; simp), if_pos (by rw [w3]; decide), w2']
    unfold pBars
    show (if nuc B n (L.length + 4) true 99 ≠ 0 then _ else if (150 : Int) < (sN S : Nat) + tnv B n (L.length + 4) then _ else if kin B n (ten B n (L.length + 4)) true = 2 then (if nuc B n (ten B n (L.length + 4)) true 12 ≠ 0 then _ else _) else _) = _
    rw [if_neg (by rw [nuc_0 n2 (by omega)]; simp), if_neg (by omega), n3, if_pos m2, if_neg (by rw [nuc_0 m2 (by omega)]; simp), n4, m3, m4]
    rfl
  rw [e1, sem_ok s1 s2]
  rw [show L.length + 4 + 1 + (dgL v).length + 1 + (dgL b).length + 1 = L.length + (4 + 1 + (dgL v).length + 1 + (dgL b).length + 1) by omega]
/-- a statement of a word and a number -/
theorem PS.one (P : PS L S m c N) {W : List Int} (hW : 1 ≤ W.length ∧ W.length ≤ 6) (hW2 : ∀ a ∈ W, 97 ≤ a ∧ a ≤ 122) {v : Int} (hv : 1 ≤ v ∧ v ≤ 99) {m' c' : Nat} (h : ∀ (B : Int → Int) (n x : Nat), kin B n L.length false = 1 → twv B n L.length = wl W → ten B n L.length = x → kin B n x true = 2 → tnv B n x = v → pStm B n (L.length, false, S, m, c, N) = .inr (ten B n x, true, S', m', c', N)) : PS (L ++ (W ++ (32 :: dgL v ++ [59]))) S' m' c' N := by
  refine P.add (by simp; omega) (fun B n hB hn => ?_)
  have hl := dg_len (v := v)
  have el : (W ++ (32 :: dgL v ++ [59]) : List Int).length = W.length + 1 + (dgL v).length + 1 := by simp; omega
  rw [el] at hn ⊢
  obtain ⟨b1, b2⟩ := atL_app hB
  have b3 : atL B L.length (W ++ [32]) := (atL_app (K := W ++ [32]) (K2 := dgL v ++ [59]) (by simpa using hB)).1
  obtain ⟨w1, w2, w3⟩ := tk_wd (n := n) hW hW2 b3 (by decide) (by omega)
  obtain ⟨n1, n2, n3, n4, n5⟩ := tk_dg (n := n) (l := true) (x := L.length + W.length) ⟨by omega, by omega⟩ b2 (by decide) (by omega)
  obtain ⟨s1, s2⟩ := tk_semi (l := true) (n := n) (x := L.length + W.length + 1 + (dgL v).length) (B := B) (by omega) n5
  refine ⟨by rw [w1]; decide, ?_⟩
  rw [h B n _ w1 w3 w2 n2 n4, n3, sem_ok s1 s2]
  rw [show L.length + W.length + 1 + (dgL v).length + 1 = L.length + (W.length + 1 + (dgL v).length + 1) by omega]
theorem PS.mark (P : PS L S m c N) {v : Int} (hv : 1 ≤ v ∧ v ≤ 99) (hN : v ≤ sN S) (hm : m < 20) (hd : ∀ q : Nat, q < m → sM S ((q : Int) + 1) ≠ v - 1) : PS (L ++ ([109, 97, 114, 107] ++ (32 :: dgL v ++ [59]))) (markS S ((m + 1 : Nat) : Int) (v - 1)) (m + 1) c N := by
  refine P.one (by decide) (by decide) hv (fun B n x h1 h2 h3 h4 h5 => ?_)
  unfold pStm
  show (if kin B n L.length false ≠ 1 then _ else if twv B n L.length = 67155 then _ else if twv B n L.length = 427595 then pMark B n (ten B n L.length) _ else _) = _
  rw [if_neg (by rw [h1]; simp), if_neg (by rw [h2]; decide), if_pos (by rw [h2]; decide), h3]
  unfold pMark
  show (if 20 ≤ m then _ else if nuc B n x true (sN S : Nat) ≠ 0 then _ else if cn (fun l => sM S (l + 1) == tnv B n x - 1) m ≠ 0 then _ else _) = _
  have hc : cn (fun l => sM S (l + 1) == tnv B n x - 1) m = 0 := by
    rw [cn_congr (Q := fun _ => false) (fun q hq => by rw [h5]; simpa using hd q hq)]
    exact cn_nof
  rw [if_neg (by omega), if_neg (by rw [nuc_0 h4 (by omega)]; simp), if_neg (by rw [hc]; simp), h5]
  rfl
theorem PS.text (P : PS L S m c N) {v : Int} (hv : 1 ≤ v ∧ v ≤ 99) (hN : v ≤ sN S) : PS (L ++ ([116, 101, 120, 116] ++ (32 :: dgL v ++ [59]))) (barS S 4 (v - 1) 1) m c N := by
  refine P.one (by decide) (by decide) hv (fun B n x h1 h2 h3 h4 h5 => ?_)
  unfold pStm
  show (if kin B n L.length false ≠ 1 then _ else if twv B n L.length = 67155 then _ else if twv B n L.length = 427595 then _ else if twv B n L.length = 661268 then pFlag B n (ten B n L.length) 4 _ else _) = _
  rw [if_neg (by rw [h1]; simp), if_neg (by rw [h2]; decide), if_neg (by rw [h2]; decide), if_pos (by rw [h2]; decide), h3]
  unfold pFlag
  show (if nuc B n x true (sN S : Nat) ≠ 0 then _ else _) = _
  rw [if_neg (by rw [nuc_0 h4 (by omega)]; simp), h5]
  rfl
theorem PS.double (P : PS L S m c N) {v : Int} (hv : 1 ≤ v ∧ v ≤ 99) (hN : v ≤ sN S) : PS (L ++ ([100, 111, 117, 98, 108, 101] ++ (32 :: dgL v ++ [59]))) (barS S 5 (v - 1) 1) m c N := by
  refine P.one (by decide) (by decide) hv (fun B n x h1 h2 h3 h4 h5 => ?_)
  unfold pStm
  show (if kin B n L.length false ≠ 1 then _ else if twv B n L.length = 67155 then _ else if twv B n L.length = 427595 then _ else if twv B n L.length = 661268 then _ else if twv B n L.length = 150636933 then pFlag B n (ten B n L.length) 5 _ else _) = _
  rw [if_neg (by rw [h1]; simp), if_neg (by rw [h2]; decide), if_neg (by rw [h2]; decide), if_neg (by rw [h2]; decide), if_pos (by rw [h2]; decide), h3]
  unfold pFlag
  show (if nuc B n x true (sN S : Nat) ≠ 0 then _ else _) = _
  rw [if_neg (by rw [nuc_0 h4 (by omega)]; simp), h5]
  rfl
theorem PS.cut (P : PS L S m c N) {v b : Int} (hv : 1 ≤ v ∧ v ≤ 99) (hb : v ≤ b ∧ b ≤ 99) (hN : b ≤ sN S) (hc : c < 10) : PS (L ++ ([99, 117, 116] ++ (32 :: dgL v ++ (32 :: dgL b ++ [59])))) (cutS S c (v - 1) (b - 1)) m (c + 1) N := by
  refine P.add (by simp) (fun B n hB hn => ?_)
  have hl := dg_len (v := v)
  have hl2 := dg_len (v := b)
  have el : ([99, 117, 116] ++ (32 :: dgL v ++ (32 :: dgL b ++ [59])) : List Int).length = 3 + 1 + (dgL v).length + 1 + (dgL b).length + 1 := by simp; omega
  rw [el] at hn ⊢
  obtain ⟨b1, b2⟩ := atL_app hB
  have b3 : atL B L.length ([99, 117, 116] ++ [32]) := (atL_app (K := [99, 117, 116] ++ [32]) (K2 := dgL v ++ (32 :: dgL b ++ [59])) (by simpa using hB)).1
  obtain ⟨w1, w2, w3⟩ := tk_wd (n := n) (by decide) (by decide) b3 (by decide) (by simp; omega)
  have w2' : ten B n L.length = L.length + 3 := w2
  have b4 : atL B (L.length + 3) ((32 :: dgL v ++ [32]) ++ (dgL b ++ [59])) := by
    have : (32 :: dgL v ++ (32 :: dgL b ++ [59]) : List Int) = (32 :: dgL v ++ [32]) ++ (dgL b ++ [59]) := by simp
    rw [this] at b2
    exact b2
  obtain ⟨n1, n2, n3, n4, n5⟩ := tk_dg (n := n) (l := true) (x := L.length + 3) ⟨by omega, by omega⟩ (atL_app b4).1 (by decide) (by omega)
  have b5 : atL B (L.length + 3 + 1 + (dgL v).length) (32 :: dgL b ++ [59]) := by
    have b6 : atL B (L.length + 3) ((32 :: dgL v) ++ (32 :: dgL b ++ [59])) := b2
    have b7 := (atL_app b6).2
    have e : L.length + 3 + (32 :: dgL v).length = L.length + 3 + 1 + (dgL v).length := by simp; omega
    rw [e] at b7
    exact b7
  obtain ⟨m1, m2, m3, m4, m5⟩ := tk_dg (n := n) (l := true) (x := L.length + 3 + 1 + (dgL v).length) ⟨by omega, by omega⟩ b5 (by decide) (by omega)
  obtain ⟨s1, s2⟩ := tk_semi (l := true) (n := n) (x := L.length + 3 + 1 + (dgL v).length + 1 + (dgL b).length) (B := B) (by omega) m5
  refine ⟨by rw [w1]; decide, ?_⟩
  have e1 : pStm B n (L.length, false, S, m, c, N) = .inr (L.length + 3 + 1 + (dgL v).length + 1 + (dgL b).length, true, cutS S c (v - 1) (b - 1), m, c + 1, N) := by
    unfold pStm
    show (if kin B n L.length false ≠ 1 then _ else if twv B n L.length = 67155 then _ else if twv B n L.length = 427595 then _ else if twv B n L.length = 661268 then _ else if twv B n L.length = 150636933 then _ else if twv B n L.length = 3764 then pCut B n (ten B n L.length) _ else _) = _
    rw [if_neg (by rw [w1]; simp), if_neg (by rw [w3]; decide), if_neg (by rw [w3]; decide), if_neg (by rw [w3]; decide), if_neg (by rw [w3]; decide), if_pos (by rw [w3]; decide), w2']
    unfold pCut
    show (if 10 ≤ c then _ else if nuc B n (L.length + 3) true (sN S : Nat) ≠ 0 then _ else if nuc B n (ten B n (L.length + 3)) true (sN S : Nat) ≠ 0 then _ else if tnv B n (ten B n (L.length + 3)) < tnv B n (L.length + 3) then _ else _) = _
    rw [if_neg (by omega), if_neg (by rw [nuc_0 n2 (by omega)]; simp), n3, if_neg (by rw [nuc_0 m2 (by omega)]; simp), if_neg (by omega), n4, m3, m4]
    rfl
  rw [e1, sem_ok s1 s2]
  rw [show L.length + 3 + 1 + (dgL v).length + 1 + (dgL b).length + 1 = L.length + (3 + 1 + (dgL v).length + 1 + (dgL b).length + 1) by omega]
/-- a part's statement, as far as it is told -/
def PP (L : List Int) (S : xSr) (m c : Nat) (N : Int → Int) (K : List Int) (told : Int) (S' : xSr) (N' : Int → Int) : Prop := PS L S m c N ∧ 1 ≤ K.length ∧ ∃ g : Nat, g < K.length ∧ ∀ (B : Int → Int) (n : Nat), atL B L.length K → L.length + K.length < n → (B ((L.length + K.length : Nat) : Int) = 32 ∨ B ((L.length + K.length : Nat) : Int) = 59) → kin B n L.length false ≠ 0 ∧ ∃ x0 : Nat, pStm B n (L.length, false, S, m, c, N) = pGr B n (n - g) (L.length + K.length) told (x0, true, S', m, c, N')
theorem PS.part (P : PS L S m c N) {a : Int} (ha : 97 ≤ a ∧ a ≤ 122) (hp : sP S < 6) (hd : ∀ q : Nat, q < sP S → N q ≠ a - 96) : PP L S m c N ([112, 97, 114, 116] ++ [32, a]) 0 S (up (sP S) (a - 96) N) := by
  refine ⟨P, by simp, 0, by simp, fun B n hB hn hd2 => ?_⟩
  have hn' : L.length + 6 < n := hn
  obtain ⟨b1, b2⟩ := atL_app hB
  have b3 : atL B L.length ([112, 97, 114, 116] ++ [32]) := (atL_app (K := [112, 97, 114, 116] ++ [32]) (K2 := [a]) (by simpa using hB)).1
  obtain ⟨w1, w2, w3⟩ := tk_wd (n := n) (by decide) (by decide) b3 (by decide) (by simp; omega)
  have w2' : ten B n L.length = L.length + 4 := w2
  have b4 : atL B (L.length + 4) (32 :: [a] ++ [B ((L.length + 6 : Nat) : Int)]) := by
    obtain ⟨c1, c2⟩ := atL_cons b2
    have c3 := (atL_cons c2).1
    intro i hi
    simp at hi
    have : i = 0 ∨ i = 1 ∨ i = 2 := by omega
    rcases this with rfl | rfl | rfl
    · exact c1
    · exact c3
    · rfl
  have hd3 : B ((L.length + 6 : Nat) : Int) = 32 ∨ B ((L.length + 6 : Nat) : Int) = 59 := hd2
  obtain ⟨n1, n2, n3, n4⟩ := tk_wd2 (n := n) (l := true) (x := L.length + 4) (K := [a]) (by simp) (fun y hy => by simp at hy; omega) b4 (by omega) (by simp; omega)
  have n3' : ten B n (L.length + 4) = L.length + 6 := n3
  have n4' : twv B n (L.length + 4) = a - 96 := by rw [n4]; unfold wl; simp
  refine ⟨by rw [w1]; decide, L.length + 4, ?_⟩
  unfold pStm
  show (if kin B n L.length false ≠ 1 then _ else if twv B n L.length = 67155 then _ else if twv B n L.length = 427595 then _ else if twv B n L.length = 661268 then _ else if twv B n L.length = 150636933 then _ else if twv B n L.length = 3764 then _ else if twv B n L.length = 525908 then pPart B n (ten B n L.length) _ else _) = _
  rw [if_neg (by rw [w1]; simp), if_neg (by rw [w3]; decide), if_neg (by rw [w3]; decide), if_neg (by rw [w3]; decide), if_neg (by rw [w3]; decide), if_neg (by rw [w3]; decide), if_pos (by rw [w3]; decide), w2']
  unfold pPart
  show (if 6 ≤ sP S then _ else if kin B n (L.length + 4) true ≠ 1 ∨ 6 < ten B n (L.length + 4) - ts B n (L.length + 4) then _ else if cn (fun p => N p == twv B n (L.length + 4)) (sP S) ≠ 0 then _ else _) = _
  have hc : cn (fun p => N p == twv B n (L.length + 4)) (sP S) = 0 := by
    rw [cn_congr (Q := fun _ => false) (fun q hq => by rw [n4']; simpa using hd q hq)]
    exact cn_nof
  rw [if_neg (by omega), if_neg (by rw [n2, n3', n1]; omega), if_neg (by rw [hc]; simp), n3', n4']
  rfl
theorem PP.group {told : Int} {v w : Int} {W : List Int} (P : PP L S m c N K told S' N') (hW : 1 ≤ W.length ∧ W.length ≤ 6) (hW2 : ∀ a ∈ W, 97 ≤ a ∧ a ≤ 122) (hw : cOf (wl W) = w) (hw2 : w ≠ -1) (hv : 1 ≤ v ∧ v ≤ 99) (ht : told + v ≤ sN S') : PP L S m c N (K ++ (32 :: W ++ (32 :: dgL v))) (told + v) (conR S' (sP S') told v w) N' := by
  obtain ⟨P1, hK, g, hg, hP⟩ := P
  have hl := dg_len (v := v)
  have el : (K ++ (32 :: W ++ (32 :: dgL v)) : List Int).length = K.length + 1 + W.length + 1 + (dgL v).length := by simp; omega
  refine ⟨P1, by rw [el]; omega, g + 1, by rw [el]; omega, fun B n hB hn hd => ?_⟩
  rw [el] at hn hd ⊢
  obtain ⟨b1, b2⟩ := atL_app hB
  have b3 := atL_app (K := 32 :: W) b2
  have c1 : B ((L.length + K.length : Nat) : Int) = 32 := (atL_cons (K := W ++ (32 :: dgL v)) (by simpa using b2)).1
  obtain ⟨k1, x0, k2⟩ := hP B n b1 (by omega) (Or.inl c1)
  have b4 : atL B (L.length + K.length) (32 :: W ++ [32]) := (atL_app (K := 32 :: W ++ [32]) (K2 := dgL v) (by simpa using b2)).1
  obtain ⟨n1, n2, n3, n4⟩ := tk_wd2 (n := n) (l := true) (x := L.length + K.length) hW hW2 b4 (by decide) (by omega)
  have e5 : L.length + K.length + (32 :: W).length = L.length + K.length + 1 + W.length := by simp; omega
  have b5 : atL B (L.length + K.length + 1 + W.length) (32 :: dgL v) := by
    have := b3.2
    rw [e5] at this
    exact this
  have b6 : atL B (L.length + K.length + 1 + W.length) (32 :: dgL v ++ [B ((L.length + (K.length + 1 + W.length + 1 + (dgL v).length) : Nat) : Int)]) := by
    intro i hi
    by_cases h : i < (32 :: dgL v).length
    · rw [getD_app_lo h]
      exact b5 i h
    · have hi2 : i = (32 :: dgL v).length := by rw [List.length_append] at hi; simp at hi h ⊢; omega
      rw [getD_app_hi (by omega), hi2]
      simp
      congr 1
      omega
  obtain ⟨m1, m2, m3, m4, m5⟩ := tk_dg (n := n) (l := true) (x := L.length + K.length + 1 + W.length) ⟨by omega, by omega⟩ b6 (by omega) (by omega)
  refine ⟨k1, L.length + K.length, ?_⟩
  rw [k2, show n - g = (n - (g + 1)) + 1 by omega]
  show (if kin B n (L.length + K.length) true ≠ 1 then _ else if cOf (twv B n (L.length + K.length)) = -1 then _ else if nuc B n (ten B n (L.length + K.length)) true (min 99 ((sN S' : Nat) - told)) ≠ 0 then _ else _) = _
  rw [if_neg (by rw [n2]; simp), n4, hw, if_neg hw2, n3, if_neg (by rw [nuc_0 m2 (by omega)]; simp), m3, m4]
  rw [show L.length + K.length + 1 + W.length + 1 + (dgL v).length = L.length + (K.length + 1 + W.length + 1 + (dgL v).length) by omega]
  rfl
theorem PP.fin {told : Int} (P : PP L S m c N K told S' N') : PS (L ++ (K ++ [59])) (parS S') m c N' := by
  obtain ⟨P1, hK, g, hg, hP⟩ := P
  refine P1.add (by simp) (fun B n hB hn => ?_)
  have el : (K ++ [59] : List Int).length = K.length + 1 := by simp
  rw [el] at hn ⊢
  obtain ⟨b1, b2⟩ := atL_app hB
  have c1 := (atL_cons b2).1
  obtain ⟨k1, x0, k2⟩ := hP B n b1 (by omega) (Or.inr c1)
  obtain ⟨s1, s2⟩ := tk_semi (l := true) (n := n) (x := L.length + K.length) (B := B) (by omega) c1
  refine ⟨k1, ?_⟩
  have e1 : pStm B n (L.length, false, S, m, c, N) = .inr (L.length + K.length, true, parS S', m, c, N') := by
    rw [k2, show n - g = (n - g - 1) + 1 by omega]
    show (if kin B n (L.length + K.length) true ≠ 1 then _ else _) = _
    rw [if_pos (by rw [s1]; simp)]
    rfl
  rw [e1, sem_ok s1 s2]
  rw [Nat.add_assoc]
end PRS
