/-! the law's loop and its start (by program, wip/whole/genW.py) -/
def lHd : List Nat := [236, 340, 396, 409, 422, 435, 491, 559, 615, 628, 641, 654, 738, 794, 807, 875, 943, 999, 1012, 1080, 1136, 1192, 1272, 1340, 1396, 1464, 1520, 1583, 1639, 1719, 1775, 1855, 1911, 1979, 2035, 2103, 2159, 2172, 2185, 2265, 2345, 2401, 2445, 2458, 2514]
/-- from the head of a case -/
def LC (b L : Nat) (f : Int → Int) (t : Nat) : Prop := ∀ (A : xAb) (M : xM) (h : xH) (ls : xL) (c n : Nat) (i : Int) (K : xJT), CW A M h → MW A M h → LL b ls i → (0 ≤ i ∧ i + 6 ≤ L) → c + 100 ≤ 601024 → n + 3000 ≤ 7293034 → aI A ≤ 49980 → LKo A b i c n K → x_gc (x_blk bL_law t) x_Cal (lE b L f) (wpG x_Cal (lE b L f) bL_law K LPh 20) LPh ls [] M h c n
section LOOP
variable {b L : Nat} {f : Int → Int}
set_option maxHeartbeats 4000000
theorem LC_feed (hL : L ≤ 3072) (hf : ∀ j : Int, 0 ≤ j → j < L → x_i32 (f j)) : LC b L f 236 := fun A M h ls c n i K C W l hi hc hn1 hI k => by
  rw [eL_236, wq_gc]
  exact case_feed C W l hi hL hf hc hn1 hI k
theorem LC_load (hL : L ≤ 3072) (hf : ∀ j : Int, 0 ≤ j → j < L → x_i32 (f j)) : LC b L f 340 := fun A M h ls c n i K C W l hi hc hn1 hI k => by
  rw [eL_340, wq_gc]
  exact case_load C W l hi hL hf hc hn1 hI k
theorem LC_errorCode (hL : L ≤ 3072) (hf : ∀ j : Int, 0 ≤ j → j < L → x_i32 (f j)) : LC b L f 396 := fun A M h ls c n i K C W l hi hc hn1 hI k => by
  rw [eL_396, wq_gc]
  exact case_errorCode C W l hi hL hf hc hn1 hI k
theorem LC_errorPosition (hL : L ≤ 3072) (hf : ∀ j : Int, 0 ≤ j → j < L → x_i32 (f j)) : LC b L f 409 := fun A M h ls c n i K C W l hi hc hn1 hI k => by
  rw [eL_409, wq_gc]
  exact case_errorPosition C W l hi hL hf hc hn1 hI k
theorem LC_bars (hL : L ≤ 3072) (hf : ∀ j : Int, 0 ≤ j → j < L → x_i32 (f j)) : LC b L f 422 := fun A M h ls c n i K C W l hi hc hn1 hI k => by
  rw [eL_422, wq_gc]
  exact case_bars C W l hi hL hf hc hn1 hI k
theorem LC_barAt (hL : L ≤ 3072) (hf : ∀ j : Int, 0 ≤ j → j < L → x_i32 (f j)) : LC b L f 435 := fun A M h ls c n i K C W l hi hc hn1 hI k => by
  rw [eL_435, wq_gc]
  exact case_barAt C W l hi hL hf hc hn1 hI k
theorem LC_bar (hL : L ≤ 3072) (hf : ∀ j : Int, 0 ≤ j → j < L → x_i32 (f j)) : LC b L f 491 := fun A M h ls c n i K C W l hi hc hn1 hI k => by
  rw [eL_491, wq_gc]
  exact case_bar C W l hi hL hf hc hn1 hI k
theorem LC_labelled (hL : L ≤ 3072) (hf : ∀ j : Int, 0 ≤ j → j < L → x_i32 (f j)) : LC b L f 559 := fun A M h ls c n i K C W l hi hc hn1 hI k => by
  rw [eL_559, wq_gc]
  exact case_labelled C W l hi hL hf hc hn1 hI k
theorem LC_played (hL : L ≤ 3072) (hf : ∀ j : Int, 0 ≤ j → j < L → x_i32 (f j)) : LC b L f 615 := fun A M h ls c n i K C W l hi hc hn1 hI k => by
  rw [eL_615, wq_gc]
  exact case_played C W l hi hL hf hc hn1 hI k
theorem LC_beats (hL : L ≤ 3072) (hf : ∀ j : Int, 0 ≤ j → j < L → x_i32 (f j)) : LC b L f 628 := fun A M h ls c n i K C W l hi hc hn1 hI k => by
  rw [eL_628, wq_gc]
  exact case_beats C W l hi hL hf hc hn1 hI k
theorem LC_cuts (hL : L ≤ 3072) (hf : ∀ j : Int, 0 ≤ j → j < L → x_i32 (f j)) : LC b L f 641 := fun A M h ls c n i K C W l hi hc hn1 hI k => by
  rw [eL_641, wq_gc]
  exact case_cuts C W l hi hL hf hc hn1 hI k
theorem LC_cut (hL : L ≤ 3072) (hf : ∀ j : Int, 0 ≤ j → j < L → x_i32 (f j)) : LC b L f 654 := fun A M h ls c n i K C W l hi hc hn1 hI k => by
  rw [eL_654, wq_gc]
  exact case_cut C W l hi hL hf hc hn1 hI k
theorem LC_hiddenBy (hL : L ≤ 3072) (hf : ∀ j : Int, 0 ≤ j → j < L → x_i32 (f j)) : LC b L f 738 := fun A M h ls c n i K C W l hi hc hn1 hI k => by
  rw [eL_738, wq_gc]
  exact case_hiddenBy C W l hi hL hf hc hn1 hI k
theorem LC_marks (hL : L ≤ 3072) (hf : ∀ j : Int, 0 ≤ j → j < L → x_i32 (f j)) : LC b L f 794 := fun A M h ls c n i K C W l hi hc hn1 hI k => by
  rw [eL_794, wq_gc]
  exact case_marks C W l hi hL hf hc hn1 hI k
theorem LC_mark (hL : L ≤ 3072) (hf : ∀ j : Int, 0 ≤ j → j < L → x_i32 (f j)) : LC b L f 807 := fun A M h ls c n i K C W l hi hc hn1 hI k => by
  rw [eL_807, wq_gc]
  exact case_mark C W l hi hL hf hc hn1 hI k
theorem LC_from (hL : L ≤ 3072) (hf : ∀ j : Int, 0 ≤ j → j < L → x_i32 (f j)) : LC b L f 875 := fun A M h ls c n i K C W l hi hc hn1 hI k => by
  rw [eL_875, wq_gc]
  exact case_from C W l hi hL hf hc hn1 hI k
theorem LC_called (hL : L ≤ 3072) (hf : ∀ j : Int, 0 ≤ j → j < L → x_i32 (f j)) : LC b L f 943 := fun A M h ls c n i K C W l hi hc hn1 hI k => by
  rw [eL_943, wq_gc]
  exact case_called C W l hi hL hf hc hn1 hI k
theorem LC_parts (hL : L ≤ 3072) (hf : ∀ j : Int, 0 ≤ j → j < L → x_i32 (f j)) : LC b L f 999 := fun A M h ls c n i K C W l hi hc hn1 hI k => by
  rw [eL_999, wq_gc]
  exact case_parts C W l hi hL hf hc hn1 hI k
theorem LC_content (hL : L ≤ 3072) (hf : ∀ j : Int, 0 ≤ j → j < L → x_i32 (f j)) : LC b L f 1012 := fun A M h ls c n i K C W l hi hc hn1 hI k => by
  rw [eL_1012, wq_gc]
  exact case_content C W l hi hL hf hc hn1 hI k
theorem LC_reason (hL : L ≤ 3072) (hf : ∀ j : Int, 0 ≤ j → j < L → x_i32 (f j)) : LC b L f 1080 := fun A M h ls c n i K C W l hi hc hn1 hI k => by
  rw [eL_1080, wq_gc]
  exact case_reason C W l hi hL hf hc hn1 hI k
theorem LC_items (hL : L ≤ 3072) (hf : ∀ j : Int, 0 ≤ j → j < L → x_i32 (f j)) : LC b L f 1136 := fun A M h ls c n i K C W l hi hc hn1 hI k => by
  rw [eL_1136, wq_gc]
  exact case_items C W l hi hL hf hc hn1 hI k
theorem LC_item (hL : L ≤ 3072) (hf : ∀ j : Int, 0 ≤ j → j < L → x_i32 (f j)) : LC b L f 1192 := fun A M h ls c n i K C W l hi hc hn1 hI k => by
  rw [eL_1192, wq_gc]
  exact case_item C W l hi hL hf hc hn1 hI k
theorem LC_itemOf (hL : L ≤ 3072) (hf : ∀ j : Int, 0 ≤ j → j < L → x_i32 (f j)) : LC b L f 1272 := fun A M h ls c n i K C W l hi hc hn1 hI k => by
  rw [eL_1272, wq_gc]
  exact case_itemOf C W l hi hL hf hc hn1 hI k
theorem LC_longestRest (hL : L ≤ 3072) (hf : ∀ j : Int, 0 ≤ j → j < L → x_i32 (f j)) : LC b L f 1340 := fun A M h ls c n i K C W l hi hc hn1 hI k => by
  rw [eL_1340, wq_gc]
  exact case_longestRest C W l hi hL hf hc hn1 hI k
theorem LC_waiting (hL : L ≤ 3072) (hf : ∀ j : Int, 0 ≤ j → j < L → x_i32 (f j)) : LC b L f 1396 := fun A M h ls c n i K C W l hi hc hn1 hI k => by
  rw [eL_1396, wq_gc]
  exact case_waiting C W l hi hL hf hc hn1 hI k
theorem LC_sounding (hL : L ≤ 3072) (hf : ∀ j : Int, 0 ≤ j → j < L → x_i32 (f j)) : LC b L f 1464 := fun A M h ls c n i K C W l hi hc hn1 hI k => by
  rw [eL_1464, wq_gc]
  exact case_sounding C W l hi hL hf hc hn1 hI k
theorem LC_isPrinted (hL : L ≤ 3072) (hf : ∀ j : Int, 0 ≤ j → j < L → x_i32 (f j)) : LC b L f 1520 := fun A M h ls c n i K C W l hi hc hn1 hI k => by
  rw [eL_1520, wq_gc]
  exact case_isPrinted C W l hi hL hf hc hn1 hI k
theorem LC_errata (hL : L ≤ 3072) (hf : ∀ j : Int, 0 ≤ j → j < L → x_i32 (f j)) : LC b L f 1583 := fun A M h ls c n i K C W l hi hc hn1 hI k => by
  rw [eL_1583, wq_gc]
  exact case_errata C W l hi hL hf hc hn1 hI k
theorem LC_erratum (hL : L ≤ 3072) (hf : ∀ j : Int, 0 ≤ j → j < L → x_i32 (f j)) : LC b L f 1639 := fun A M h ls c n i K C W l hi hc hn1 hI k => by
  rw [eL_1639, wq_gc]
  exact case_erratum C W l hi hL hf hc hn1 hI k
theorem LC_misled (hL : L ≤ 3072) (hf : ∀ j : Int, 0 ≤ j → j < L → x_i32 (f j)) : LC b L f 1719 := fun A M h ls c n i K C W l hi hc hn1 hI k => by
  rw [eL_1719, wq_gc]
  exact case_misled C W l hi hL hf hc hn1 hI k
theorem LC_insert (hL : L ≤ 3072) (hf : ∀ j : Int, 0 ≤ j → j < L → x_i32 (f j)) : LC b L f 1775 := fun A M h ls c n i K C W l hi hc hn1 hI k => by
  rw [eL_1775, wq_gc]
  exact case_insert C W l hi hL hf hc hn1 hI k
theorem LC_erase (hL : L ≤ 3072) (hf : ∀ j : Int, 0 ≤ j → j < L → x_i32 (f j)) : LC b L f 1855 := fun A M h ls c n i K C W l hi hc hn1 hI k => by
  rw [eL_1855, wq_gc]
  exact case_erase C W l hi hL hf hc hn1 hI k
theorem LC_makeCut (hL : L ≤ 3072) (hf : ∀ j : Int, 0 ≤ j → j < L → x_i32 (f j)) : LC b L f 1911 := fun A M h ls c n i K C W l hi hc hn1 hI k => by
  rw [eL_1911, wq_gc]
  exact case_makeCut C W l hi hL hf hc hn1 hI k
theorem LC_openCut (hL : L ≤ 3072) (hf : ∀ j : Int, 0 ≤ j → j < L → x_i32 (f j)) : LC b L f 1979 := fun A M h ls c n i K C W l hi hc hn1 hI k => by
  rw [eL_1979, wq_gc]
  exact case_openCut C W l hi hL hf hc hn1 hI k
theorem LC_putMark (hL : L ≤ 3072) (hf : ∀ j : Int, 0 ≤ j → j < L → x_i32 (f j)) : LC b L f 2035 := fun A M h ls c n i K C W l hi hc hn1 hI k => by
  rw [eL_2035, wq_gc]
  exact case_putMark C W l hi hL hf hc hn1 hI k
theorem LC_removeMark (hL : L ≤ 3072) (hf : ∀ j : Int, 0 ≤ j → j < L → x_i32 (f j)) : LC b L f 2103 := fun A M h ls c n i K C W l hi hc hn1 hI k => by
  rw [eL_2103, wq_gc]
  exact case_removeMark C W l hi hL hf hc hn1 hI k
theorem LC_reletter (hL : L ≤ 3072) (hf : ∀ j : Int, 0 ≤ j → j < L → x_i32 (f j)) : LC b L f 2159 := fun A M h ls c n i K C W l hi hc hn1 hI k => by
  rw [eL_2159, wq_gc]
  exact case_reletter C W l hi hL hf hc hn1 hI k
theorem LC_renumber (hL : L ≤ 3072) (hf : ∀ j : Int, 0 ≤ j → j < L → x_i32 (f j)) : LC b L f 2172 := fun A M h ls c n i K C W l hi hc hn1 hI k => by
  rw [eL_2172, wq_gc]
  exact case_renumber C W l hi hL hf hc hn1 hI k
theorem LC_setBar (hL : L ≤ 3072) (hf : ∀ j : Int, 0 ≤ j → j < L → x_i32 (f j)) : LC b L f 2185 := fun A M h ls c n i K C W l hi hc hn1 hI k => by
  rw [eL_2185, wq_gc]
  exact case_setBar C W l hi hL hf hc hn1 hI k
theorem LC_setContent (hL : L ≤ 3072) (hf : ∀ j : Int, 0 ≤ j → j < L → x_i32 (f j)) : LC b L f 2265 := fun A M h ls c n i K C W l hi hc hn1 hI k => by
  rw [eL_2265, wq_gc]
  exact case_setContent C W l hi hL hf hc hn1 hI k
theorem LC_print (hL : L ≤ 3072) (hf : ∀ j : Int, 0 ≤ j → j < L → x_i32 (f j)) : LC b L f 2345 := fun A M h ls c n i K C W l hi hc hn1 hI k => by
  rw [eL_2345, wq_gc]
  exact case_print C W l hi hL hf hc hn1 hI k
theorem LC_undo (hL : L ≤ 3072) (hf : ∀ j : Int, 0 ≤ j → j < L → x_i32 (f j)) : LC b L f 2401 := fun A M h ls c n i K C W l hi hc hn1 hI k => by
  rw [eL_2401, wq_gc]
  exact case_undo C W l hi hL hf hc hn1 hI k
theorem LC_undoCount (hL : L ≤ 3072) (hf : ∀ j : Int, 0 ≤ j → j < L → x_i32 (f j)) : LC b L f 2445 := fun A M h ls c n i K C W l hi hc hn1 hI k => by
  rw [eL_2445, wq_gc]
  exact case_undoCount C W l hi hL hf hc hn1 hI k
theorem LC_writePart (hL : L ≤ 3072) (hf : ∀ j : Int, 0 ≤ j → j < L → x_i32 (f j)) : LC b L f 2458 := fun A M h ls c n i K C W l hi hc hn1 hI k => by
  rw [eL_2458, wq_gc]
  exact case_writePart C W l hi hL hf hc hn1 hI k
theorem LC_outputByte (hL : L ≤ 3072) (hf : ∀ j : Int, 0 ≤ j → j < L → x_i32 (f j)) : LC b L f 2514 := fun A M h ls c n i K C W l hi hc hn1 hI k => by
  rw [eL_2514, wq_gc]
  exact case_outputByte C W l hi hL hf hc hn1 hI k
theorem LC_all (hL : L ≤ 3072) (hf : ∀ j : Int, 0 ≤ j → j < L → x_i32 (f j)) : ∀ t ∈ lHd, LC b L f t := List.forall_mem_cons.mpr ⟨LC_feed hL hf, List.forall_mem_cons.mpr ⟨LC_load hL hf, List.forall_mem_cons.mpr ⟨LC_errorCode hL hf, List.forall_mem_cons.mpr ⟨LC_errorPosition hL hf, List.forall_mem_cons.mpr ⟨LC_bars hL hf, List.forall_mem_cons.mpr ⟨LC_barAt hL hf, List.forall_mem_cons.mpr ⟨LC_bar hL hf, List.forall_mem_cons.mpr ⟨LC_labelled hL hf, List.forall_mem_cons.mpr ⟨LC_played hL hf, List.forall_mem_cons.mpr ⟨LC_beats hL hf, List.forall_mem_cons.mpr ⟨LC_cuts hL hf, List.forall_mem_cons.mpr ⟨LC_cut hL hf, List.forall_mem_cons.mpr ⟨LC_hiddenBy hL hf, List.forall_mem_cons.mpr ⟨LC_marks hL hf, List.forall_mem_cons.mpr ⟨LC_mark hL hf, List.forall_mem_cons.mpr ⟨LC_from hL hf, List.forall_mem_cons.mpr ⟨LC_called hL hf, List.forall_mem_cons.mpr ⟨LC_parts hL hf, List.forall_mem_cons.mpr ⟨LC_content hL hf, List.forall_mem_cons.mpr ⟨LC_reason hL hf, List.forall_mem_cons.mpr ⟨LC_items hL hf, List.forall_mem_cons.mpr ⟨LC_item hL hf, List.forall_mem_cons.mpr ⟨LC_itemOf hL hf, List.forall_mem_cons.mpr ⟨LC_longestRest hL hf, List.forall_mem_cons.mpr ⟨LC_waiting hL hf, List.forall_mem_cons.mpr ⟨LC_sounding hL hf, List.forall_mem_cons.mpr ⟨LC_isPrinted hL hf, List.forall_mem_cons.mpr ⟨LC_errata hL hf, List.forall_mem_cons.mpr ⟨LC_erratum hL hf, List.forall_mem_cons.mpr ⟨LC_misled hL hf, List.forall_mem_cons.mpr ⟨LC_insert hL hf, List.forall_mem_cons.mpr ⟨LC_erase hL hf, List.forall_mem_cons.mpr ⟨LC_makeCut hL hf, List.forall_mem_cons.mpr ⟨LC_openCut hL hf, List.forall_mem_cons.mpr ⟨LC_putMark hL hf, List.forall_mem_cons.mpr ⟨LC_removeMark hL hf, List.forall_mem_cons.mpr ⟨LC_reletter hL hf, List.forall_mem_cons.mpr ⟨LC_renumber hL hf, List.forall_mem_cons.mpr ⟨LC_setBar hL hf, List.forall_mem_cons.mpr ⟨LC_setContent hL hf, List.forall_mem_cons.mpr ⟨LC_print hL hf, List.forall_mem_cons.mpr ⟨LC_undo hL hf, List.forall_mem_cons.mpr ⟨LC_undoCount hL hf, List.forall_mem_cons.mpr ⟨LC_writePart hL hf, List.forall_mem_cons.mpr ⟨LC_outputByte hL hf, fun _ h => absurd h List.not_mem_nil⟩⟩⟩⟩⟩⟩⟩⟩⟩⟩⟩⟩⟩⟩⟩⟩⟩⟩⟩⟩⟩⟩⟩⟩⟩⟩⟩⟩⟩⟩⟩⟩⟩⟩⟩⟩⟩⟩⟩⟩⟩⟩⟩⟩⟩
/-- what holds at the cut points: k rounds are behind -/
def LIv (b L : Nat) : xIv := fun t m ls st M h c n => ∃ (A : xAb) (k : Nat), st = [] ∧ (CW A M h ∧ MW A M h) ∧ LL b ls ((6 * k : Nat) : Int) ∧
  ((t = 23 ∧ 6 * k ≤ L ∧ m = 3 * (L - 6 * k) + 2 ∧ aI A ≤ 150 + 20 * k ∧ c ≤ 100 + 18 * k ∧ n ≤ 41000 + 2492 * k) ∨
   (t = 2570 ∧ 6 * k + 6 ≤ L ∧ m = 3 * (L - 6 * k) ∧ aI A ≤ 170 + 20 * k ∧ c ≤ 118 + 18 * k ∧ n ≤ 43492 + 2492 * k) ∨
   (t ∈ lHd ∧ 6 * k + 6 ≤ L ∧ m = 3 * (L - 6 * k) + 1 ∧ aI A ≤ 150 + 20 * k ∧ c ≤ 100 + 18 * k ∧ n ≤ 41000 + 2492 * k))
theorem LL.next {ls : xL} {i : Int} (l : LL b ls i) {v : Int} : LL b (x_up ls 4 (xI v)) v := by
  obtain ⟨l0, l1, l2, l3, l4⟩ := l
  unfold LL
  simp [wq_up, l0, l1, l2, l3, x_nl]
theorem L_step (hL : L ≤ 3072) (hf : ∀ j : Int, 0 ≤ j → j < L → x_i32 (f j)) (t m : Nat) (ls : xL) (st : List xV) (M : xM) (h : xH) (c n : Nat) (I : LIv b L t m ls st M h c n) : x_gc (x_blk bL_law t) x_Cal (lE b L f) (wpG x_Cal (lE b L f) bL_law (fun t2 ls2 st2 M2 h2 c2 n2 => ∃ m2, m2 < m ∧ LIv b L t2 m2 ls2 st2 M2 h2 c2 n2) LPh 20) LPh ls st M h c n := by
  obtain ⟨A, k, rfl, ⟨C, W⟩, l, ⟨rfl, q1, rfl, q3, q4, q5⟩ | ⟨rfl, q1, rfl, q3, q4, q5⟩ | ⟨ht, q1, rfl, q3, q4, q5⟩⟩ := I
  · obtain ⟨l0, l1, l2, l3, l4⟩ := id l
    have hd : 6 * k + 6 ≤ L → ∀ t ∈ lHd, ∃ m2, m2 < 3 * (L - 6 * k) + 2 ∧ LIv b L t m2 ls [] M h c n := fun hk t ht => ⟨3 * (L - 6 * k) + 1, by omega, A, k, rfl, ⟨C, W⟩, l, Or.inr (Or.inr ⟨ht, hk, rfl, q3, q4, q5⟩)⟩
    have h2 : 6 * k + 6 ≤ L → ∃ m2, m2 < 3 * (L - 6 * k) + 2 ∧ LIv b L 2570 m2 ls [] M h c n := fun hk => ⟨3 * (L - 6 * k), by omega, A, k, rfl, ⟨C, W⟩, l, Or.inr (Or.inl ⟨rfl, hk, rfl, by omega, by omega, by omega⟩)⟩
    rw [eL_23]
    simp (disch := omega) only [wq_g3, wq_gc, wq_g, wq_g1, wq_g2, eL_23, eL_2576, iL_law_23, iL_law_2576, eL_2570, lE_1, lE_2, lE_3, lE_4, lE_5, lE_6, w32_of, wps, x_cnd, reduceIte, Nat.reduceAdd, Nat.reduceSub, Nat.reduceEqDiff, Nat.reduceLeDiff, Nat.lt_irrefl, Nat.reduceLT, Int.cast_ofNat_Int, wq_c0, wq_c1, true_and, and_true, and_self, true_implies, forall_const, ne_eq, Decidable.not_not, not_true_eq_false, not_false_eq_true, List.map_nil, List.map_cons, List.sum_nil, List.sum_cons, List.length_cons, List.length_nil, Nat.le_refl, Nat.zero_le, reduceCtorEq, true_or, or_true, false_or, or_false, false_and, and_false, false_implies, Nat.zero_add, Nat.add_zero, Int.reduceEq, Int.reduceNe, Int.reduceLT, Int.reduceLE, Int.reduceNeg, Int.reduceToNat, Nat.not_lt_zero, Int.reduceAdd, eL_236, eL_340, eL_396, eL_409, eL_422, eL_435, eL_491, eL_559, eL_615, eL_628, eL_641, eL_654, eL_738, eL_794, eL_807, eL_875, eL_943, eL_999, eL_1012, eL_1080, eL_1136, eL_1192, eL_1272, eL_1340, eL_1396, eL_1464, eL_1520, eL_1583, eL_1639, eL_1719, eL_1775, eL_1855, eL_1911, eL_1979, eL_2035, eL_2103, eL_2159, eL_2172, eL_2185, eL_2265, eL_2345, eL_2401, eL_2445, eL_2458, eL_2514, l0, l1, l2, l3, l4]
    refine ⟨by omega, fun c0 => ?_, fun c0 => ⟨by omega, ?_⟩⟩
    · exact rfl
    · have hk : 6 * k + 6 ≤ L := by omega
      have hd := hd hk
      have h2 := h2 hk
      (repeat' (first | apply And.intro | intro _))
      all_goals first | exact h2 | exact hd _ (by decide)
  · obtain ⟨l0, l1, l2, l3, l4⟩ := id l
    rw [eL_2570]
    simp (disch := omega) only [wq_g3, wq_gc, wq_g, wq_g1, wq_g2, eL_23, eL_2570, iL_law_23, iL_law_2570, eL_2570, lE_1, lE_2, lE_3, lE_4, lE_5, lE_6, w32_of, wps, x_cnd, reduceIte, Nat.reduceAdd, Nat.reduceSub, Nat.reduceEqDiff, Nat.reduceLeDiff, Nat.lt_irrefl, Nat.reduceLT, Int.cast_ofNat_Int, wq_c0, wq_c1, true_and, and_true, and_self, true_implies, forall_const, ne_eq, Decidable.not_not, not_true_eq_false, not_false_eq_true, List.map_nil, List.map_cons, List.sum_nil, List.sum_cons, List.length_cons, List.length_nil, Nat.le_refl, Nat.zero_le, reduceCtorEq, true_or, or_true, false_or, or_false, false_and, and_false, false_implies, Nat.zero_add, Nat.add_zero, Int.reduceEq, Int.reduceNe, Int.reduceLT, Int.reduceLE, Int.reduceNeg, Int.reduceToNat, Nat.not_lt_zero, Int.reduceAdd, l0, l1, l2, l3, l4]
    refine ⟨3 * (L - 6 * (k + 1)) + 2, by omega, A, k + 1, rfl, ⟨C, W⟩, ?_, Or.inl ⟨rfl, by omega, rfl, by omega, by omega, by omega⟩⟩
    rw [show ((6 * (k + 1) : Nat) : Int) = ((6 * k : Nat) : Int) + 6 by omega]
    exact l.next
  · refine LC_all hL hf t ht A M h ls c n ((6 * k : Nat) : Int) _ C W l (by omega) (by omega) (by omega) (by omega) (fun A' M' h' ls' c' n' C' W' l' a1 a2 a3 => ?_)
    exact ⟨3 * (L - 6 * k), by omega, A', k, rfl, ⟨C', W'⟩, l', Or.inr (Or.inl ⟨rfl, q1, rfl, by omega, by omega, by omega⟩)⟩
/-- the empty memory -/
def lM : xM := fun _ _ => 0
def lH : xH := (fun _ _ => 0, fun _ => 25, fun _ => 0, 1)
theorem L_ok : x_ok lM lH := ⟨Nat.le_refl _, fun id h => absurd (show (25 : Nat) < 25 from h) (by decide), fun id h1 h2 => absurd h2 (Nat.not_lt.mpr h1), fun id => ⟨Int.le_refl _, show (0 : Int) < 2147483648 by decide⟩, fun id i h => absurd (show (25 : Nat) < 25 from h) (by decide), fun id i => Nat.zero_lt_one⟩
theorem L_start : wpG x_Cal (lE b L f) bL_law (fun t ls st M h c n => ∃ m, LIv b L t m ls st M h c n) LPh 20 0 (x_ent [xE b] 0) [] lM lH 0 0 := by
  have e1 : hn (x_new lH 7 0) = 2 := rfl
  have e2 : hK (x_new lH 7 0) 1 = 7 := rfl
  have e3 : hn lH = 1 := rfl
  simp (disch := omega) only [wq_g3, wq_gc, wq_g, wq_g1, wq_g2, eL_0, eL_23, iL_law_0, iL_law_23, eL_2570, lE_1, lE_2, lE_3, lE_4, lE_5, lE_6, w32_of, wps, x_cnd, reduceIte, Nat.reduceAdd, Nat.reduceSub, Nat.reduceEqDiff, Nat.reduceLeDiff, Nat.lt_irrefl, Nat.reduceLT, Int.cast_ofNat_Int, wq_c0, wq_c1, true_and, and_true, and_self, true_implies, forall_const, ne_eq, Decidable.not_not, not_true_eq_false, not_false_eq_true, List.map_nil, List.map_cons, List.sum_nil, List.sum_cons, List.length_cons, List.length_nil, Nat.le_refl, Nat.zero_le, reduceCtorEq, true_or, or_true, false_or, or_false, false_and, and_false, false_implies, Nat.zero_add, Nat.add_zero, Int.reduceEq, Int.reduceNe, Int.reduceLT, Int.reduceLE, Int.reduceNeg, Int.reduceToNat, Nat.not_lt_zero, Int.reduceAdd, e1, e2, e3, x_N]
  (repeat refine And.intro (by omega) ?_)
  refine cP_init e1 e2 (fun M1 h1 P1 n1 => ?_)
  have k41 : hK (x_new h1 8 0) 41 = 8 := by simp only [hK_new, n1, if_true]
  have n42 : hn (x_new h1 8 0) = 42 := by simp only [hn_new, n1]
  simp (disch := omega) only [wq_g3, wq_gc, wq_g, wq_g1, wq_g2, eL_0, eL_23, iL_law_0, iL_law_23, eL_2570, lE_1, lE_2, lE_3, lE_4, lE_5, lE_6, w32_of, wps, x_cnd, reduceIte, Nat.reduceAdd, Nat.reduceSub, Nat.reduceEqDiff, Nat.reduceLeDiff, Nat.lt_irrefl, Nat.reduceLT, Int.cast_ofNat_Int, wq_c0, wq_c1, true_and, and_true, and_self, true_implies, forall_const, ne_eq, Decidable.not_not, not_true_eq_false, not_false_eq_true, List.map_nil, List.map_cons, List.sum_nil, List.sum_cons, List.length_cons, List.length_nil, Nat.le_refl, Nat.zero_le, reduceCtorEq, true_or, or_true, false_or, or_false, false_and, and_false, false_implies, Nat.zero_add, Nat.add_zero, Int.reduceEq, Int.reduceNe, Int.reduceLT, Int.reduceLE, Int.reduceNeg, Int.reduceToNat, Nat.not_lt_zero, Int.reduceAdd, n1, n42, k41, x_N]
  (repeat refine And.intro (by omega) ?_)
  refine cM_init n42 k41 (fun j => by rw [x_z_at, n1, if_pos rfl]) (fun M2 f2 I2 => ?_)
  have n57 : hn (mdH (x_new h1 8 0)) = 57 := mdH_n n42
  simp (disch := omega) only [wq_g3, wq_gc, wq_g, wq_g1, wq_g2, eL_0, eL_23, iL_law_0, iL_law_23, eL_2570, lE_1, lE_2, lE_3, lE_4, lE_5, lE_6, w32_of, wps, x_cnd, reduceIte, Nat.reduceAdd, Nat.reduceSub, Nat.reduceEqDiff, Nat.reduceLeDiff, Nat.lt_irrefl, Nat.reduceLT, Int.cast_ofNat_Int, wq_c0, wq_c1, true_and, and_true, and_self, true_implies, forall_const, ne_eq, Decidable.not_not, not_true_eq_false, not_false_eq_true, List.map_nil, List.map_cons, List.sum_nil, List.sum_cons, List.length_cons, List.length_nil, Nat.le_refl, Nat.zero_le, reduceCtorEq, true_or, or_true, false_or, or_false, false_and, and_false, false_implies, Nat.zero_add, Nat.add_zero, Int.reduceEq, Int.reduceNe, Int.reduceLT, Int.reduceLE, Int.reduceNeg, Int.reduceToNat, Nat.not_lt_zero, Int.reduceAdd, n57]
  (repeat refine And.intro (by omega) ?_)
  generalize hh3 : x_new (mdH (x_new h1 8 0)) 22 1 = h3
  generalize hM3 : x_z M2 (mdH (x_new h1 8 0)) = M3
  have fM : ∀ a j, a < 57 → M3 a j = M2 a j := fun a j ha => by rw [← hM3, x_z_at, n57, if_neg (by omega)]
  have H57 : HE (mdH (x_new h1 8 0)) h3 57 := fun a ha => by
    rw [← hh3]
    refine ⟨?_, ?_, fun i => ?_⟩
    · rw [hK_new, n57, if_neg (by omega)]
    · rw [hL_new, n57, if_neg (by omega)]
    · rw [hP_new, n57, if_neg (by omega)]
  have H41 : HE h1 h3 41 := fun a ha => by
    obtain ⟨g1, g2, g3⟩ := H57 a (by omega)
    refine ⟨?_, ?_, fun i => ?_⟩
    · rw [g1, mdH_K n42, if_neg (by omega), hK_new, n1, if_neg (by omega)]
    · rw [g2, mdH_L n42, if_neg (by omega), hL_new, n1, if_neg (by omega)]
    · rw [g3, mdH_P0 n42 ha, hP_new, n1, if_neg (by omega)]
  have P3 : PI M3 h3 := P1.mv H41 (fun a j ha => by rw [fM a j (by omega), f2 a j ha, x_z_at, n1, if_neg (by omega)])
  have I3 : MI M3 h3 := I2.mv H57 fM
  have F3 : Fx h3 := St_Fx P3 I3 (by rw [← hh3, hK_new, n57, if_pos rfl]) (by rw [← hh3, hL_new, n57, if_pos rfl]) (by rw [← hh3, hn_new, n57]; exact Nat.le_refl _)
  refine ⟨3 * (L - 6 * 0) + 2, A0, 0, rfl, ⟨St_CW P3 F3, St_MW I3 F3⟩, ?_, Or.inl ⟨rfl, by omega, rfl, by decide, by omega, by omega⟩⟩
  unfold LL
  simp [wq_up, wq_ent, wq_ent0, x_nl, x_cat]
end LOOP
