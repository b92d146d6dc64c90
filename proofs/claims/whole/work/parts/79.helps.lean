/-! the law's helpers (by program, wip/whole/genH.py) -/
/-- what a helper leaves: the exception's number, or 0 and the answer in out -/
def LA (ex : Nat → Int) (an : xAn) (j : Int) (M : xM) : Prop := match an with
  | .inl v => j = 0 ∧ M 57 0 = v
  | .inr e => j = ex e ∧ j ≠ 0
def anOut (A : xAb) (i : Int) : xAn := if 0 ≤ i ∧ i < (aO A).length then .inl ((aO A).getD i.toNat 0) else .inr 3
/-- the handlers take these exceptions, in this order -/
def y_exb (z : xMD) (l : List Nat) : Bool := l.all fun e => match y_find (x_hh z) e 0 with
  | some (_, j) => decide ((j : Int) = xk l e ∧ j ≠ 0)
  | none => false
theorem y_ex {z : xMD} {l : List Nat} (h : y_exb z l = true) {e : Nat} (he : e ∈ l) : ∃ t j, y_find (x_hh z) e 0 = some (t, j) ∧ (j : Int) = xk l e ∧ (j : Int) ≠ 0 := by
  have h1 := List.all_eq_true.mp h e he
  split at h1
  · rename_i t j hf
    rw [decide_eq_true_eq] at h1
    exact ⟨t, j, hf, h1.1, by omega⟩
  · cases h1
section HELPS
variable {A A' : xAb} {M M' : xM} {h h' : xH} {Φ : xO → xM → xH → Prop}
set_option maxHeartbeats 1000000
theorem CW.k1 (C : CW A M h) : hK h 1 = 7 := by
  have F := C.F
  simp only [fxs F]
theorem CW.fm36 (C : CW A M h) (f : ∀ a j, ¬ (a = 36 ∧ 0 ≤ j ∧ j ≤ 2) → M' a j = M a j) : CW A M' h := C.same36 (fun a j ha => f a j (by omega))
theorem MW.fm36 (W : MW A M h) (f : ∀ a j, ¬ (a = 36 ∧ 0 ≤ j ∧ j ≤ 2) → M' a j = M a j) : MW A M' h := W.frame (fun a j ha => f a j (by omega)) (fun j _ => f 41 j (by omega))
theorem y_ans {z : xMD} {sh : Bool} {an : xAn} {l : List Nat} (C : CW A' M' h') (W : MW A M' h') (he : ∀ {e : Nat}, an = .inr e → e ∈ l) (hx : ∀ {e : Nat}, e ∈ l → ∃ t j, y_find (x_hh z) e 0 = some (t, j) ∧ (j : Int) = xk l e ∧ (j : Int) ≠ 0) (hv : ∀ v, an = .inl v → sh = true → v = 0 ∨ v = 1) (k : ∀ (j : Int) M' h', CW A' M' h' → MW A M' h' → LA (xk l) an j M' → Φ (.inl (some (xI j))) M' h') : y_P z sh 57 Φ (xo an) M' h' := by
  cases an with
  | inl v =>
    obtain ⟨k1, k2⟩ := C.k57
    exact ⟨⟨k1, by omega, hv v rfl⟩, k 0 _ h' C.o57 W.o57 ⟨rfl, w_eq⟩⟩
  | inr e =>
    obtain ⟨t, j, f1, f2, f3⟩ := hx (he rfl)
    exact ⟨t, j, f1, k j M' h' C W ⟨f2, f3⟩⟩
theorem anPrinted_01 {S : xSr} {part v : Int} (h : anPrinted S part = .inl v) : v = 0 ∨ v = 1 := by
  unfold anPrinted anPt at h
  split at h
  · cases h
    have := b01_r (p := sQ S part = 1)
    omega
  · cases h
theorem hL_feed : y_ok zL_feed zP_feed 5 false 7 11 23 532 533 534 107 535 = true := by decide +kernel
theorem eE_feed {A : xAb} {v1 v2 v3 v4 v5 : Int} {e : Nat} (h : (dFeed A v1 v2 v3 v4 v5).1 = .inr e) : e ∈ ([0] : List Nat) := by
  unfold dFeed at h
  (repeat' split at h) <;> first | cases h <;> decide | cases h
theorem cG_feed (C : CW A M h) (W : MW A M h) {v1 v2 v3 v4 v5 : Int}  (k : ∀ (j : Int) M' h', CW (dFeed A v1 v2 v3 v4 v5).2 M' h' → MW A M' h' → LA (xk [0]) ((dFeed A v1 v2 v3 v4 v5).1) j M' → Φ (.inl (some (xI j))) M' h') : x_Cal zL_feed [xA 1, xI v1, xI v2, xI v3, xI v4, xI v5, xA 57] M h Φ := by
  refine y_help hL_feed (xs := [v1, v2, v3, v4, v5]) rfl C.k1 ?_
  exact cP_feed C (fun M' h' C' f => y_ans C' (W.fr f C'.F) eE_feed (y_ex (l := [0]) (by decide +kernel)) (fun v hv h => by cases h) k)
theorem hL_load : y_ok zL_load zP_load 1 false 15 4 18 608 609 610 107 611 = true := by decide +kernel
theorem eE_load {A : xAb} {len : Int} {e : Nat} (h : (dLoad A len).1 = .inr e) : e ∈ ([1, 0] : List Nat) := by
  unfold dLoad at h
  (repeat' split at h) <;> first | cases h <;> decide | cases h
theorem cG_load (C : CW A M h) (W : MW A M h) {len : Int}  (k : ∀ (j : Int) M' h', CW (dLoad A len).2 M' h' → MW A M' h' → LA (xk [1, 0]) ((dLoad A len).1) j M' → Φ (.inl (some (xI j))) M' h') : x_Cal zL_load [xA 1, xI len, xA 57] M h Φ := by
  refine y_help hL_load (xs := [len]) rfl C.k1 ?_
  exact cP_load C (fun M' h' C' f => y_ans C' (W.fr f C'.F) eE_load (y_ex (l := [1, 0]) (by decide +kernel)) (fun v hv h => by cases h) k)
theorem hL_barAt : y_ok zL_barAt zP_barAt 1 false 21 4 15 794 795 796 107 797 = true := by decide +kernel
theorem eE_barAt {A : xAb} {p : Int} {e : Nat} (h : anBarAt (aS A) p = .inr e) : e ∈ ([2] : List Nat) := by
  unfold anBarAt at h
  (repeat' split at h) <;> first | cases h <;> decide | cases h
theorem cG_barAt (C : CW A M h) (W : MW A M h) {p : Int}  (k : ∀ (j : Int) M' h', CW A M' h' → MW A M' h' → LA (xk [2]) (anBarAt (aS A) p) j M' → Φ (.inl (some (xI j))) M' h') : x_Cal zL_barAt [xA 1, xI p, xA 57] M h Φ := by
  refine y_help hL_barAt (xs := [p]) rfl C.k1 ?_
  exact cP_barAt C (y_ans C W eE_barAt (y_ex (l := [2]) (by decide +kernel)) (fun v hv h => by cases h) k)
theorem hL_bar : y_ok zL_bar zP_bar 2 false 26 5 21 816 817 818 107 819 = true := by decide +kernel
theorem eE_bar {A : xAb} {b w : Int} {e : Nat} (h : anBar (aS A) b w = .inr e) : e ∈ ([2, 1] : List Nat) := by
  unfold anBar at h
  (repeat' split at h) <;> first | cases h <;> decide | cases h
theorem cG_bar (C : CW A M h) (W : MW A M h) {b w : Int}  (k : ∀ (j : Int) M' h', CW A M' h' → MW A M' h' → LA (xk [2, 1]) (anBar (aS A) b w) j M' → Φ (.inl (some (xI j))) M' h') : x_Cal zL_bar [xA 1, xI b, xI w, xA 57] M h Φ := by
  refine y_help hL_bar (xs := [b, w]) rfl C.k1 ?_
  exact cP_bar C (y_ans C W eE_bar (y_ex (l := [2, 1]) (by decide +kernel)) (fun v hv h => by cases h) k)
theorem hL_labelled : y_ok zL_labelled zP_labelled 1 false 30 4 15 832 833 834 107 835 = true := by decide +kernel
theorem eE_labelled {A : xAb} {x : Int} {e : Nat} (h : anLabelled (aS A) x = .inr e) : e ∈ ([2] : List Nat) := by
  unfold anLabelled at h
  (repeat' split at h) <;> first | cases h <;> decide | cases h
theorem cG_labelled (C : CW A M h) (W : MW A M h) {x : Int}  (k : ∀ (j : Int) M' h', CW A M' h' → MW A M' h' → LA (xk [2]) (anLabelled (aS A) x) j M' → Φ (.inl (some (xI j))) M' h') : x_Cal zL_labelled [xA 1, xI x, xA 57] M h Φ := by
  refine y_help hL_labelled (xs := [x]) rfl C.k1 ?_
  exact cP_labelled C (y_ans C W eE_labelled (y_ex (l := [2]) (by decide +kernel)) (fun v hv h => by cases h) k)
theorem hL_cut : y_ok zL_cut zP_cut 2 false 33 5 17 839 840 841 107 842 = true := by decide +kernel
theorem eE_cut {A : xAb} {c l : Int} {e : Nat} (h : anCut (aS A) c l = .inr e) : e ∈ ([2] : List Nat) := by
  unfold anCut at h
  (repeat' split at h) <;> first | cases h <;> decide | cases h
theorem cG_cut (C : CW A M h) (W : MW A M h) {c l : Int}  (k : ∀ (j : Int) M' h', CW A M' h' → MW A M' h' → LA (xk [2]) (anCut (aS A) c l) j M' → Φ (.inl (some (xI j))) M' h') : x_Cal zL_cut [xA 1, xI c, xI l, xA 57] M h Φ := by
  refine y_help hL_cut (xs := [c, l]) rfl C.k1 ?_
  exact cP_cut C (y_ans C W eE_cut (y_ex (l := [2]) (by decide +kernel)) (fun v hv h => by cases h) k)
theorem hL_hiddenBy : y_ok zL_hiddenBy zP_hiddenBy 1 false 37 4 15 850 851 852 107 853 = true := by decide +kernel
theorem eE_hiddenBy {A : xAb} {c : Int} {e : Nat} (h : anHidden (aS A) c = .inr e) : e ∈ ([2] : List Nat) := by
  unfold anHidden at h
  (repeat' split at h) <;> first | cases h <;> decide | cases h
theorem cG_hiddenBy (C : CW A M h) (W : MW A M h) {c : Int}  (k : ∀ (j : Int) M' h', CW A M' h' → MW A M' h' → LA (xk [2]) (anHidden (aS A) c) j M' → Φ (.inl (some (xI j))) M' h') : x_Cal zL_hiddenBy [xA 1, xI c, xA 57] M h Φ := by
  refine y_help hL_hiddenBy (xs := [c]) rfl C.k1 ?_
  exact cP_hiddenBy C (y_ans C W eE_hiddenBy (y_ex (l := [2]) (by decide +kernel)) (fun v hv h => by cases h) k)
theorem hL_mark : y_ok zL_mark zP_mark 2 false 40 5 21 861 862 863 107 864 = true := by decide +kernel
theorem eE_mark {A : xAb} {l w : Int} {e : Nat} (h : anMark (aS A) l w = .inr e) : e ∈ ([2, 1] : List Nat) := by
  unfold anMark at h
  (repeat' split at h) <;> first | cases h <;> decide | cases h
theorem cG_mark (C : CW A M h) (W : MW A M h) {l w : Int}  (k : ∀ (j : Int) M' h', CW A M' h' → MW A M' h' → LA (xk [2, 1]) (anMark (aS A) l w) j M' → Φ (.inl (some (xI j))) M' h') : x_Cal zL_mark [xA 1, xI l, xI w, xA 57] M h Φ := by
  refine y_help hL_mark (xs := [l, w]) rfl C.k1 ?_
  exact cP_mark C (y_ans C W eE_mark (y_ex (l := [2, 1]) (by decide +kernel)) (fun v hv h => by cases h) k)
theorem hL_from : y_ok zL_from zP_from 2 false 43 5 17 886 887 888 107 889 = true := by decide +kernel
theorem eE_from {A : xAb} {l n : Int} {e : Nat} (h : anFrom (aS A) l n = .inr e) : e ∈ ([2] : List Nat) := by
  unfold anFrom at h
  (repeat' split at h) <;> first | cases h <;> decide | cases h
theorem cG_from (C : CW A M h) (W : MW A M h) {l n : Int} (h32 : x_i32 n) (k : ∀ (j : Int) M' h', CW A M' h' → MW A M' h' → LA (xk [2]) (anFrom (aS A) l n) j M' → Φ (.inl (some (xI j))) M' h') : x_Cal zL_from [xA 1, xI l, xI n, xA 57] M h Φ := by
  refine y_help hL_from (xs := [l, n]) rfl C.k1 ?_
  exact cP_from C h32 (y_ans C W eE_from (y_ex (l := [2]) (by decide +kernel)) (fun v hv h => by cases h) k)
theorem hL_called : y_ok zL_called zP_called 1 false 46 4 18 893 894 895 107 896 = true := by decide +kernel
theorem eE_called {A : xAb} {b : Int} {e : Nat} (h : anCalled (aS A) b = .inr e) : e ∈ ([2, 0] : List Nat) := by
  unfold anCalled anPl at h
  (repeat' split at h) <;> first | cases h <;> decide | cases h
theorem cG_called (C : CW A M h) (W : MW A M h) {b : Int}  (k : ∀ (j : Int) M' h', CW A M' h' → MW A M' h' → LA (xk [2, 0]) (anCalled (aS A) b) j M' → Φ (.inl (some (xI j))) M' h') : x_Cal zL_called [xA 1, xI b, xA 57] M h Φ := by
  refine y_help hL_called (xs := [b]) rfl C.k1 ?_
  exact cP_called C (y_ans C W eE_called (y_ex (l := [2, 0]) (by decide +kernel)) (fun v hv h => by cases h) k)
theorem hL_content : y_ok zL_content zP_content 2 false 49 5 17 904 905 906 107 907 = true := by decide +kernel
theorem eE_content {A : xAb} {part b : Int} {e : Nat} (h : anContent (aS A) part b = .inr e) : e ∈ ([2] : List Nat) := by
  unfold anContent anPt at h
  (repeat' split at h) <;> first | cases h <;> decide | cases h
theorem cG_content (C : CW A M h) (W : MW A M h) {part b : Int}  (k : ∀ (j : Int) M' h', CW A M' h' → MW A M' h' → LA (xk [2]) (anContent (aS A) part b) j M' → Φ (.inl (some (xI j))) M' h') : x_Cal zL_content [xA 1, xI part, xI b, xA 57] M h Φ := by
  refine y_help hL_content (xs := [part, b]) rfl C.k1 ?_
  exact cP_content C (y_ans C W eE_content (y_ex (l := [2]) (by decide +kernel)) (fun v hv h => by cases h) k)
theorem hL_reason : y_ok zL_reason zP_reason 1 false 52 4 18 919 920 921 107 922 = true := by decide +kernel
theorem eE_reason {A : xAb} {b : Int} {e : Nat} (h : anReason (aS A) b = .inr e) : e ∈ ([2, 0] : List Nat) := by
  unfold anReason anPl at h
  (repeat' split at h) <;> first | cases h <;> decide | cases h
theorem cG_reason (C : CW A M h) (W : MW A M h) {b : Int}  (k : ∀ (j : Int) M' h', CW A M' h' → MW A M' h' → LA (xk [2, 0]) (anReason (aS A) b) j M' → Φ (.inl (some (xI j))) M' h') : x_Cal zL_reason [xA 1, xI b, xA 57] M h Φ := by
  refine y_help hL_reason (xs := [b]) rfl C.k1 ?_
  exact cP_reason C (y_ans C W eE_reason (y_ex (l := [2, 0]) (by decide +kernel)) (fun v hv h => by cases h) k)
theorem hL_items : y_ok zL_items zP_items 1 false 55 4 15 926 927 928 107 929 = true := by decide +kernel
theorem eE_items {A : xAb} {part : Int} {e : Nat} (h : anItems (aS A) part = .inr e) : e ∈ ([2] : List Nat) := by
  unfold anItems anPt at h
  (repeat' split at h) <;> first | cases h <;> decide | cases h
theorem cG_items (C : CW A M h) (W : MW A M h) {part : Int}  (k : ∀ (j : Int) M' h', CW A M' h' → MW A M' h' → LA (xk [2]) (anItems (aS A) part) j M' → Φ (.inl (some (xI j))) M' h') : x_Cal zL_items [xA 1, xI part, xA 57] M h Φ := by
  refine y_help hL_items (xs := [part]) rfl C.k1 ?_
  exact cP_items C (y_ans C W eE_items (y_ex (l := [2]) (by decide +kernel)) (fun v hv h => by cases h) k)
theorem hL_item : y_ok zL_item zP_item 3 false 58 7 27 943 944 945 107 946 = true := by decide +kernel
theorem eE_item {A : xAb} {part i w : Int} {e : Nat} (h : anItem (aS A) part i w = .inr e) : e ∈ ([2, 1, 3] : List Nat) := by
  unfold anItem anPt at h
  (repeat' split at h) <;> first | cases h <;> decide | cases h
theorem cG_item (C : CW A M h) (W : MW A M h) {part i w : Int}  (k : ∀ (j : Int) M' h', CW A M' h' → MW A M' h' → LA (xk [2, 1, 3]) (anItem (aS A) part i w) j M' → Φ (.inl (some (xI j))) M' h') : x_Cal zL_item [xA 1, xI part, xI i, xI w, xA 57] M h Φ := by
  refine y_help hL_item (xs := [part, i, w]) rfl C.k1 ?_
  exact cP_item C (y_ans C W eE_item (y_ex (l := [2, 1, 3]) (by decide +kernel)) (fun v hv h => by cases h) k)
theorem hL_itemOf : y_ok zL_itemOf zP_itemOf 2 false 64 5 21 973 974 975 107 976 = true := by decide +kernel
theorem eE_itemOf {A : xAb} {part b : Int} {e : Nat} (h : anItemOf (aS A) part b = .inr e) : e ∈ ([2, 0] : List Nat) := by
  unfold anItemOf anPt anPl at h
  (repeat' split at h) <;> first | cases h <;> decide | cases h
theorem cG_itemOf (C : CW A M h) (W : MW A M h) {part b : Int}  (k : ∀ (j : Int) M' h', CW A M' h' → MW A M' h' → LA (xk [2, 0]) (anItemOf (aS A) part b) j M' → Φ (.inl (some (xI j))) M' h') : x_Cal zL_itemOf [xA 1, xI part, xI b, xA 57] M h Φ := by
  refine y_help hL_itemOf (xs := [part, b]) rfl C.k1 ?_
  exact cP_itemOf C (y_ans C W eE_itemOf (y_ex (l := [2, 0]) (by decide +kernel)) (fun v hv h => by cases h) k)
theorem hL_longestRest : y_ok zL_longestRest zP_longestRest 1 false 67 4 15 980 981 982 107 983 = true := by decide +kernel
theorem eE_longestRest {A : xAb} {part : Int} {e : Nat} (h : anLongest (aS A) part = .inr e) : e ∈ ([2] : List Nat) := by
  unfold anLongest anPt at h
  (repeat' split at h) <;> first | cases h <;> decide | cases h
theorem cG_longestRest (C : CW A M h) (W : MW A M h) {part : Int}  (k : ∀ (j : Int) M' h', CW A M' h' → MW A M' h' → LA (xk [2]) (anLongest (aS A) part) j M' → Φ (.inl (some (xI j))) M' h') : x_Cal zL_longestRest [xA 1, xI part, xA 57] M h Φ := by
  refine y_help hL_longestRest (xs := [part]) rfl C.k1 ?_
  exact cP_longestRest C (y_ans C W eE_longestRest (y_ex (l := [2]) (by decide +kernel)) (fun v hv h => by cases h) k)
theorem hL_waiting : y_ok zL_waiting zP_waiting 2 false 70 5 21 994 995 996 107 997 = true := by decide +kernel
theorem eE_waiting {A : xAb} {part b : Int} {e : Nat} (h : anWaiting (aS A) part b = .inr e) : e ∈ ([2, 0] : List Nat) := by
  unfold anWaiting anPt anPl at h
  (repeat' split at h) <;> first | cases h <;> decide | cases h
theorem cG_waiting (C : CW A M h) (W : MW A M h) {part b : Int}  (k : ∀ (j : Int) M' h', CW A M' h' → MW A M' h' → LA (xk [2, 0]) (anWaiting (aS A) part b) j M' → Φ (.inl (some (xI j))) M' h') : x_Cal zL_waiting [xA 1, xI part, xI b, xA 57] M h Φ := by
  refine y_help hL_waiting (xs := [part, b]) rfl C.k1 ?_
  exact cP_waiting C (y_ans C W eE_waiting (y_ex (l := [2, 0]) (by decide +kernel)) (fun v hv h => by cases h) k)
theorem hL_sounding : y_ok zL_sounding zP_sounding 1 false 73 4 15 1001 1002 1003 107 1004 = true := by decide +kernel
theorem eE_sounding {A : xAb} {b : Int} {e : Nat} (h : anSounding (aS A) b = .inr e) : e ∈ ([2] : List Nat) := by
  unfold anSounding at h
  (repeat' split at h) <;> first | cases h <;> decide | cases h
theorem cG_sounding (C : CW A M h) (W : MW A M h) {b : Int}  (k : ∀ (j : Int) M' h', CW A M' h' → MW A M' h' → LA (xk [2]) (anSounding (aS A) b) j M' → Φ (.inl (some (xI j))) M' h') : x_Cal zL_sounding [xA 1, xI b, xA 57] M h Φ := by
  refine y_help hL_sounding (xs := [b]) rfl C.k1 ?_
  exact cP_sounding C (y_ans C W eE_sounding (y_ex (l := [2]) (by decide +kernel)) (fun v hv h => by cases h) k)
theorem hL_isPrinted : y_ok zL_isPrinted zP_isPrinted 1 true 76 4 22 1008 1009 1010 107 1011 = true := by decide +kernel
theorem eE_isPrinted {A : xAb} {part : Int} {e : Nat} (h : anPrinted (aS A) part = .inr e) : e ∈ ([2] : List Nat) := by
  unfold anPrinted anPt at h
  (repeat' split at h) <;> first | cases h <;> decide | cases h
theorem cG_isPrinted (C : CW A M h) (W : MW A M h) {part : Int}  (k : ∀ (j : Int) M' h', CW A M' h' → MW A M' h' → LA (xk [2]) (anPrinted (aS A) part) j M' → Φ (.inl (some (xI j))) M' h') : x_Cal zL_isPrinted [xA 1, xI part, xA 57] M h Φ := by
  refine y_help hL_isPrinted (xs := [part]) rfl C.k1 ?_
  exact cP_isPrinted C (y_ans C W eE_isPrinted (y_ex (l := [2]) (by decide +kernel)) (fun v hv _ => anPrinted_01 hv) k)
theorem hL_errata : y_ok zL_errata zP_errata 1 false 80 4 18 1015 1016 1017 107 1018 = true := by decide +kernel
theorem eE_errata {A : xAb} {part : Int} {e : Nat} (h : anErrata (aS A) (aI A) part = .inr e) : e ∈ ([2, 0] : List Nat) := by
  unfold anErrata anPt at h
  (repeat' split at h) <;> first | cases h <;> decide | cases h
theorem cG_errata (C : CW A M h) (W : MW A M h) {part : Int}  (k : ∀ (j : Int) M' h', CW A M' h' → MW A M' h' → LA (xk [2, 0]) (anErrata (aS A) (aI A) part) j M' → Φ (.inl (some (xI j))) M' h') : x_Cal zL_errata [xA 1, xI part, xA 57] M h Φ := by
  refine y_help hL_errata (xs := [part]) rfl C.k1 ?_
  exact cP_errata C (fun M' f => y_ans (C.fm36 f) (W.fm36 f) eE_errata (y_ex (l := [2, 0]) (by decide +kernel)) (fun v hv h => by cases h) k)
theorem hL_erratum : y_ok zL_erratum zP_erratum 3 false 83 7 31 1038 1039 1040 107 1041 = true := by decide +kernel
theorem eE_erratum {A : xAb} {part x w : Int} {e : Nat} (h : anErratum (aS A) (aI A) part x w = .inr e) : e ∈ ([2, 1, 0, 3] : List Nat) := by
  unfold anErratum anPt at h
  (repeat' split at h) <;> first | cases h <;> decide | cases h
theorem cG_erratum (C : CW A M h) (W : MW A M h) {part x w : Int}  (k : ∀ (j : Int) M' h', CW A M' h' → MW A M' h' → LA (xk [2, 1, 0, 3]) (anErratum (aS A) (aI A) part x w) j M' → Φ (.inl (some (xI j))) M' h') : x_Cal zL_erratum [xA 1, xI part, xI x, xI w, xA 57] M h Φ := by
  refine y_help hL_erratum (xs := [part, x, w]) rfl C.k1 ?_
  exact cP_erratum C (fun M' f => y_ans (C.fm36 f) (W.fm36 f) eE_erratum (y_ex (l := [2, 1, 0, 3]) (by decide +kernel)) (fun v hv h => by cases h) k)
theorem hL_misled : y_ok zL_misled zP_misled 1 false 86 4 15 1045 1046 1047 107 1048 = true := by decide +kernel
theorem eE_misled {A : xAb} {l : Int} {e : Nat} (h : anMisled (aS A) (aI A) l = .inr e) : e ∈ ([1] : List Nat) := by
  unfold anMisled at h
  (repeat' split at h) <;> first | cases h <;> decide | cases h
theorem cG_misled (C : CW A M h) (W : MW A M h) {l : Int}  (k : ∀ (j : Int) M' h', CW A M' h' → MW A M' h' → LA (xk [1]) (anMisled (aS A) (aI A) l) j M' → Φ (.inl (some (xI j))) M' h') : x_Cal zL_misled [xA 1, xI l, xA 57] M h Φ := by
  refine y_help hL_misled (xs := [l]) rfl C.k1 ?_
  exact cP_misled C (y_ans C W eE_misled (y_ex (l := [1]) (by decide +kernel)) (fun v hv h => by cases h) k)
theorem hL_insert : y_ok zL_insert zP_insert 3 false 89 7 27 1056 1057 1058 107 1059 = true := by decide +kernel
theorem eE_insert {A : xAb} {after count beats : Int} {e : Nat} (h : (dIns A after count beats).1 = .inr e) : e ∈ ([2, 1, 0] : List Nat) := by
  unfold dIns at h
  (repeat' split at h) <;> first | cases h <;> decide | cases h
theorem cG_insert (C : CW A M h) (W : MW A M h) {after count beats : Int} (hnid : aI A ≤ 49980) (h32 : x_i32 count) (k : ∀ (j : Int) M' h', CW (dIns A after count beats).2 M' h' → MW A M' h' → LA (xk [2, 1, 0]) ((dIns A after count beats).1) j M' → Φ (.inl (some (xI j))) M' h') : x_Cal zL_insert [xA 1, xI after, xI count, xI beats, xA 57] M h Φ := by
  refine y_help hL_insert (xs := [after, count, beats]) rfl C.k1 ?_
  exact cP_insert C hnid h32 (fun M' h' C' f => y_ans C' (W.fr f C'.F) eE_insert (y_ex (l := [2, 1, 0]) (by decide +kernel)) (fun v hv h => by cases h) k)
theorem hL_erase : y_ok zL_erase zP_erase 1 false 92 4 18 1064 1065 1066 107 1067 = true := by decide +kernel
theorem eE_erase {A : xAb} {b : Int} {e : Nat} (h : (dEr A b).1 = .inr e) : e ∈ ([2, 0] : List Nat) := by
  unfold dEr at h
  (repeat' split at h) <;> first | cases h <;> decide | cases h
theorem cG_erase (C : CW A M h) (W : MW A M h) {b : Int}  (k : ∀ (j : Int) M' h', CW (dEr A b).2 M' h' → MW A M' h' → LA (xk [2, 0]) ((dEr A b).1) j M' → Φ (.inl (some (xI j))) M' h') : x_Cal zL_erase [xA 1, xI b, xA 57] M h Φ := by
  refine y_help hL_erase (xs := [b]) rfl C.k1 ?_
  exact cP_erase C (fun M' h' C' f => y_ans C' (W.fr f C'.F) eE_erase (y_ex (l := [2, 0]) (by decide +kernel)) (fun v hv h => by cases h) k)
theorem hL_makeCut : y_ok zL_makeCut zP_makeCut 2 false 95 5 25 1080 1081 1082 107 1083 = true := by decide +kernel
theorem eE_makeCut {A : xAb} {f l : Int} {e : Nat} (h : (dCut A f l).1 = .inr e) : e ∈ ([2, 1, 0] : List Nat) := by
  unfold dCut at h
  (repeat' split at h) <;> first | cases h <;> decide | cases h
theorem cG_makeCut (C : CW A M h) (W : MW A M h) {f l : Int}  (k : ∀ (j : Int) M' h', CW (dCut A f l).2 M' h' → MW A M' h' → LA (xk [2, 1, 0]) ((dCut A f l).1) j M' → Φ (.inl (some (xI j))) M' h') : x_Cal zL_makeCut [xA 1, xI f, xI l, xA 57] M h Φ := by
  refine y_help hL_makeCut (xs := [f, l]) rfl C.k1 ?_
  exact cP_makeCut C (fun M' h' C' f => y_ans C' (W.fr f C'.F) eE_makeCut (y_ex (l := [2, 1, 0]) (by decide +kernel)) (fun v hv h => by cases h) k)
theorem hL_openCut : y_ok zL_openCut zP_openCut 1 false 98 4 15 1092 1093 1094 107 1095 = true := by decide +kernel
theorem eE_openCut {A : xAb} {c : Int} {e : Nat} (h : (dOpen A c).1 = .inr e) : e ∈ ([2] : List Nat) := by
  unfold dOpen at h
  (repeat' split at h) <;> first | cases h <;> decide | cases h
theorem cG_openCut (C : CW A M h) (W : MW A M h) {c : Int}  (k : ∀ (j : Int) M' h', CW (dOpen A c).2 M' h' → MW A M' h' → LA (xk [2]) ((dOpen A c).1) j M' → Φ (.inl (some (xI j))) M' h') : x_Cal zL_openCut [xA 1, xI c, xA 57] M h Φ := by
  refine y_help hL_openCut (xs := [c]) rfl C.k1 ?_
  exact cP_openCut C (fun M' h' C' f => y_ans C' (W.fr f C'.F) eE_openCut (y_ex (l := [2]) (by decide +kernel)) (fun v hv h => by cases h) k)
theorem hL_putMark : y_ok zL_putMark zP_putMark 2 false 101 5 25 1099 1100 1101 107 1102 = true := by decide +kernel
theorem eE_putMark {A : xAb} {l b : Int} {e : Nat} (h : (dPut A l b).1 = .inr e) : e ∈ ([2, 1, 0] : List Nat) := by
  unfold dPut at h
  (repeat' split at h) <;> first | cases h <;> decide | cases h
theorem cG_putMark (C : CW A M h) (W : MW A M h) {l b : Int}  (k : ∀ (j : Int) M' h', CW (dPut A l b).2 M' h' → MW A M' h' → LA (xk [2, 1, 0]) ((dPut A l b).1) j M' → Φ (.inl (some (xI j))) M' h') : x_Cal zL_putMark [xA 1, xI l, xI b, xA 57] M h Φ := by
  refine y_help hL_putMark (xs := [l, b]) rfl C.k1 ?_
  exact cP_putMark C (fun M' h' C' f => y_ans C' (W.fr f C'.F) eE_putMark (y_ex (l := [2, 1, 0]) (by decide +kernel)) (fun v hv h => by cases h) k)
theorem hL_removeMark : y_ok zL_removeMark zP_removeMark 1 false 104 4 15 1107 1108 1109 107 1110 = true := by decide +kernel
theorem eE_removeMark {A : xAb} {l : Int} {e : Nat} (h : (dRem A l).1 = .inr e) : e ∈ ([2] : List Nat) := by
  unfold dRem at h
  (repeat' split at h) <;> first | cases h <;> decide | cases h
theorem cG_removeMark (C : CW A M h) (W : MW A M h) {l : Int}  (k : ∀ (j : Int) M' h', CW (dRem A l).2 M' h' → MW A M' h' → LA (xk [2]) ((dRem A l).1) j M' → Φ (.inl (some (xI j))) M' h') : x_Cal zL_removeMark [xA 1, xI l, xA 57] M h Φ := by
  refine y_help hL_removeMark (xs := [l]) rfl C.k1 ?_
  exact cP_removeMark C (fun M' h' C' f => y_ans C' (W.fr f C'.F) eE_removeMark (y_ex (l := [2]) (by decide +kernel)) (fun v hv h => by cases h) k)
theorem hL_setBar : y_ok zL_setBar zP_setBar 3 false 107 7 23 1114 1115 1116 107 1117 = true := by decide +kernel
theorem eE_setBar {A : xAb} {b w v : Int} {e : Nat} (h : (dSet A b w v).1 = .inr e) : e ∈ ([2, 1] : List Nat) := by
  unfold dSet at h
  (repeat' split at h) <;> first | cases h <;> decide | cases h
theorem cG_setBar (C : CW A M h) (W : MW A M h) {b w v : Int}  (k : ∀ (j : Int) M' h', CW (dSet A b w v).2 M' h' → MW A M' h' → LA (xk [2, 1]) ((dSet A b w v).1) j M' → Φ (.inl (some (xI j))) M' h') : x_Cal zL_setBar [xA 1, xI b, xI w, xI v, xA 57] M h Φ := by
  refine y_help hL_setBar (xs := [b, w, v]) rfl C.k1 ?_
  exact cP_setBar C (fun M' h' C' f => y_ans C' (W.fr f C'.F) eE_setBar (y_ex (l := [2, 1]) (by decide +kernel)) (fun v hv h => by cases h) k)
theorem hL_setContent : y_ok zL_setContent zP_setContent 3 false 110 7 23 1121 1122 1123 107 1124 = true := by decide +kernel
theorem eE_setContent {A : xAb} {part b v : Int} {e : Nat} (h : (dCon A part b v).1 = .inr e) : e ∈ ([2, 1] : List Nat) := by
  unfold dCon at h
  (repeat' split at h) <;> first | cases h <;> decide | cases h
theorem cG_setContent (C : CW A M h) (W : MW A M h) {part b v : Int}  (k : ∀ (j : Int) M' h', CW (dCon A part b v).2 M' h' → MW A M' h' → LA (xk [2, 1]) ((dCon A part b v).1) j M' → Φ (.inl (some (xI j))) M' h') : x_Cal zL_setContent [xA 1, xI part, xI b, xI v, xA 57] M h Φ := by
  refine y_help hL_setContent (xs := [part, b, v]) rfl C.k1 ?_
  exact cP_setContent C (fun M' h' C' f => y_ans C' (W.fr f C'.F) eE_setContent (y_ex (l := [2, 1]) (by decide +kernel)) (fun v hv h => by cases h) k)
theorem hL_print : y_ok zL_print zP_print 1 false 113 4 15 1129 1130 1131 107 1132 = true := by decide +kernel
theorem eE_print {A : xAb} {part : Int} {e : Nat} (h : (dPrint A part).1 = .inr e) : e ∈ ([2] : List Nat) := by
  unfold dPrint at h
  (repeat' split at h) <;> first | cases h <;> decide | cases h
theorem cG_print (C : CW A M h) (W : MW A M h) {part : Int}  (k : ∀ (j : Int) M' h', CW (dPrint A part).2 M' h' → MW A M' h' → LA (xk [2]) ((dPrint A part).1) j M' → Φ (.inl (some (xI j))) M' h') : x_Cal zL_print [xA 1, xI part, xA 57] M h Φ := by
  refine y_help hL_print (xs := [part]) rfl C.k1 ?_
  exact cP_print C (fun M' h' C' f => y_ans C' (W.fr f C'.F) eE_print (y_ex (l := [2]) (by decide +kernel)) (fun v hv h => by cases h) k)
theorem hL_undo : y_ok zL_undo zP_undo 0 false 116 3 14 1169 1170 1171 107 1172 = true := by decide +kernel
theorem eE_undo {A : xAb}  {e : Nat} (h : (dUndo A).1 = .inr e) : e ∈ ([0] : List Nat) := by
  unfold dUndo at h
  (repeat' split at h) <;> first | cases h <;> decide | cases h
theorem cG_undo (C : CW A M h) (W : MW A M h)   (k : ∀ (j : Int) M' h', CW (dUndo A).2 M' h' → MW A M' h' → LA (xk [0]) ((dUndo A).1) j M' → Φ (.inl (some (xI j))) M' h') : x_Cal zL_undo [xA 1, xA 57] M h Φ := by
  refine y_help hL_undo (xs := []) rfl C.k1 ?_
  exact cP_undo C (fun M' h' C' f => y_ans C' (W.fr f C'.F) eE_undo (y_ex (l := [0]) (by decide +kernel)) (fun v hv h => by cases h) k)
theorem hL_writePart : y_ok zL_writePart zP_writePart 1 false 120 4 15 1180 1181 1182 107 1183 = true := by decide +kernel
theorem eE_writePart {A : xAb} {part : Int} {e : Nat} (h : (dWrite A part).1 = .inr e) : e ∈ ([2] : List Nat) := by
  unfold dWrite at h
  (repeat' split at h) <;> first | cases h <;> decide | cases h
theorem cG_writePart (C : CW A M h) (W : MW A M h) {part : Int}  (k : ∀ (j : Int) M' h', CW (dWrite A part).2 M' h' → MW A M' h' → LA (xk [2]) ((dWrite A part).1) j M' → Φ (.inl (some (xI j))) M' h') : x_Cal zL_writePart [xA 1, xI part, xA 57] M h Φ := by
  refine y_help hL_writePart (xs := [part]) rfl C.k1 ?_
  exact cP_writePart C (fun M' h' C' f => y_ans C' (W.fr f C'.F) eE_writePart (y_ex (l := [2]) (by decide +kernel)) (fun v hv h => by cases h) k)
theorem hL_outputByte : y_ok zL_outputByte zP_outputByte 1 false 123 4 15 1224 1225 1226 107 1227 = true := by decide +kernel
theorem eE_outputByte {A : xAb} {i : Int} {e : Nat} (h : anOut A i = .inr e) : e ∈ ([3] : List Nat) := by
  unfold anOut at h
  (repeat' split at h) <;> first | cases h <;> decide | cases h
theorem cG_outputByte (C : CW A M h) (W : MW A M h) {i : Int}  (k : ∀ (j : Int) M' h', CW A M' h' → MW A M' h' → LA (xk [3]) (anOut A i) j M' → Φ (.inl (some (xI j))) M' h') : x_Cal zL_outputByte [xA 1, xI i, xA 57] M h Φ := by
  refine y_help hL_outputByte (xs := [i]) rfl C.k1 ?_
  exact cP_outputByte C (y_ans C W eE_outputByte (y_ex (l := [3]) (by decide +kernel)) (fun v hv h => by cases h) k)
end HELPS
