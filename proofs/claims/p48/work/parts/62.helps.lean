/-! the law's guarded calls (by program, wip/p48/gen62.py) -/
/-- what a guarded call answers -/
def an2 : xAn → Int := fun a => match a with | .inl v => v | .inr _ => -2
/-- the handlers take these exceptions -/
def y_exb (z : xMD) (l : List Nat) : Bool := l.all fun e => (y_find (x_hh z) e 0).isSome
theorem y_ex {z : xMD} {l : List Nat} (h : y_exb z l = true) {e : Nat} (he : e ∈ l) : ∃ t j, y_find (x_hh z) e 0 = some (t, j) := by
  have h1 := List.all_eq_true.mp h e he
  obtain ⟨⟨t, j⟩, h2⟩ := Option.isSome_iff_exists.mp h1
  exact ⟨t, j, h2⟩
section HELPS
variable {A A' : xAb} {M M' : xM} {h h' : xH} {Φ : xO → xM → xH → Prop}
set_option maxHeartbeats 1000000
theorem CW.k1 (C : CW A M h) : hK h 1 = 7 := by
  have F := C.F
  simp only [fxs F]
theorem y_ans {z : xMD} {an : xAn} {l : List Nat} (he : ∀ e, an = .inr e → e ∈ l) (hx : ∀ {e : Nat}, e ∈ l → ∃ t j, y_find (x_hh z) e 0 = some (t, j)) (k : Φ (.inl (some (xI (an2 an)))) M' h') : y_P z (-2) Φ (xo an) M' h' := by
  cases an with
  | inl v => exact k
  | inr e => exact ⟨hx (he e rfl), k⟩
theorem hL_inserted : y_ok zL_inserted zP_insert 3 96 4 1075 1076 1077 38 1078 = true := by decide +kernel
theorem cG_inserted (C : CW A M h) {after count beats : Int} (hnid : aI A ≤ 49980) (h32 : x_i32 count) (hex : ∀ e, (dIns A after count beats).1 = .inr e → e ∈ ([0] : List Nat)) (k : ∀ M' h', CW (dIns A after count beats).2 M' h' → Φ (.inl (some (xI (an2 (dIns A after count beats).1)))) M' h') : x_Cal zL_inserted [xA 1, xI after, xI count, xI beats] M h Φ := by
  refine y_help hL_inserted (xs := [after, count, beats]) rfl C.k1 ?_
  exact cP_insert C hnid h32 (fun M' h' C' f => y_ans hex (y_ex (l := [0]) (by decide +kernel)) (k M' h' C'))
theorem hL_erased : y_ok zL_erased zP_erase 1 100 2 497 498 499 38 500 = true := by decide +kernel
theorem cG_erased (C : CW A M h) {b : Int}  (hex : ∀ e, (dEr A b).1 = .inr e → e ∈ ([0] : List Nat)) (k : ∀ M' h', CW (dEr A b).2 M' h' → Φ (.inl (some (xI (an2 (dEr A b).1)))) M' h') : x_Cal zL_erased [xA 1, xI b] M h Φ := by
  refine y_help hL_erased (xs := [b]) rfl C.k1 ?_
  exact cP_erase C (fun M' h' C' f => y_ans hex (y_ex (l := [0]) (by decide +kernel)) (k M' h' C'))
theorem hL_made : y_ok zL_made zP_makeCut 2 103 3 1093 1094 1095 38 1096 = true := by decide +kernel
theorem cG_made (C : CW A M h) {f l : Int}  (hex : ∀ e, (dCut A f l).1 = .inr e → e ∈ ([1, 0] : List Nat)) (k : ∀ M' h', CW (dCut A f l).2 M' h' → Φ (.inl (some (xI (an2 (dCut A f l).1)))) M' h') : x_Cal zL_made [xA 1, xI f, xI l] M h Φ := by
  refine y_help hL_made (xs := [f, l]) rfl C.k1 ?_
  exact cP_makeCut C (fun M' h' C' f => y_ans hex (y_ex (l := [1, 0]) (by decide +kernel)) (k M' h' C'))
theorem hL_opened : y_ok zL_opened zP_openCut 1 108 2 1106 1107 1108 38 1109 = true := by decide +kernel
theorem cG_opened (C : CW A M h) {c : Int}  (hex : ∀ e, (dOpen A c).1 = .inr e → e ∈ ([2] : List Nat)) (k : ∀ M' h', CW (dOpen A c).2 M' h' → Φ (.inl (some (xI (an2 (dOpen A c).1)))) M' h') : x_Cal zL_opened [xA 1, xI c] M h Φ := by
  refine y_help hL_opened (xs := [c]) rfl C.k1 ?_
  exact cP_openCut C (fun M' h' C' f => y_ans hex (y_ex (l := [2]) (by decide +kernel)) (k M' h' C'))
theorem hL_put : y_ok zL_put zP_putMark 2 113 3 1118 1119 1120 38 1121 = true := by decide +kernel
theorem cG_put (C : CW A M h) {l b : Int}  (hex : ∀ e, (dPut A l b).1 = .inr e → e ∈ ([0] : List Nat)) (k : ∀ M' h', CW (dPut A l b).2 M' h' → Φ (.inl (some (xI (an2 (dPut A l b).1)))) M' h') : x_Cal zL_put [xA 1, xI l, xI b] M h Φ := by
  refine y_help hL_put (xs := [l, b]) rfl C.k1 ?_
  exact cP_putMark C (fun M' h' C' f => y_ans hex (y_ex (l := [0]) (by decide +kernel)) (k M' h' C'))
theorem hL_removed : y_ok zL_removed zP_removeMark 1 116 2 1127 1128 1129 38 1130 = true := by decide +kernel
theorem cG_removed (C : CW A M h) {l : Int}  (hex : ∀ e, (dRem A l).1 = .inr e → e ∈ ([2] : List Nat)) (k : ∀ M' h', CW (dRem A l).2 M' h' → Φ (.inl (some (xI (an2 (dRem A l).1)))) M' h') : x_Cal zL_removed [xA 1, xI l] M h Φ := by
  refine y_help hL_removed (xs := [l]) rfl C.k1 ?_
  exact cP_removeMark C (fun M' h' C' f => y_ans hex (y_ex (l := [2]) (by decide +kernel)) (k M' h' C'))
theorem hL_from : y_ok zL_from zP_from 2 162 3 1215 1216 1217 38 1218 = true := by decide +kernel
theorem cG_from (C : CW A M h) {l n : Int} (h32 : x_i32 n) (hex : ∀ e, anFrom (aS A) l n = .inr e → e ∈ ([2] : List Nat)) (k : Φ (.inl (some (xI (an2 (anFrom (aS A) l n))))) M h) : x_Cal zL_from [xA 1, xI l, xI n] M h Φ := by
  refine y_help hL_from (xs := [l, n]) rfl C.k1 ?_
  exact cP_from C h32 (y_ans hex (y_ex (l := [2]) (by decide +kernel)) k)
theorem hL_mark : y_ok zL_mark zP_mark 2 165 3 1195 1196 1197 38 1198 = true := by decide +kernel
theorem cG_mark (C : CW A M h) {l w : Int}  (hex : ∀ e, anMark (aS A) l w = .inr e → e ∈ ([2] : List Nat)) (k : Φ (.inl (some (xI (an2 (anMark (aS A) l w))))) M h) : x_Cal zL_mark [xA 1, xI l, xI w] M h Φ := by
  refine y_help hL_mark (xs := [l, w]) rfl C.k1 ?_
  exact cP_mark C (y_ans hex (y_ex (l := [2]) (by decide +kernel)) k)
theorem hL_undone : y_ok zL_undone zP_undo 0 168 1 1157 1158 1159 38 1160 = true := by decide +kernel
theorem cG_undone (C : CW A M h)   (hex : ∀ e, (dUndo A).1 = .inr e → e ∈ ([0] : List Nat)) (k : ∀ M' h', CW (dUndo A).2 M' h' → Φ (.inl (some (xI (an2 (dUndo A).1)))) M' h') : x_Cal zL_undone [xA 1] M h Φ := by
  refine y_help hL_undone (xs := []) rfl C.k1 ?_
  exact cP_undo C (fun M' h' C' f => y_ans hex (y_ex (l := [0]) (by decide +kernel)) (k M' h' C'))
end HELPS
