/-! tables by program (wip/p48/gen.py) -/
def iP_init_0 : List xPI := [(.aload_n 0, [], []), (.invokespecial 3, [1003, 70, 71, 72], []), (.aload_n 0, [], []), (.new 9, [5, 73, 74, 39], []), (.dup, [], []), (.invokespecial 11, [0, 13, 2536, 5, 1, 75, 76, 39, 77], [zR_init]), (.putfield 12, [7, 0, 2, 312], []), (.aload_n 0, [], []), (.new 16, [6, 206, 207, 42], []), (.dup, [], []), (.invokespecial 18, [0, 19, 2930, 6, 1, 208, 209, 42, 210], [zV_init]), (.putfield 19, [7, 1, 2, 313], []), (.aload_n 0, [], []), (.aload_n 0, [], []), (.getfield 19, [7, 1, 2, 313], []), (.getfield 23, [6, 0, 2, 215], []), (.putfield 27, [7, 2, 2, 314], []), (.aload_n 0, [], []), (.new 28, [3, 261, 262, 43], []), (.dup, [], []), (.invokespecial 30, [0, 0, 0, 3, 1, 263, 264, 43, 265], [zE_init]), (.putfield 31, [7, 3, 2, 315], []), (.aload_n 0, [], []), (.new 35, [0, 280, 281, 44], []), (.dup, [], []), (.invokespecial 37, [0, 1, 10, 0, 1, 282, 283, 44, 284], [zH_init]), (.putfield 38, [7, 4, 2, 316], []), (.aload_n 0, [], []), (.new 42, [2, 299, 300, 45], []), (.dup, [], []), (.invokespecial 44, [0, 1, 2550, 2, 1, 301, 302, 45, 303], [zW_init]), (.putfield 45, [7, 5, 2, 317], []), (.aload_n 0, [], []), (.iconst 0, [], []), (.putfield 49, [7, 6, 0, 318], []), (.return_, [], [])]
def bP_init : xB := [(0, false, iP_init_0)]
theorem eP_init : x_blk bP_init 0 = some (false, iP_init_0) := rfl
theorem kP_init : x_chkB zP_init bP_init = true := by decide +kernel
theorem vP_init : zC zP_init = 39 ∧ zS zP_init = 8056 ∧ x_rtc (zR zP_init) = 0 := ⟨rfl, rfl, rfl⟩
def iP_feed_0 : List xPI := [(.aload_n 0, [], []), (.getfield 12, [7, 0, 2, 312], []), (.getfield 53, [5, 3, 0, 171], []), (.bipush 20, [], []), (.iadd, [], []), (.sipush 800, [], []), (.if_icmp .le 11, [24], []), (.athrow, [0, 56, 58], [])]
def iP_feed_24 : List xPI := [(.aload_n 0, [], []), (.getfield 12, [7, 0, 2, 312], []), (.iload_n 1, [], []), (.invokevirtual 59, [1, 0, 0, 5, 683, 684, 685, 39, 686], [zR_appendBytes]), (.aload_n 0, [], []), (.getfield 12, [7, 0, 2, 312], []), (.iload_n 2, [], []), (.invokevirtual 59, [1, 0, 0, 5, 683, 684, 685, 39, 686], [zR_appendBytes]), (.aload_n 0, [], []), (.getfield 12, [7, 0, 2, 312], []), (.iload_n 3, [], []), (.invokevirtual 59, [1, 0, 0, 5, 683, 684, 685, 39, 686], [zR_appendBytes]), (.aload_n 0, [], []), (.getfield 12, [7, 0, 2, 312], []), (.iload 4, [], []), (.invokevirtual 59, [1, 0, 0, 5, 683, 684, 685, 39, 686], [zR_appendBytes]), (.aload_n 0, [], []), (.getfield 12, [7, 0, 2, 312], []), (.iload 5, [], []), (.invokevirtual 59, [1, 0, 0, 5, 683, 684, 685, 39, 686], [zR_appendBytes]), (.aload_n 0, [], []), (.getfield 12, [7, 0, 2, 312], []), (.getfield 53, [5, 3, 0, 171], []), (.ireturn, [], [])]
def bP_feed : xB := [(0, false, iP_feed_0), (24, false, iP_feed_24)]
theorem eP_feed : x_blk bP_feed 0 = some (false, iP_feed_0) ∧ x_blk bP_feed 24 = some (false, iP_feed_24) := ⟨rfl, rfl⟩
theorem kP_feed : x_chkB zP_feed bP_feed = true := by decide +kernel
theorem vP_feed : zC zP_feed = 1 ∧ zS zP_feed = 6 ∧ x_rtc (zR zP_feed) = 1 := ⟨rfl, rfl, rfl⟩
def iP_load_0 : List xPI := [(.iload_n 1, [], []), (.ifCond .lt 14, [15], []), (.iload_n 1, [], []), (.aload_n 0, [], []), (.getfield 12, [7, 0, 2, 312], []), (.getfield 53, [5, 3, 0, 171], []), (.if_icmp .le 11, [23], []), (.nop, [15], [])]
def iP_load_15 : List xPI := [(.athrow, [1, 63, 65], [])]
def iP_load_23 : List xPI := [(.aload_n 0, [], []), (.getfield 12, [7, 0, 2, 312], []), (.iload_n 1, [], []), (.invokevirtual 66, [1, 0, 0, 5, 691, 692, 693, 39, 694], [zR_readScore]), (.ifCond .ne 11, [42], []), (.athrow, [0, 56, 58], [])]
def iP_load_42 : List xPI := [(.aload_n 0, [], []), (.getfield 27, [7, 2, 2, 314], []), (.aload_n 0, [], []), (.getfield 12, [7, 0, 2, 312], []), (.getfield 70, [5, 0, 2, 167], []), (.invokevirtual 73, [1, 0, 0, 4, 799, 515, 516, 40, 517], [zS_copyFrom]), (.aload_n 0, [], []), (.aload_n 0, [], []), (.getfield 27, [7, 2, 2, 314], []), (.getfield 79, [4, 0, 0, 98], []), (.putfield 49, [7, 6, 0, 318], []), (.aload_n 0, [], []), (.getfield 38, [7, 4, 2, 316], []), (.invokevirtual 82, [0, 0, 0, 0, 800, 801, 802, 44, 803], [zH_forget]), (.aload_n 0, [], []), (.getfield 19, [7, 1, 2, 313], []), (.invokevirtual 85, [0, 0, 0, 6, 532, 533, 534, 42, 535], [zV_refresh]), (.aload_n 0, [], []), (.getfield 27, [7, 2, 2, 314], []), (.getfield 79, [4, 0, 0, 98], []), (.ireturn, [], [])]
def bP_load : xB := [(0, false, iP_load_0), (15, false, iP_load_15), (23, false, iP_load_23), (42, false, iP_load_42)]
theorem eP_load : x_blk bP_load 0 = some (false, iP_load_0) ∧ x_blk bP_load 15 = some (false, iP_load_15) ∧ x_blk bP_load 23 = some (false, iP_load_23) ∧ x_blk bP_load 42 = some (false, iP_load_42) := ⟨rfl, rfl, rfl, rfl⟩
theorem kP_load : x_chkB zP_load bP_load = true := by decide +kernel
theorem vP_load : zC zP_load = 1 ∧ zS zP_load = 6 ∧ x_rtc (zR zP_load) = 1 := ⟨rfl, rfl, rfl⟩
def iP_bars_0 : List xPI := [(.aload_n 0, [], []), (.getfield 27, [7, 2, 2, 314], []), (.getfield 79, [4, 0, 0, 98], []), (.ireturn, [], [])]
def bP_bars : xB := [(0, false, iP_bars_0)]
theorem eP_bars : x_blk bP_bars 0 = some (false, iP_bars_0) := rfl
theorem kP_bars : x_chkB zP_bars bP_bars = true := by decide +kernel
theorem vP_bars : zC zP_bars = 0 ∧ zS zP_bars = 0 ∧ x_rtc (zR zP_bars) = 1 := ⟨rfl, rfl, rfl⟩
def iP_barAt_0 : List xPI := [(.iload_n 1, [], []), (.ifCond .lt 14, [15], []), (.iload_n 1, [], []), (.aload_n 0, [], []), (.getfield 27, [7, 2, 2, 314], []), (.getfield 79, [4, 0, 0, 98], []), (.if_icmp .lt 11, [23], []), (.nop, [15], [])]
def iP_barAt_15 : List xPI := [(.athrow, [2, 94, 96], [])]
def iP_barAt_23 : List xPI := [(.aload_n 0, [], []), (.getfield 27, [7, 2, 2, 314], []), (.getfield 97, [4, 3, 2, 109], []), (.iload_n 1, [], []), (.iaload, [], []), (.ireturn, [], [])]
def bP_barAt : xB := [(0, false, iP_barAt_0), (15, false, iP_barAt_15), (23, false, iP_barAt_23)]
theorem eP_barAt : x_blk bP_barAt 0 = some (false, iP_barAt_0) ∧ x_blk bP_barAt 15 = some (false, iP_barAt_15) ∧ x_blk bP_barAt 23 = some (false, iP_barAt_23) := ⟨rfl, rfl, rfl⟩
theorem kP_barAt : x_chkB zP_barAt bP_barAt = true := by decide +kernel
theorem vP_barAt : zC zP_barAt = 1 ∧ zS zP_barAt = 6 ∧ x_rtc (zR zP_barAt) = 1 := ⟨rfl, rfl, rfl⟩
def iP_bar_0 : List xPI := [(.aload_n 0, [], []), (.iload_n 1, [], []), (.invokevirtual 101, [1, 1, 6, 7, 411, 413, 5, 38, 414], [zP_requirePlace]), (.istore_n 3, [], []), (.iload_n 2, [], []), (.tableswitch 138 0 8 #[49, 51, 61, 71, 81, 91, 101, 118, 128], [145, 56, 58, 68, 78, 88, 98, 108, 125, 135], [])]
def iP_bar_56 : List xPI := [(.iload_n 3, [], []), (.ireturn, [], [])]
def iP_bar_58 : List xPI := [(.aload_n 0, [], []), (.getfield 19, [7, 1, 2, 313], []), (.getfield 105, [6, 4, 2, 227], []), (.iload_n 3, [], []), (.iaload, [], []), (.ireturn, [], [])]
def iP_bar_68 : List xPI := [(.aload_n 0, [], []), (.getfield 27, [7, 2, 2, 314], []), (.getfield 108, [4, 4, 2, 114], []), (.iload_n 3, [], []), (.iaload, [], []), (.ireturn, [], [])]
def iP_bar_78 : List xPI := [(.aload_n 0, [], []), (.getfield 27, [7, 2, 2, 314], []), (.getfield 111, [4, 5, 2, 118], []), (.iload_n 3, [], []), (.iaload, [], []), (.ireturn, [], [])]
def iP_bar_88 : List xPI := [(.aload_n 0, [], []), (.getfield 27, [7, 2, 2, 314], []), (.getfield 114, [4, 6, 2, 121], []), (.iload_n 3, [], []), (.iaload, [], []), (.ireturn, [], [])]
def iP_bar_98 : List xPI := [(.aload_n 0, [], []), (.getfield 27, [7, 2, 2, 314], []), (.getfield 117, [4, 7, 2, 125], []), (.iload_n 3, [], []), (.iaload, [], []), (.ireturn, [], [])]
def iP_bar_108 : List xPI := [(.aload_n 0, [], []), (.getfield 19, [7, 1, 2, 313], []), (.iload_n 3, [], []), (.invokevirtual 120, [1, 0, 0, 6, 419, 420, 421, 42, 422], [zV_isPlayed]), (.ifCond .eq 7, [123], []), (.iconst 1, [], []), (.goto 4, [124], [])]
def iP_bar_123 : List xPI := [(.iconst 0, [], []), (.nop, [124], [])]
def iP_bar_124 : List xPI := [(.ireturn, [], [])]
def iP_bar_125 : List xPI := [(.aload_n 0, [], []), (.getfield 19, [7, 1, 2, 313], []), (.getfield 123, [6, 7, 2, 234], []), (.iload_n 3, [], []), (.iaload, [], []), (.ireturn, [], [])]
def iP_bar_135 : List xPI := [(.aload_n 0, [], []), (.getfield 19, [7, 1, 2, 313], []), (.getfield 126, [6, 6, 2, 230], []), (.iload_n 3, [], []), (.iaload, [], []), (.ireturn, [], [])]
def iP_bar_145 : List xPI := [(.athrow, [1, 63, 65], [])]
def bP_bar : xB := [(0, false, iP_bar_0), (56, false, iP_bar_56), (58, false, iP_bar_58), (68, false, iP_bar_68), (78, false, iP_bar_78), (88, false, iP_bar_88), (98, false, iP_bar_98), (108, false, iP_bar_108), (123, false, iP_bar_123), (124, false, iP_bar_124), (125, false, iP_bar_125), (135, false, iP_bar_135), (145, false, iP_bar_145)]
theorem eP_bar : x_blk bP_bar 0 = some (false, iP_bar_0) ∧ x_blk bP_bar 56 = some (false, iP_bar_56) ∧ x_blk bP_bar 58 = some (false, iP_bar_58) ∧ x_blk bP_bar 68 = some (false, iP_bar_68) ∧ x_blk bP_bar 78 = some (false, iP_bar_78) ∧ x_blk bP_bar 88 = some (false, iP_bar_88) ∧ x_blk bP_bar 98 = some (false, iP_bar_98) ∧ x_blk bP_bar 108 = some (false, iP_bar_108) ∧ x_blk bP_bar 123 = some (false, iP_bar_123) ∧ x_blk bP_bar 124 = some (false, iP_bar_124) ∧ x_blk bP_bar 125 = some (false, iP_bar_125) ∧ x_blk bP_bar 135 = some (false, iP_bar_135) ∧ x_blk bP_bar 145 = some (false, iP_bar_145) := ⟨rfl, rfl, rfl, rfl, rfl, rfl, rfl, rfl, rfl, rfl, rfl, rfl, rfl⟩
theorem kP_bar : x_chkB zP_bar bP_bar = true := by decide +kernel
theorem vP_bar : zC zP_bar = 2 ∧ zS zP_bar = 12 ∧ x_rtc (zR zP_bar) = 1 := ⟨rfl, rfl, rfl⟩
def iP_labelled_0 : List xPI := [(.iconst 0, [], []), (.istore_n 2, [], []), (.nop, [2], [])]
def iP_labelled_2 : List xPI := [(.iload_n 2, [], []), (.aload_n 0, [], []), (.getfield 27, [7, 2, 2, 314], []), (.getfield 79, [4, 0, 0, 98], []), (.if_icmp .ge 32, [42], []), (.aload_n 0, [], []), (.getfield 19, [7, 1, 2, 313], []), (.getfield 105, [6, 4, 2, 227], []), (.iload_n 2, [], []), (.iaload, [], []), (.iload_n 1, [], []), (.if_icmp .ne 13, [36], []), (.aload_n 0, [], []), (.getfield 27, [7, 2, 2, 314], []), (.getfield 97, [4, 3, 2, 109], []), (.iload_n 2, [], []), (.iaload, [], []), (.ireturn, [], [])]
def iP_labelled_36 : List xPI := [(.iinc 2 1, [], []), (.goto (-37), [2], [])]
def iP_labelled_42 : List xPI := [(.athrow, [2, 94, 96], [])]
def bP_labelled : xB := [(0, false, iP_labelled_0), (2, true, iP_labelled_2), (36, false, iP_labelled_36), (42, false, iP_labelled_42)]
theorem eP_labelled : x_blk bP_labelled 0 = some (false, iP_labelled_0) ∧ x_blk bP_labelled 2 = some (true, iP_labelled_2) ∧ x_blk bP_labelled 36 = some (false, iP_labelled_36) ∧ x_blk bP_labelled 42 = some (false, iP_labelled_42) := ⟨rfl, rfl, rfl, rfl⟩
theorem kP_labelled : x_chkB zP_labelled bP_labelled = true := by decide +kernel
theorem vP_labelled : zC zP_labelled = 1 ∧ zS zP_labelled = 6 ∧ x_rtc (zR zP_labelled) = 1 := ⟨rfl, rfl, rfl⟩
def iP_played_0 : List xPI := [(.aload_n 0, [], []), (.getfield 19, [7, 1, 2, 313], []), (.getfield 129, [6, 1, 0, 219], []), (.ireturn, [], [])]
def bP_played : xB := [(0, false, iP_played_0)]
theorem eP_played : x_blk bP_played 0 = some (false, iP_played_0) := rfl
theorem kP_played : x_chkB zP_played bP_played = true := by decide +kernel
theorem vP_played : zC zP_played = 0 ∧ zS zP_played = 0 ∧ x_rtc (zR zP_played) = 1 := ⟨rfl, rfl, rfl⟩
def iP_beats_0 : List xPI := [(.aload_n 0, [], []), (.getfield 19, [7, 1, 2, 313], []), (.iconst 0, [], []), (.aload_n 0, [], []), (.getfield 19, [7, 1, 2, 313], []), (.getfield 129, [6, 1, 0, 219], []), (.invokevirtual 132, [2, 0, 0, 6, 1235, 1236, 1237, 42, 1238], [zV_sumBeats]), (.ireturn, [], [])]
def bP_beats : xB := [(0, false, iP_beats_0)]
theorem eP_beats : x_blk bP_beats 0 = some (false, iP_beats_0) := rfl
theorem kP_beats : x_chkB zP_beats bP_beats = true := by decide +kernel
theorem vP_beats : zC zP_beats = 0 ∧ zS zP_beats = 0 ∧ x_rtc (zR zP_beats) = 1 := ⟨rfl, rfl, rfl⟩
def iP_cuts_0 : List xPI := [(.iconst 0, [], []), (.istore_n 1, [], []), (.iconst 0, [], []), (.istore_n 2, [], []), (.nop, [4], [])]
def iP_cuts_4 : List xPI := [(.iload_n 2, [], []), (.bipush 10, [], []), (.if_icmp .ge 26, [33], []), (.aload_n 0, [], []), (.getfield 27, [7, 2, 2, 314], []), (.iload_n 2, [], []), (.invokevirtual 136, [1, 0, 0, 4, 1114, 506, 507, 40, 508], [zS_hasCut]), (.ifCond .eq 9, [27], []), (.iload_n 1, [], []), (.iconst 1, [], []), (.iload_n 2, [], []), (.ishl, [], []), (.ior, [], []), (.istore_n 1, [], []), (.nop, [27], [])]
def iP_cuts_27 : List xPI := [(.iinc 2 1, [], []), (.goto (-26), [4], [])]
def iP_cuts_33 : List xPI := [(.iload_n 1, [], []), (.ireturn, [], [])]
def bP_cuts : xB := [(0, false, iP_cuts_0), (4, true, iP_cuts_4), (27, false, iP_cuts_27), (33, false, iP_cuts_33)]
theorem eP_cuts : x_blk bP_cuts 0 = some (false, iP_cuts_0) ∧ x_blk bP_cuts 4 = some (true, iP_cuts_4) ∧ x_blk bP_cuts 27 = some (false, iP_cuts_27) ∧ x_blk bP_cuts 33 = some (false, iP_cuts_33) := ⟨rfl, rfl, rfl, rfl⟩
theorem kP_cuts : x_chkB zP_cuts bP_cuts = true := by decide +kernel
theorem vP_cuts : zC zP_cuts = 0 ∧ zS zP_cuts = 0 ∧ x_rtc (zR zP_cuts) = 1 := ⟨rfl, rfl, rfl⟩
def iP_marks_0 : List xPI := [(.aload_n 0, [], []), (.getfield 27, [7, 2, 2, 314], []), (.getfield 151, [4, 2, 0, 105], []), (.ireturn, [], [])]
def bP_marks : xB := [(0, false, iP_marks_0)]
theorem eP_marks : x_blk bP_marks 0 = some (false, iP_marks_0) := rfl
theorem kP_marks : x_chkB zP_marks bP_marks = true := by decide +kernel
theorem vP_marks : zC zP_marks = 0 ∧ zS zP_marks = 0 ∧ x_rtc (zR zP_marks) = 1 := ⟨rfl, rfl, rfl⟩
def iP_mark_0 : List xPI := [(.aload_n 0, [], []), (.iload_n 1, [], []), (.invokevirtual 154, [1, 1, 6, 7, 1131, 1133, 35, 38, 1134], [zP_requireMark]), (.iload_n 2, [], []), (.tableswitch 70 0 2 #[26, 36, 52], [76, 32, 42, 58], [])]
def iP_mark_32 : List xPI := [(.aload_n 0, [], []), (.getfield 27, [7, 2, 2, 314], []), (.getfield 157, [4, 9, 2, 131], []), (.iload_n 1, [], []), (.iaload, [], []), (.ireturn, [], [])]
def iP_mark_42 : List xPI := [(.aload_n 0, [], []), (.getfield 27, [7, 2, 2, 314], []), (.aload_n 0, [], []), (.getfield 19, [7, 1, 2, 313], []), (.iload_n 1, [], []), (.invokevirtual 160, [1, 0, 0, 6, 1199, 1200, 1201, 42, 1202], [zV_placeShown]), (.invokevirtual 163, [1, 0, 0, 4, 1203, 1204, 1205, 40, 1206], [zS_idAt]), (.ireturn, [], [])]
def iP_mark_58 : List xPI := [(.aload_n 0, [], []), (.getfield 19, [7, 1, 2, 313], []), (.iload_n 1, [], []), (.invokevirtual 166, [1, 0, 0, 6, 1207, 1208, 1209, 42, 1210], [zV_placeOfLetter]), (.iconst (-1), [], []), (.if_icmp .ne 7, [74], []), (.iconst 0, [], []), (.goto 4, [75], [])]
def iP_mark_74 : List xPI := [(.iconst 1, [], []), (.nop, [75], [])]
def iP_mark_75 : List xPI := [(.ireturn, [], [])]
def iP_mark_76 : List xPI := [(.athrow, [1, 63, 65], [])]
def bP_mark : xB := [(0, false, iP_mark_0), (32, false, iP_mark_32), (42, false, iP_mark_42), (58, false, iP_mark_58), (74, false, iP_mark_74), (75, false, iP_mark_75), (76, false, iP_mark_76)]
theorem eP_mark : x_blk bP_mark 0 = some (false, iP_mark_0) ∧ x_blk bP_mark 32 = some (false, iP_mark_32) ∧ x_blk bP_mark 42 = some (false, iP_mark_42) ∧ x_blk bP_mark 58 = some (false, iP_mark_58) ∧ x_blk bP_mark 74 = some (false, iP_mark_74) ∧ x_blk bP_mark 75 = some (false, iP_mark_75) ∧ x_blk bP_mark 76 = some (false, iP_mark_76) := ⟨rfl, rfl, rfl, rfl, rfl, rfl, rfl⟩
theorem kP_mark : x_chkB zP_mark bP_mark = true := by decide +kernel
theorem vP_mark : zC zP_mark = 2 ∧ zS zP_mark = 12 ∧ x_rtc (zR zP_mark) = 1 := ⟨rfl, rfl, rfl⟩
def iP_from_0 : List xPI := [(.aload_n 0, [], []), (.getfield 19, [7, 1, 2, 313], []), (.iload_n 1, [], []), (.invokevirtual 166, [1, 0, 0, 6, 1207, 1208, 1209, 42, 1210], [zV_placeOfLetter]), (.istore_n 3, [], []), (.iload_n 3, [], []), (.iconst (-1), [], []), (.if_icmp .ne 11, [22], []), (.athrow, [2, 94, 96], [])]
def iP_from_22 : List xPI := [(.aload_n 0, [], []), (.getfield 19, [7, 1, 2, 313], []), (.getfield 169, [6, 3, 2, 223], []), (.iload_n 3, [], []), (.iaload, [], []), (.i2l, [], []), (.iload_n 2, [], []), (.i2l, [], []), (.ladd, [], []), (.lstore 4, [], []), (.lload 4, [], []), (.lconst 0, [], []), (.lcmp, [], []), (.ifCond .lt 17, [58], []), (.lload 4, [], []), (.aload_n 0, [], []), (.getfield 19, [7, 1, 2, 313], []), (.getfield 129, [6, 1, 0, 219], []), (.i2l, [], []), (.lcmp, [], []), (.ifCond .lt 11, [66], []), (.nop, [58], [])]
def iP_from_58 : List xPI := [(.athrow, [2, 94, 96], [])]
def iP_from_66 : List xPI := [(.aload_n 0, [], []), (.getfield 27, [7, 2, 2, 314], []), (.getfield 97, [4, 3, 2, 109], []), (.aload_n 0, [], []), (.getfield 19, [7, 1, 2, 313], []), (.getfield 172, [6, 2, 2, 221], []), (.lload 4, [], []), (.l2i, [], []), (.iaload, [], []), (.iaload, [], []), (.ireturn, [], [])]
def bP_from : xB := [(0, false, iP_from_0), (22, false, iP_from_22), (58, false, iP_from_58), (66, false, iP_from_66)]
theorem eP_from : x_blk bP_from 0 = some (false, iP_from_0) ∧ x_blk bP_from 22 = some (false, iP_from_22) ∧ x_blk bP_from 58 = some (false, iP_from_58) ∧ x_blk bP_from 66 = some (false, iP_from_66) := ⟨rfl, rfl, rfl, rfl⟩
theorem kP_from : x_chkB zP_from bP_from = true := by decide +kernel
theorem vP_from : zC zP_from = 1 ∧ zS zP_from = 6 ∧ x_rtc (zR zP_from) = 1 := ⟨rfl, rfl, rfl⟩
def iP_called_0 : List xPI := [(.aload_n 0, [], []), (.iload_n 1, [], []), (.invokevirtual 175, [1, 2, 12, 7, 1223, 1225, 36, 38, 1226], [zP_requirePlayedIndex]), (.istore_n 2, [], []), (.iload_n 2, [], []), (.istore_n 3, [], []), (.nop, [8], [])]
def iP_called_8 : List xPI := [(.iload_n 3, [], []), (.ifCond .lt 44, [53], []), (.aload_n 0, [], []), (.getfield 19, [7, 1, 2, 313], []), (.getfield 123, [6, 7, 2, 234], []), (.aload_n 0, [], []), (.getfield 19, [7, 1, 2, 313], []), (.getfield 172, [6, 2, 2, 221], []), (.iload_n 3, [], []), (.iaload, [], []), (.iaload, [], []), (.istore 4, [], []), (.iload 4, [], []), (.ifCond .eq 14, [47], []), (.sipush 1000, [], []), (.iload 4, [], []), (.imul, [], []), (.iload_n 2, [], []), (.iload_n 3, [], []), (.isub, [], []), (.iadd, [], []), (.ireturn, [], [])]
def iP_called_47 : List xPI := [(.iinc 3 (-1), [], []), (.goto (-42), [8], [])]
def iP_called_53 : List xPI := [(.iload_n 2, [], []), (.ireturn, [], [])]
def bP_called : xB := [(0, false, iP_called_0), (8, true, iP_called_8), (47, false, iP_called_47), (53, false, iP_called_53)]
theorem eP_called : x_blk bP_called 0 = some (false, iP_called_0) ∧ x_blk bP_called 8 = some (true, iP_called_8) ∧ x_blk bP_called 47 = some (false, iP_called_47) ∧ x_blk bP_called 53 = some (false, iP_called_53) := ⟨rfl, rfl, rfl, rfl⟩
theorem kP_called : x_chkB zP_called bP_called = true := by decide +kernel
theorem vP_called : zC zP_called = 2 ∧ zS zP_called = 12 ∧ x_rtc (zR zP_called) = 1 := ⟨rfl, rfl, rfl⟩
def iP_parts_0 : List xPI := [(.aload_n 0, [], []), (.getfield 27, [7, 2, 2, 314], []), (.getfield 178, [4, 1, 0, 102], []), (.ireturn, [], [])]
def bP_parts : xB := [(0, false, iP_parts_0)]
theorem eP_parts : x_blk bP_parts 0 = some (false, iP_parts_0) := rfl
theorem kP_parts : x_chkB zP_parts bP_parts = true := by decide +kernel
theorem vP_parts : zC zP_parts = 0 ∧ zS zP_parts = 0 ∧ x_rtc (zR zP_parts) = 1 := ⟨rfl, rfl, rfl⟩
def iP_content_0 : List xPI := [(.aload_n 0, [], []), (.iload_n 1, [], []), (.invokevirtual 181, [1, 1, 6, 7, 446, 448, 6, 38, 449], [zP_requirePart]), (.aload_n 0, [], []), (.getfield 27, [7, 2, 2, 314], []), (.iload_n 1, [], []), (.aload_n 0, [], []), (.iload_n 2, [], []), (.invokevirtual 101, [1, 1, 6, 7, 411, 413, 5, 38, 414], [zP_requirePlace]), (.invokevirtual 184, [2, 0, 0, 4, 1152, 459, 460, 40, 461], [zS_contentAt]), (.ireturn, [], [])]
def bP_content : xB := [(0, false, iP_content_0)]
theorem eP_content : x_blk bP_content 0 = some (false, iP_content_0) := rfl
theorem kP_content : x_chkB zP_content bP_content = true := by decide +kernel
theorem vP_content : zC zP_content = 2 ∧ zS zP_content = 12 ∧ x_rtc (zR zP_content) = 1 := ⟨rfl, rfl, rfl⟩
def iP_reason_0 : List xPI := [(.aload_n 0, [], []), (.getfield 19, [7, 1, 2, 313], []), (.getfield 187, [6, 8, 2, 236], []), (.aload_n 0, [], []), (.getfield 19, [7, 1, 2, 313], []), (.getfield 172, [6, 2, 2, 221], []), (.aload_n 0, [], []), (.iload_n 1, [], []), (.invokevirtual 175, [1, 2, 12, 7, 1223, 1225, 36, 38, 1226], [zP_requirePlayedIndex]), (.iaload, [], []), (.iaload, [], []), (.ireturn, [], [])]
def bP_reason : xB := [(0, false, iP_reason_0)]
theorem eP_reason : x_blk bP_reason 0 = some (false, iP_reason_0) := rfl
theorem kP_reason : x_chkB zP_reason bP_reason = true := by decide +kernel
theorem vP_reason : zC zP_reason = 2 ∧ zS zP_reason = 12 ∧ x_rtc (zR zP_reason) = 1 := ⟨rfl, rfl, rfl⟩
def iP_items_0 : List xPI := [(.aload_n 0, [], []), (.iload_n 1, [], []), (.invokevirtual 181, [1, 1, 6, 7, 446, 448, 6, 38, 449], [zP_requirePart]), (.aload_n 0, [], []), (.getfield 19, [7, 1, 2, 313], []), (.iload_n 1, [], []), (.aload_n 0, [], []), (.getfield 19, [7, 1, 2, 313], []), (.getfield 129, [6, 1, 0, 219], []), (.invokevirtual 190, [2, 0, 0, 6, 450, 451, 452, 42, 453], [zV_countItems]), (.ireturn, [], [])]
def bP_items : xB := [(0, false, iP_items_0)]
theorem eP_items : x_blk bP_items 0 = some (false, iP_items_0) := rfl
theorem kP_items : x_chkB zP_items bP_items = true := by decide +kernel
theorem vP_items : zC zP_items = 1 ∧ zS zP_items = 6 ∧ x_rtc (zR zP_items) = 1 := ⟨rfl, rfl, rfl⟩
def iP_item_0 : List xPI := [(.aload_n 0, [], []), (.iload_n 1, [], []), (.invokevirtual 181, [1, 1, 6, 7, 446, 448, 6, 38, 449], [zP_requirePart]), (.iload_n 3, [], []), (.ifCond .lt 8, [14], []), (.iload_n 3, [], []), (.iconst 3, [], []), (.if_icmp .le 11, [22], []), (.nop, [14], [])]
def iP_item_14 : List xPI := [(.athrow, [1, 63, 65], [])]
def iP_item_22 : List xPI := [(.aload_n 0, [], []), (.getfield 19, [7, 1, 2, 313], []), (.iload_n 1, [], []), (.iload_n 2, [], []), (.invokevirtual 193, [2, 0, 0, 6, 1246, 1247, 1248, 42, 1249], [zV_startOfItem]), (.istore 4, [], []), (.iload 4, [], []), (.iconst (-1), [], []), (.if_icmp .ne 11, [47], []), (.athrow, [3, 196, 198], [])]
def iP_item_47 : List xPI := [(.aload_n 0, [], []), (.getfield 19, [7, 1, 2, 313], []), (.iload_n 1, [], []), (.iload 4, [], []), (.invokevirtual 199, [2, 0, 0, 6, 1273, 1274, 1275, 42, 1276], [zV_endOfItem]), (.istore 5, [], []), (.iload_n 3, [], []), (.tableswitch 72 0 2 #[28, 47, 53], [132, 88, 107, 113], [])]
def iP_item_88 : List xPI := [(.aload_n 0, [], []), (.getfield 27, [7, 2, 2, 314], []), (.getfield 97, [4, 3, 2, 109], []), (.aload_n 0, [], []), (.getfield 19, [7, 1, 2, 313], []), (.getfield 172, [6, 2, 2, 221], []), (.iload 4, [], []), (.iaload, [], []), (.iaload, [], []), (.ireturn, [], [])]
def iP_item_107 : List xPI := [(.iload 5, [], []), (.iload 4, [], []), (.isub, [], []), (.ireturn, [], [])]
def iP_item_113 : List xPI := [(.aload_n 0, [], []), (.getfield 27, [7, 2, 2, 314], []), (.iload_n 1, [], []), (.aload_n 0, [], []), (.getfield 19, [7, 1, 2, 313], []), (.getfield 172, [6, 2, 2, 221], []), (.iload 4, [], []), (.iaload, [], []), (.invokevirtual 184, [2, 0, 0, 4, 1152, 459, 460, 40, 461], [zS_contentAt]), (.ireturn, [], [])]
def iP_item_132 : List xPI := [(.aload_n 0, [], []), (.getfield 19, [7, 1, 2, 313], []), (.iload 4, [], []), (.iload 5, [], []), (.invokevirtual 132, [2, 0, 0, 6, 1235, 1236, 1237, 42, 1238], [zV_sumBeats]), (.ireturn, [], [])]
def bP_item : xB := [(0, false, iP_item_0), (14, false, iP_item_14), (22, false, iP_item_22), (47, false, iP_item_47), (88, false, iP_item_88), (107, false, iP_item_107), (113, false, iP_item_113), (132, false, iP_item_132)]
theorem eP_item : x_blk bP_item 0 = some (false, iP_item_0) ∧ x_blk bP_item 14 = some (false, iP_item_14) ∧ x_blk bP_item 22 = some (false, iP_item_22) ∧ x_blk bP_item 47 = some (false, iP_item_47) ∧ x_blk bP_item 88 = some (false, iP_item_88) ∧ x_blk bP_item 107 = some (false, iP_item_107) ∧ x_blk bP_item 113 = some (false, iP_item_113) ∧ x_blk bP_item 132 = some (false, iP_item_132) := ⟨rfl, rfl, rfl, rfl, rfl, rfl, rfl, rfl⟩
theorem kP_item : x_chkB zP_item bP_item = true := by decide +kernel
theorem vP_item : zC zP_item = 2 ∧ zS zP_item = 12 ∧ x_rtc (zR zP_item) = 1 := ⟨rfl, rfl, rfl⟩
def iP_itemOf_0 : List xPI := [(.aload_n 0, [], []), (.iload_n 1, [], []), (.invokevirtual 181, [1, 1, 6, 7, 446, 448, 6, 38, 449], [zP_requirePart]), (.aload_n 0, [], []), (.iload_n 2, [], []), (.invokevirtual 175, [1, 2, 12, 7, 1223, 1225, 36, 38, 1226], [zP_requirePlayedIndex]), (.istore_n 3, [], []), (.aload_n 0, [], []), (.getfield 19, [7, 1, 2, 313], []), (.iload_n 1, [], []), (.iload_n 3, [], []), (.iconst 1, [], []), (.iadd, [], []), (.invokevirtual 190, [2, 0, 0, 6, 450, 451, 452, 42, 453], [zV_countItems]), (.iconst 1, [], []), (.isub, [], []), (.istore 4, [], []), (.sipush 1000, [], []), (.iload 4, [], []), (.imul, [], []), (.iload_n 3, [], []), (.aload_n 0, [], []), (.getfield 19, [7, 1, 2, 313], []), (.iload_n 1, [], []), (.iload 4, [], []), (.invokevirtual 193, [2, 0, 0, 6, 1246, 1247, 1248, 42, 1249], [zV_startOfItem]), (.isub, [], []), (.iadd, [], []), (.ireturn, [], [])]
def bP_itemOf : xB := [(0, false, iP_itemOf_0)]
theorem eP_itemOf : x_blk bP_itemOf 0 = some (false, iP_itemOf_0) := rfl
theorem kP_itemOf : x_chkB zP_itemOf bP_itemOf = true := by decide +kernel
theorem vP_itemOf : zC zP_itemOf = 3 ∧ zS zP_itemOf = 18 ∧ x_rtc (zR zP_itemOf) = 1 := ⟨rfl, rfl, rfl⟩
def iP_longestRest_0 : List xPI := [(.aload_n 0, [], []), (.iload_n 1, [], []), (.invokevirtual 181, [1, 1, 6, 7, 446, 448, 6, 38, 449], [zP_requirePart]), (.aload_n 0, [], []), (.getfield 19, [7, 1, 2, 313], []), (.iload_n 1, [], []), (.invokevirtual 202, [1, 0, 0, 6, 1282, 1283, 1284, 42, 1285], [zV_longestRestOf]), (.ireturn, [], [])]
def bP_longestRest : xB := [(0, false, iP_longestRest_0)]
theorem eP_longestRest : x_blk bP_longestRest 0 = some (false, iP_longestRest_0) := rfl
theorem kP_longestRest : x_chkB zP_longestRest bP_longestRest = true := by decide +kernel
theorem vP_longestRest : zC zP_longestRest = 1 ∧ zS zP_longestRest = 6 ∧ x_rtc (zR zP_longestRest) = 1 := ⟨rfl, rfl, rfl⟩
def iP_isPrinted_0 : List xPI := [(.aload_n 0, [], []), (.iload_n 1, [], []), (.invokevirtual 181, [1, 1, 6, 7, 446, 448, 6, 38, 449], [zP_requirePart]), (.aload_n 0, [], []), (.getfield 27, [7, 2, 2, 314], []), (.getfield 205, [4, 12, 2, 137], []), (.iload_n 1, [], []), (.aaload, [], []), (.ifnull 7, [21], []), (.iconst 1, [], []), (.goto 4, [22], [])]
def iP_isPrinted_21 : List xPI := [(.iconst 0, [], []), (.nop, [22], [])]
def iP_isPrinted_22 : List xPI := [(.ireturn, [], [])]
def bP_isPrinted : xB := [(0, false, iP_isPrinted_0), (21, false, iP_isPrinted_21), (22, false, iP_isPrinted_22)]
theorem eP_isPrinted : x_blk bP_isPrinted 0 = some (false, iP_isPrinted_0) ∧ x_blk bP_isPrinted 21 = some (false, iP_isPrinted_21) ∧ x_blk bP_isPrinted 22 = some (false, iP_isPrinted_22) := ⟨rfl, rfl, rfl⟩
theorem kP_isPrinted : x_chkB zP_isPrinted bP_isPrinted = true := by decide +kernel
theorem vP_isPrinted : zC zP_isPrinted = 1 ∧ zS zP_isPrinted = 6 ∧ x_rtc (zR zP_isPrinted) = 2 := ⟨rfl, rfl, rfl⟩
def iP_errata_0 : List xPI := [(.aload_n 0, [], []), (.iload_n 1, [], []), (.invokevirtual 181, [1, 1, 6, 7, 446, 448, 6, 38, 449], [zP_requirePart]), (.aload_n 0, [], []), (.getfield 31, [7, 3, 2, 315], []), (.aload_n 0, [], []), (.getfield 19, [7, 1, 2, 313], []), (.iload_n 1, [], []), (.aload_n 0, [], []), (.iload_n 1, [], []), (.invokevirtual 209, [1, 1, 6, 7, 466, 468, 7, 38, 469], [zP_requirePrint]), (.sipush 300, [], []), (.invokevirtual 213, [4, 0, 0, 3, 485, 486, 487, 43, 488], [zE_walk]), (.ireturn, [], [])]
def bP_errata : xB := [(0, false, iP_errata_0)]
theorem eP_errata : x_blk bP_errata 0 = some (false, iP_errata_0) := rfl
theorem kP_errata : x_chkB zP_errata bP_errata = true := by decide +kernel
theorem vP_errata : zC zP_errata = 2 ∧ zS zP_errata = 12 ∧ x_rtc (zR zP_errata) = 1 := ⟨rfl, rfl, rfl⟩
def iP_erratum_0 : List xPI := [(.aload_n 0, [], []), (.iload_n 1, [], []), (.invokevirtual 181, [1, 1, 6, 7, 446, 448, 6, 38, 449], [zP_requirePart]), (.iload_n 3, [], []), (.ifCond .lt 8, [14], []), (.iload_n 3, [], []), (.iconst 2, [], []), (.if_icmp .le 11, [22], []), (.nop, [14], [])]
def iP_erratum_14 : List xPI := [(.athrow, [1, 63, 65], [])]
def iP_erratum_22 : List xPI := [(.aload_n 0, [], []), (.iload_n 1, [], []), (.invokevirtual 209, [1, 1, 6, 7, 466, 468, 7, 38, 469], [zP_requirePrint]), (.astore 4, [], []), (.iload_n 2, [], []), (.ifCond .lt 22, [52], []), (.iload_n 2, [], []), (.aload_n 0, [], []), (.getfield 31, [7, 3, 2, 315], []), (.aload_n 0, [], []), (.getfield 19, [7, 1, 2, 313], []), (.iload_n 1, [], []), (.aload 4, [], []), (.iload_n 2, [], []), (.invokevirtual 213, [4, 0, 0, 3, 485, 486, 487, 43, 488], [zE_walk]), (.if_icmp .lt 11, [60], []), (.nop, [52], [])]
def iP_erratum_52 : List xPI := [(.athrow, [3, 196, 198], [])]
def iP_erratum_60 : List xPI := [(.iload_n 3, [], []), (.lookupswitch 43 #[(0, 27), (1, 35)], [104, 88, 96], [])]
def iP_erratum_88 : List xPI := [(.aload_n 0, [], []), (.getfield 31, [7, 3, 2, 315], []), (.getfield 217, [3, 0, 0, 268], []), (.ireturn, [], [])]
def iP_erratum_96 : List xPI := [(.aload_n 0, [], []), (.getfield 31, [7, 3, 2, 315], []), (.getfield 220, [3, 1, 0, 270], []), (.ireturn, [], [])]
def iP_erratum_104 : List xPI := [(.aload_n 0, [], []), (.getfield 31, [7, 3, 2, 315], []), (.getfield 223, [3, 2, 0, 272], []), (.ireturn, [], [])]
def bP_erratum : xB := [(0, false, iP_erratum_0), (14, false, iP_erratum_14), (22, false, iP_erratum_22), (52, false, iP_erratum_52), (60, false, iP_erratum_60), (88, false, iP_erratum_88), (96, false, iP_erratum_96), (104, false, iP_erratum_104)]
theorem eP_erratum : x_blk bP_erratum 0 = some (false, iP_erratum_0) ∧ x_blk bP_erratum 14 = some (false, iP_erratum_14) ∧ x_blk bP_erratum 22 = some (false, iP_erratum_22) ∧ x_blk bP_erratum 52 = some (false, iP_erratum_52) ∧ x_blk bP_erratum 60 = some (false, iP_erratum_60) ∧ x_blk bP_erratum 88 = some (false, iP_erratum_88) ∧ x_blk bP_erratum 96 = some (false, iP_erratum_96) ∧ x_blk bP_erratum 104 = some (false, iP_erratum_104) := ⟨rfl, rfl, rfl, rfl, rfl, rfl, rfl, rfl⟩
theorem kP_erratum : x_chkB zP_erratum bP_erratum = true := by decide +kernel
theorem vP_erratum : zC zP_erratum = 3 ∧ zS zP_erratum = 18 ∧ x_rtc (zR zP_erratum) = 1 := ⟨rfl, rfl, rfl⟩
def iP_insert_0 : List xPI := [(.iload_n 1, [], []), (.iconst (-1), [], []), (.if_icmp .ne 7, [9], []), (.iconst 0, [], []), (.goto 10, [16], [])]
def iP_insert_9 : List xPI := [(.aload_n 0, [], []), (.iload_n 1, [], []), (.invokevirtual 101, [1, 1, 6, 7, 411, 413, 5, 38, 414], [zP_requirePlace]), (.iconst 1, [], []), (.iadd, [], []), (.nop, [16], [])]
def iP_insert_16 : List xPI := [(.istore 4, [], []), (.iload_n 2, [], []), (.iconst 1, [], []), (.if_icmp .lt 20, [40], []), (.iload_n 2, [], []), (.bipush 20, [], []), (.if_icmp .gt 14, [40], []), (.iload_n 3, [], []), (.iconst 1, [], []), (.if_icmp .lt 9, [40], []), (.iload_n 3, [], []), (.bipush 12, [], []), (.if_icmp .le 11, [48], []), (.nop, [40], [])]
def iP_insert_40 : List xPI := [(.athrow, [1, 63, 65], [])]
def iP_insert_48 : List xPI := [(.aload_n 0, [], []), (.getfield 27, [7, 2, 2, 314], []), (.getfield 79, [4, 0, 0, 98], []), (.iload_n 2, [], []), (.iadd, [], []), (.sipush 150, [], []), (.if_icmp .le 11, [71], []), (.athrow, [0, 56, 58], [])]
def iP_insert_71 : List xPI := [(.aload_n 0, [], []), (.getfield 38, [7, 4, 2, 316], []), (.aload_n 0, [], []), (.getfield 27, [7, 2, 2, 314], []), (.invokevirtual 231, [1, 11, 1730, 0, 509, 510, 511, 44, 512], [zH_keep]), (.aload_n 0, [], []), (.getfield 49, [7, 6, 0, 318], []), (.istore 5, [], []), (.aload_n 0, [], []), (.getfield 27, [7, 2, 2, 314], []), (.iload 4, [], []), (.iload_n 2, [], []), (.iload 5, [], []), (.iload_n 3, [], []), (.iconst 1, [], []), (.invokevirtual 234, [5, 0, 0, 4, 1079, 742, 743, 40, 744], [zS_addBars]), (.aload_n 0, [], []), (.iload 5, [], []), (.iload_n 2, [], []), (.iadd, [], []), (.putfield 49, [7, 6, 0, 318], []), (.aload_n 0, [], []), (.getfield 19, [7, 1, 2, 313], []), (.invokevirtual 85, [0, 0, 0, 6, 532, 533, 534, 42, 535], [zV_refresh]), (.iload 5, [], []), (.ireturn, [], [])]
def bP_insert : xB := [(0, false, iP_insert_0), (9, false, iP_insert_9), (16, false, iP_insert_16), (40, false, iP_insert_40), (48, false, iP_insert_48), (71, false, iP_insert_71)]
theorem eP_insert : x_blk bP_insert 0 = some (false, iP_insert_0) ∧ x_blk bP_insert 9 = some (false, iP_insert_9) ∧ x_blk bP_insert 16 = some (false, iP_insert_16) ∧ x_blk bP_insert 40 = some (false, iP_insert_40) ∧ x_blk bP_insert 48 = some (false, iP_insert_48) ∧ x_blk bP_insert 71 = some (false, iP_insert_71) := ⟨rfl, rfl, rfl, rfl, rfl, rfl⟩
theorem kP_insert : x_chkB zP_insert bP_insert = true := by decide +kernel
theorem vP_insert : zC zP_insert = 12 ∧ zS zP_insert = 1736 ∧ x_rtc (zR zP_insert) = 1 := ⟨rfl, rfl, rfl⟩
def iP_erase_0 : List xPI := [(.aload_n 0, [], []), (.iload_n 1, [], []), (.invokevirtual 101, [1, 1, 6, 7, 411, 413, 5, 38, 414], [zP_requirePlace]), (.istore_n 2, [], []), (.aload_n 0, [], []), (.getfield 27, [7, 2, 2, 314], []), (.getfield 111, [4, 5, 2, 118], []), (.iload_n 2, [], []), (.iaload, [], []), (.ifCond .eq 26, [41], []), (.aload_n 0, [], []), (.getfield 19, [7, 1, 2, 313], []), (.getfield 126, [6, 6, 2, 230], []), (.iload_n 2, [], []), (.iaload, [], []), (.ifCond .ne 14, [41], []), (.aload_n 0, [], []), (.getfield 27, [7, 2, 2, 314], []), (.iload_n 1, [], []), (.invokevirtual 238, [1, 0, 0, 4, 501, 502, 503, 40, 504], [zS_isEndOfCut]), (.ifCond .eq 11, [49], []), (.nop, [41], [])]
def iP_erase_41 : List xPI := [(.athrow, [0, 56, 58], [])]
def iP_erase_49 : List xPI := [(.aload_n 0, [], []), (.getfield 38, [7, 4, 2, 316], []), (.aload_n 0, [], []), (.getfield 27, [7, 2, 2, 314], []), (.invokevirtual 231, [1, 11, 1730, 0, 509, 510, 511, 44, 512], [zH_keep]), (.aload_n 0, [], []), (.getfield 27, [7, 2, 2, 314], []), (.iload_n 2, [], []), (.invokevirtual 241, [1, 0, 0, 4, 524, 525, 526, 40, 527], [zS_removeBar]), (.aload_n 0, [], []), (.getfield 19, [7, 1, 2, 313], []), (.invokevirtual 85, [0, 0, 0, 6, 532, 533, 534, 42, 535], [zV_refresh]), (.aload_n 0, [], []), (.getfield 27, [7, 2, 2, 314], []), (.getfield 79, [4, 0, 0, 98], []), (.ireturn, [], [])]
def bP_erase : xB := [(0, false, iP_erase_0), (41, false, iP_erase_41), (49, false, iP_erase_49)]
theorem eP_erase : x_blk bP_erase 0 = some (false, iP_erase_0) ∧ x_blk bP_erase 41 = some (false, iP_erase_41) ∧ x_blk bP_erase 49 = some (false, iP_erase_49) := ⟨rfl, rfl, rfl⟩
theorem kP_erase : x_chkB zP_erase bP_erase = true := by decide +kernel
theorem vP_erase : zC zP_erase = 12 ∧ zS zP_erase = 1736 ∧ x_rtc (zR zP_erase) = 1 := ⟨rfl, rfl, rfl⟩
def iP_makeCut_0 : List xPI := [(.aload_n 0, [], []), (.iload_n 1, [], []), (.invokevirtual 101, [1, 1, 6, 7, 411, 413, 5, 38, 414], [zP_requirePlace]), (.istore_n 3, [], []), (.aload_n 0, [], []), (.iload_n 2, [], []), (.invokevirtual 101, [1, 1, 6, 7, 411, 413, 5, 38, 414], [zP_requirePlace]), (.istore 4, [], []), (.iload_n 3, [], []), (.iload 4, [], []), (.if_icmp .le 11, [27], []), (.athrow, [1, 63, 65], [])]
def iP_makeCut_27 : List xPI := [(.aload_n 0, [], []), (.getfield 27, [7, 2, 2, 314], []), (.invokevirtual 244, [0, 0, 0, 4, 1097, 1098, 1099, 40, 1100], [zS_firstFreeCut]), (.istore 5, [], []), (.iload 5, [], []), (.iconst (-1), [], []), (.if_icmp .ne 11, [50], []), (.athrow, [0, 56, 58], [])]
def iP_makeCut_50 : List xPI := [(.aload_n 0, [], []), (.getfield 38, [7, 4, 2, 316], []), (.aload_n 0, [], []), (.getfield 27, [7, 2, 2, 314], []), (.invokevirtual 231, [1, 11, 1730, 0, 509, 510, 511, 44, 512], [zH_keep]), (.aload_n 0, [], []), (.getfield 27, [7, 2, 2, 314], []), (.iload 5, [], []), (.iload_n 1, [], []), (.iload_n 2, [], []), (.invokevirtual 248, [3, 0, 0, 4, 1101, 771, 772, 40, 773], [zS_setCut]), (.aload_n 0, [], []), (.getfield 19, [7, 1, 2, 313], []), (.invokevirtual 85, [0, 0, 0, 6, 532, 533, 534, 42, 535], [zV_refresh]), (.iload 5, [], []), (.ireturn, [], [])]
def bP_makeCut : xB := [(0, false, iP_makeCut_0), (27, false, iP_makeCut_27), (50, false, iP_makeCut_50)]
theorem eP_makeCut : x_blk bP_makeCut 0 = some (false, iP_makeCut_0) ∧ x_blk bP_makeCut 27 = some (false, iP_makeCut_27) ∧ x_blk bP_makeCut 50 = some (false, iP_makeCut_50) := ⟨rfl, rfl, rfl⟩
theorem kP_makeCut : x_chkB zP_makeCut bP_makeCut = true := by decide +kernel
theorem vP_makeCut : zC zP_makeCut = 13 ∧ zS zP_makeCut = 1742 ∧ x_rtc (zR zP_makeCut) = 1 := ⟨rfl, rfl, rfl⟩
def iP_openCut_0 : List xPI := [(.aload_n 0, [], []), (.iload_n 1, [], []), (.invokevirtual 139, [1, 1, 6, 7, 1110, 1112, 34, 38, 1113], [zP_requireCut]), (.aload_n 0, [], []), (.getfield 38, [7, 4, 2, 316], []), (.aload_n 0, [], []), (.getfield 27, [7, 2, 2, 314], []), (.invokevirtual 231, [1, 11, 1730, 0, 509, 510, 511, 44, 512], [zH_keep]), (.aload_n 0, [], []), (.getfield 27, [7, 2, 2, 314], []), (.iload_n 1, [], []), (.iconst (-1), [], []), (.iconst (-1), [], []), (.invokevirtual 248, [3, 0, 0, 4, 1101, 771, 772, 40, 773], [zS_setCut]), (.aload_n 0, [], []), (.getfield 19, [7, 1, 2, 313], []), (.invokevirtual 85, [0, 0, 0, 6, 532, 533, 534, 42, 535], [zV_refresh]), (.aload_n 0, [], []), (.getfield 19, [7, 1, 2, 313], []), (.getfield 129, [6, 1, 0, 219], []), (.ireturn, [], [])]
def bP_openCut : xB := [(0, false, iP_openCut_0)]
theorem eP_openCut : x_blk bP_openCut 0 = some (false, iP_openCut_0) := rfl
theorem kP_openCut : x_chkB zP_openCut bP_openCut = true := by decide +kernel
theorem vP_openCut : zC zP_openCut = 12 ∧ zS zP_openCut = 1736 ∧ x_rtc (zR zP_openCut) = 1 := ⟨rfl, rfl, rfl⟩
def iP_putMark_0 : List xPI := [(.aload_n 0, [], []), (.iload_n 2, [], []), (.invokevirtual 101, [1, 1, 6, 7, 411, 413, 5, 38, 414], [zP_requirePlace]), (.istore_n 3, [], []), (.iload_n 1, [], []), (.iconst 1, [], []), (.if_icmp .lt 9, [17], []), (.iload_n 1, [], []), (.bipush 40, [], []), (.if_icmp .le 11, [25], []), (.nop, [17], [])]
def iP_putMark_17 : List xPI := [(.athrow, [1, 63, 65], [])]
def iP_putMark_25 : List xPI := [(.aload_n 0, [], []), (.getfield 19, [7, 1, 2, 313], []), (.getfield 126, [6, 6, 2, 230], []), (.iload_n 3, [], []), (.iaload, [], []), (.istore 4, [], []), (.iload 4, [], []), (.ifCond .eq 13, [51], []), (.iload 4, [], []), (.iload_n 1, [], []), (.if_icmp .eq 7, [51], []), (.iconst 1, [], []), (.goto 4, [52], [])]
def iP_putMark_51 : List xPI := [(.iconst 0, [], []), (.nop, [52], [])]
def iP_putMark_52 : List xPI := [(.istore 5, [], []), (.aload_n 0, [], []), (.getfield 27, [7, 2, 2, 314], []), (.getfield 151, [4, 2, 0, 105], []), (.bipush 20, [], []), (.if_icmp .lt 18, [81], []), (.aload_n 0, [], []), (.getfield 27, [7, 2, 2, 314], []), (.iload_n 1, [], []), (.invokevirtual 252, [1, 0, 0, 4, 1122, 556, 557, 40, 558], [zS_hasMark]), (.ifCond .ne 7, [81], []), (.iconst 1, [], []), (.goto 4, [82], [])]
def iP_putMark_81 : List xPI := [(.iconst 0, [], []), (.nop, [82], [])]
def iP_putMark_82 : List xPI := [(.istore 6, [], []), (.iload 5, [], []), (.ifCond .ne 8, [94], []), (.iload 6, [], []), (.ifCond .eq 11, [102], []), (.nop, [94], [])]
def iP_putMark_94 : List xPI := [(.athrow, [0, 56, 58], [])]
def iP_putMark_102 : List xPI := [(.aload_n 0, [], []), (.getfield 38, [7, 4, 2, 316], []), (.aload_n 0, [], []), (.getfield 27, [7, 2, 2, 314], []), (.invokevirtual 231, [1, 11, 1730, 0, 509, 510, 511, 44, 512], [zH_keep]), (.aload_n 0, [], []), (.getfield 27, [7, 2, 2, 314], []), (.getfield 157, [4, 9, 2, 131], []), (.iload_n 1, [], []), (.iaload, [], []), (.istore 7, [], []), (.aload_n 0, [], []), (.getfield 27, [7, 2, 2, 314], []), (.iload_n 1, [], []), (.iload_n 2, [], []), (.invokevirtual 255, [2, 0, 0, 4, 1123, 755, 756, 40, 757], [zS_setMark]), (.aload_n 0, [], []), (.getfield 19, [7, 1, 2, 313], []), (.invokevirtual 85, [0, 0, 0, 6, 532, 533, 534, 42, 535], [zV_refresh]), (.iload 7, [], []), (.ireturn, [], [])]
def bP_putMark : xB := [(0, false, iP_putMark_0), (17, false, iP_putMark_17), (25, false, iP_putMark_25), (51, false, iP_putMark_51), (52, false, iP_putMark_52), (81, false, iP_putMark_81), (82, false, iP_putMark_82), (94, false, iP_putMark_94), (102, false, iP_putMark_102)]
theorem eP_putMark : x_blk bP_putMark 0 = some (false, iP_putMark_0) ∧ x_blk bP_putMark 17 = some (false, iP_putMark_17) ∧ x_blk bP_putMark 25 = some (false, iP_putMark_25) ∧ x_blk bP_putMark 51 = some (false, iP_putMark_51) ∧ x_blk bP_putMark 52 = some (false, iP_putMark_52) ∧ x_blk bP_putMark 81 = some (false, iP_putMark_81) ∧ x_blk bP_putMark 82 = some (false, iP_putMark_82) ∧ x_blk bP_putMark 94 = some (false, iP_putMark_94) ∧ x_blk bP_putMark 102 = some (false, iP_putMark_102) := ⟨rfl, rfl, rfl, rfl, rfl, rfl, rfl, rfl, rfl⟩
theorem kP_putMark : x_chkB zP_putMark bP_putMark = true := by decide +kernel
theorem vP_putMark : zC zP_putMark = 12 ∧ zS zP_putMark = 1736 ∧ x_rtc (zR zP_putMark) = 1 := ⟨rfl, rfl, rfl⟩
def iP_removeMark_0 : List xPI := [(.aload_n 0, [], []), (.iload_n 1, [], []), (.invokevirtual 154, [1, 1, 6, 7, 1131, 1133, 35, 38, 1134], [zP_requireMark]), (.aload_n 0, [], []), (.getfield 38, [7, 4, 2, 316], []), (.aload_n 0, [], []), (.getfield 27, [7, 2, 2, 314], []), (.invokevirtual 231, [1, 11, 1730, 0, 509, 510, 511, 44, 512], [zH_keep]), (.aload_n 0, [], []), (.getfield 27, [7, 2, 2, 314], []), (.iload_n 1, [], []), (.iconst (-1), [], []), (.invokevirtual 255, [2, 0, 0, 4, 1123, 755, 756, 40, 757], [zS_setMark]), (.aload_n 0, [], []), (.getfield 19, [7, 1, 2, 313], []), (.invokevirtual 85, [0, 0, 0, 6, 532, 533, 534, 42, 535], [zV_refresh]), (.aload_n 0, [], []), (.getfield 27, [7, 2, 2, 314], []), (.getfield 151, [4, 2, 0, 105], []), (.ireturn, [], [])]
def bP_removeMark : xB := [(0, false, iP_removeMark_0)]
theorem eP_removeMark : x_blk bP_removeMark 0 = some (false, iP_removeMark_0) := rfl
theorem kP_removeMark : x_chkB zP_removeMark bP_removeMark = true := by decide +kernel
theorem vP_removeMark : zC zP_removeMark = 12 ∧ zS zP_removeMark = 1736 ∧ x_rtc (zR zP_removeMark) = 1 := ⟨rfl, rfl, rfl⟩
def iP_reletter_0 : List xPI := [(.aload_n 0, [], []), (.getfield 38, [7, 4, 2, 316], []), (.aload_n 0, [], []), (.getfield 27, [7, 2, 2, 314], []), (.invokevirtual 231, [1, 11, 1730, 0, 509, 510, 511, 44, 512], [zH_keep]), (.aload_n 0, [], []), (.getfield 27, [7, 2, 2, 314], []), (.getfield 157, [4, 9, 2, 131], []), (.iconst (-1), [], []), (.invokestatic 259, [2, 0, 0, 1139, 92, 41, 93], [zA_fill]), (.iconst 0, [], []), (.istore_n 1, [], []), (.iconst 0, [], []), (.istore_n 2, [], []), (.iconst 0, [], []), (.istore_n 3, [], []), (.nop, [28], [])]
def iP_reletter_28 : List xPI := [(.iload_n 3, [], []), (.aload_n 0, [], []), (.getfield 27, [7, 2, 2, 314], []), (.getfield 79, [4, 0, 0, 98], []), (.if_icmp .ge 69, [105], []), (.aload_n 0, [], []), (.getfield 19, [7, 1, 2, 313], []), (.getfield 126, [6, 6, 2, 230], []), (.iload_n 3, [], []), (.iaload, [], []), (.ifCond .eq 51, [99], []), (.iload_n 1, [], []), (.bipush 40, [], []), (.if_icmp .ge 45, [99], []), (.iinc 1 1, [], []), (.aload_n 0, [], []), (.getfield 27, [7, 2, 2, 314], []), (.getfield 157, [4, 9, 2, 131], []), (.iload_n 1, [], []), (.aload_n 0, [], []), (.getfield 27, [7, 2, 2, 314], []), (.getfield 97, [4, 3, 2, 109], []), (.iload_n 3, [], []), (.iaload, [], []), (.iastore, [], []), (.iload_n 2, [], []), (.aload_n 0, [], []), (.getfield 19, [7, 1, 2, 313], []), (.getfield 126, [6, 6, 2, 230], []), (.iload_n 3, [], []), (.iaload, [], []), (.iload_n 1, [], []), (.if_icmp .ne 7, [96], []), (.iconst 0, [], []), (.goto 4, [97], [])]
def iP_reletter_96 : List xPI := [(.iconst 1, [], []), (.nop, [97], [])]
def iP_reletter_97 : List xPI := [(.iadd, [], []), (.istore_n 2, [], []), (.nop, [99], [])]
def iP_reletter_99 : List xPI := [(.iinc 3 1, [], []), (.goto (-74), [28], [])]
def iP_reletter_105 : List xPI := [(.aload_n 0, [], []), (.getfield 19, [7, 1, 2, 313], []), (.invokevirtual 85, [0, 0, 0, 6, 532, 533, 534, 42, 535], [zV_refresh]), (.iload_n 2, [], []), (.ireturn, [], [])]
def bP_reletter : xB := [(0, false, iP_reletter_0), (28, true, iP_reletter_28), (96, false, iP_reletter_96), (97, false, iP_reletter_97), (99, false, iP_reletter_99), (105, false, iP_reletter_105)]
theorem eP_reletter : x_blk bP_reletter 0 = some (false, iP_reletter_0) ∧ x_blk bP_reletter 28 = some (true, iP_reletter_28) ∧ x_blk bP_reletter 96 = some (false, iP_reletter_96) ∧ x_blk bP_reletter 97 = some (false, iP_reletter_97) ∧ x_blk bP_reletter 99 = some (false, iP_reletter_99) ∧ x_blk bP_reletter 105 = some (false, iP_reletter_105) := ⟨rfl, rfl, rfl, rfl, rfl, rfl⟩
theorem kP_reletter : x_chkB zP_reletter bP_reletter = true := by decide +kernel
theorem vP_reletter : zC zP_reletter = 11 ∧ zS zP_reletter = 1730 ∧ x_rtc (zR zP_reletter) = 1 := ⟨rfl, rfl, rfl⟩
def iP_renumber_0 : List xPI := [(.aload_n 0, [], []), (.getfield 38, [7, 4, 2, 316], []), (.aload_n 0, [], []), (.getfield 27, [7, 2, 2, 314], []), (.invokevirtual 231, [1, 11, 1730, 0, 509, 510, 511, 44, 512], [zH_keep]), (.iconst 0, [], []), (.istore_n 1, [], []), (.iconst 0, [], []), (.istore_n 2, [], []), (.nop, [15], [])]
def iP_renumber_15 : List xPI := [(.iload_n 2, [], []), (.aload_n 0, [], []), (.getfield 27, [7, 2, 2, 314], []), (.getfield 79, [4, 0, 0, 98], []), (.if_icmp .ge 46, [69], []), (.aload_n 0, [], []), (.getfield 27, [7, 2, 2, 314], []), (.getfield 111, [4, 5, 2, 118], []), (.iload_n 2, [], []), (.iconst 0, [], []), (.iastore, [], []), (.iload_n 1, [], []), (.aload_n 0, [], []), (.getfield 19, [7, 1, 2, 313], []), (.getfield 105, [6, 4, 2, 227], []), (.iload_n 2, [], []), (.iaload, [], []), (.sipush 1000, [], []), (.iload_n 2, [], []), (.iconst 1, [], []), (.iadd, [], []), (.imul, [], []), (.if_icmp .ne 7, [60], []), (.iconst 0, [], []), (.goto 4, [61], [])]
def iP_renumber_60 : List xPI := [(.iconst 1, [], []), (.nop, [61], [])]
def iP_renumber_61 : List xPI := [(.iadd, [], []), (.istore_n 1, [], []), (.iinc 2 1, [], []), (.goto (-51), [15], [])]
def iP_renumber_69 : List xPI := [(.aload_n 0, [], []), (.getfield 19, [7, 1, 2, 313], []), (.invokevirtual 85, [0, 0, 0, 6, 532, 533, 534, 42, 535], [zV_refresh]), (.iload_n 1, [], []), (.ireturn, [], [])]
def bP_renumber : xB := [(0, false, iP_renumber_0), (15, true, iP_renumber_15), (60, false, iP_renumber_60), (61, false, iP_renumber_61), (69, false, iP_renumber_69)]
theorem eP_renumber : x_blk bP_renumber 0 = some (false, iP_renumber_0) ∧ x_blk bP_renumber 15 = some (true, iP_renumber_15) ∧ x_blk bP_renumber 60 = some (false, iP_renumber_60) ∧ x_blk bP_renumber 61 = some (false, iP_renumber_61) ∧ x_blk bP_renumber 69 = some (false, iP_renumber_69) := ⟨rfl, rfl, rfl, rfl, rfl⟩
theorem kP_renumber : x_chkB zP_renumber bP_renumber = true := by decide +kernel
theorem vP_renumber : zC zP_renumber = 11 ∧ zS zP_renumber = 1730 ∧ x_rtc (zR zP_renumber) = 1 := ⟨rfl, rfl, rfl⟩
def iP_setBar_0 : List xPI := [(.aload_n 0, [], []), (.iload_n 1, [], []), (.invokevirtual 101, [1, 1, 6, 7, 411, 413, 5, 38, 414], [zP_requirePlace]), (.istore 4, [], []), (.iload_n 2, [], []), (.iconst 2, [], []), (.if_icmp .ne 18, [27], []), (.iload_n 3, [], []), (.iconst 1, [], []), (.if_icmp .lt 13, [27], []), (.iload_n 3, [], []), (.bipush 12, [], []), (.if_icmp .gt 7, [27], []), (.iconst 1, [], []), (.goto 4, [28], [])]
def iP_setBar_27 : List xPI := [(.iconst 0, [], []), (.nop, [28], [])]
def iP_setBar_28 : List xPI := [(.istore 5, [], []), (.iload_n 2, [], []), (.iconst 4, [], []), (.if_icmp .eq 8, [40], []), (.iload_n 2, [], []), (.iconst 5, [], []), (.if_icmp .ne 16, [53], []), (.nop, [40], [])]
def iP_setBar_40 : List xPI := [(.iload_n 3, [], []), (.ifCond .eq 8, [49], []), (.iload_n 3, [], []), (.iconst 1, [], []), (.if_icmp .ne 7, [53], []), (.nop, [49], [])]
def iP_setBar_49 : List xPI := [(.iconst 1, [], []), (.goto 4, [54], [])]
def iP_setBar_53 : List xPI := [(.iconst 0, [], []), (.nop, [54], [])]
def iP_setBar_54 : List xPI := [(.istore 6, [], []), (.iload 5, [], []), (.ifCond .ne 16, [74], []), (.iload 6, [], []), (.ifCond .ne 11, [74], []), (.athrow, [1, 63, 65], [])]
def iP_setBar_74 : List xPI := [(.aload_n 0, [], []), (.getfield 38, [7, 4, 2, 316], []), (.aload_n 0, [], []), (.getfield 27, [7, 2, 2, 314], []), (.invokevirtual 231, [1, 11, 1730, 0, 509, 510, 511, 44, 512], [zH_keep]), (.iload 5, [], []), (.ifCond .eq 13, [100], []), (.aload_n 0, [], []), (.getfield 27, [7, 2, 2, 314], []), (.getfield 108, [4, 4, 2, 114], []), (.goto 25, [122], [])]
def iP_setBar_100 : List xPI := [(.iload_n 2, [], []), (.iconst 4, [], []), (.if_icmp .ne 13, [115], []), (.aload_n 0, [], []), (.getfield 27, [7, 2, 2, 314], []), (.getfield 114, [4, 6, 2, 121], []), (.goto 10, [122], [])]
def iP_setBar_115 : List xPI := [(.aload_n 0, [], []), (.getfield 27, [7, 2, 2, 314], []), (.getfield 117, [4, 7, 2, 125], []), (.nop, [122], [])]
def iP_setBar_122 : List xPI := [(.astore 7, [], []), (.aload 7, [], []), (.iload 4, [], []), (.iaload, [], []), (.istore 8, [], []), (.aload 7, [], []), (.iload 4, [], []), (.iload_n 3, [], []), (.iastore, [], []), (.aload_n 0, [], []), (.getfield 19, [7, 1, 2, 313], []), (.invokevirtual 85, [0, 0, 0, 6, 532, 533, 534, 42, 535], [zV_refresh]), (.iload 8, [], []), (.ireturn, [], [])]
def bP_setBar : xB := [(0, false, iP_setBar_0), (27, false, iP_setBar_27), (28, false, iP_setBar_28), (40, false, iP_setBar_40), (49, false, iP_setBar_49), (53, false, iP_setBar_53), (54, false, iP_setBar_54), (74, false, iP_setBar_74), (100, false, iP_setBar_100), (115, false, iP_setBar_115), (122, false, iP_setBar_122)]
theorem eP_setBar : x_blk bP_setBar 0 = some (false, iP_setBar_0) ∧ x_blk bP_setBar 27 = some (false, iP_setBar_27) ∧ x_blk bP_setBar 28 = some (false, iP_setBar_28) ∧ x_blk bP_setBar 40 = some (false, iP_setBar_40) ∧ x_blk bP_setBar 49 = some (false, iP_setBar_49) ∧ x_blk bP_setBar 53 = some (false, iP_setBar_53) ∧ x_blk bP_setBar 54 = some (false, iP_setBar_54) ∧ x_blk bP_setBar 74 = some (false, iP_setBar_74) ∧ x_blk bP_setBar 100 = some (false, iP_setBar_100) ∧ x_blk bP_setBar 115 = some (false, iP_setBar_115) ∧ x_blk bP_setBar 122 = some (false, iP_setBar_122) := ⟨rfl, rfl, rfl, rfl, rfl, rfl, rfl, rfl, rfl, rfl, rfl⟩
theorem kP_setBar : x_chkB zP_setBar bP_setBar = true := by decide +kernel
theorem vP_setBar : zC zP_setBar = 12 ∧ zS zP_setBar = 1736 ∧ x_rtc (zR zP_setBar) = 1 := ⟨rfl, rfl, rfl⟩
def iP_setContent_0 : List xPI := [(.aload_n 0, [], []), (.iload_n 1, [], []), (.invokevirtual 181, [1, 1, 6, 7, 446, 448, 6, 38, 449], [zP_requirePart]), (.aload_n 0, [], []), (.iload_n 2, [], []), (.invokevirtual 101, [1, 1, 6, 7, 411, 413, 5, 38, 414], [zP_requirePlace]), (.istore 4, [], []), (.iload_n 3, [], []), (.ifCond .lt 8, [21], []), (.iload_n 3, [], []), (.iconst 2, [], []), (.if_icmp .le 11, [29], []), (.nop, [21], [])]
def iP_setContent_21 : List xPI := [(.athrow, [1, 63, 65], [])]
def iP_setContent_29 : List xPI := [(.aload_n 0, [], []), (.getfield 38, [7, 4, 2, 316], []), (.aload_n 0, [], []), (.getfield 27, [7, 2, 2, 314], []), (.invokevirtual 231, [1, 11, 1730, 0, 509, 510, 511, 44, 512], [zH_keep]), (.aload_n 0, [], []), (.getfield 27, [7, 2, 2, 314], []), (.iload_n 1, [], []), (.iload 4, [], []), (.invokevirtual 184, [2, 0, 0, 4, 1152, 459, 460, 40, 461], [zS_contentAt]), (.istore 5, [], []), (.aload_n 0, [], []), (.getfield 27, [7, 2, 2, 314], []), (.iload_n 1, [], []), (.iload 4, [], []), (.iload_n 3, [], []), (.invokevirtual 265, [3, 0, 0, 4, 1153, 746, 747, 40, 748], [zS_putContent]), (.iload 5, [], []), (.ireturn, [], [])]
def bP_setContent : xB := [(0, false, iP_setContent_0), (21, false, iP_setContent_21), (29, false, iP_setContent_29)]
theorem eP_setContent : x_blk bP_setContent 0 = some (false, iP_setContent_0) ∧ x_blk bP_setContent 21 = some (false, iP_setContent_21) ∧ x_blk bP_setContent 29 = some (false, iP_setContent_29) := ⟨rfl, rfl, rfl⟩
theorem kP_setContent : x_chkB zP_setContent bP_setContent = true := by decide +kernel
theorem vP_setContent : zC zP_setContent = 13 ∧ zS zP_setContent = 1742 ∧ x_rtc (zR zP_setContent) = 1 := ⟨rfl, rfl, rfl⟩
def iP_print_0 : List xPI := [(.aload_n 0, [], []), (.iload_n 1, [], []), (.invokevirtual 181, [1, 1, 6, 7, 446, 448, 6, 38, 449], [zP_requirePart]), (.aload_n 0, [], []), (.getfield 38, [7, 4, 2, 316], []), (.aload_n 0, [], []), (.getfield 27, [7, 2, 2, 314], []), (.invokevirtual 231, [1, 11, 1730, 0, 509, 510, 511, 44, 512], [zH_keep]), (.aload_n 0, [], []), (.getfield 27, [7, 2, 2, 314], []), (.getfield 205, [4, 12, 2, 137], []), (.iload_n 1, [], []), (.new 227, [1, 583, 584, 63], []), (.dup, [], []), (.aload_n 0, [], []), (.getfield 19, [7, 1, 2, 313], []), (.iload_n 1, [], []), (.invokespecial 268, [2, 5, 750, 1, 0, 585, 586, 63, 587], [zN_init]), (.aastore, [], []), (.aload_n 0, [], []), (.getfield 19, [7, 1, 2, 313], []), (.iload_n 1, [], []), (.aload_n 0, [], []), (.getfield 19, [7, 1, 2, 313], []), (.getfield 129, [6, 1, 0, 219], []), (.invokevirtual 190, [2, 0, 0, 6, 450, 451, 452, 42, 453], [zV_countItems]), (.ireturn, [], [])]
def bP_print : xB := [(0, false, iP_print_0)]
theorem eP_print : x_blk bP_print 0 = some (false, iP_print_0) := rfl
theorem kP_print : x_chkB zP_print bP_print = true := by decide +kernel
theorem vP_print : zC zP_print = 18 ∧ zS zP_print = 2492 ∧ x_rtc (zR zP_print) = 1 := ⟨rfl, rfl, rfl⟩
def iP_undo_0 : List xPI := [(.aload_n 0, [], []), (.getfield 38, [7, 4, 2, 316], []), (.getfield 271, [0, 2, 0, 291], []), (.ifCond .ne 11, [18], []), (.athrow, [0, 56, 58], [])]
def iP_undo_18 : List xPI := [(.aload_n 0, [], []), (.getfield 38, [7, 4, 2, 316], []), (.aload_n 0, [], []), (.getfield 27, [7, 2, 2, 314], []), (.invokevirtual 274, [1, 0, 0, 0, 1161, 1162, 1163, 44, 1164], [zH_bringBack]), (.aload_n 0, [], []), (.getfield 19, [7, 1, 2, 313], []), (.invokevirtual 85, [0, 0, 0, 6, 532, 533, 534, 42, 535], [zV_refresh]), (.aload_n 0, [], []), (.getfield 38, [7, 4, 2, 316], []), (.getfield 271, [0, 2, 0, 291], []), (.ireturn, [], [])]
def bP_undo : xB := [(0, false, iP_undo_0), (18, false, iP_undo_18)]
theorem eP_undo : x_blk bP_undo 0 = some (false, iP_undo_0) ∧ x_blk bP_undo 18 = some (false, iP_undo_18) := ⟨rfl, rfl⟩
theorem kP_undo : x_chkB zP_undo bP_undo = true := by decide +kernel
theorem vP_undo : zC zP_undo = 1 ∧ zS zP_undo = 6 ∧ x_rtc (zR zP_undo) = 1 := ⟨rfl, rfl, rfl⟩
def iP_undoCount_0 : List xPI := [(.aload_n 0, [], []), (.getfield 38, [7, 4, 2, 316], []), (.getfield 271, [0, 2, 0, 291], []), (.ireturn, [], [])]
def bP_undoCount : xB := [(0, false, iP_undoCount_0)]
theorem eP_undoCount : x_blk bP_undoCount 0 = some (false, iP_undoCount_0) := rfl
theorem kP_undoCount : x_chkB zP_undoCount bP_undoCount = true := by decide +kernel
theorem vP_undoCount : zC zP_undoCount = 0 ∧ zS zP_undoCount = 0 ∧ x_rtc (zR zP_undoCount) = 1 := ⟨rfl, rfl, rfl⟩
def iP_requirePlace_0 : List xPI := [(.aload_n 0, [], []), (.getfield 27, [7, 2, 2, 314], []), (.iload_n 1, [], []), (.invokevirtual 287, [1, 0, 0, 4, 415, 416, 417, 40, 418], [zS_placeOf]), (.istore_n 2, [], []), (.iload_n 2, [], []), (.iconst (-1), [], []), (.if_icmp .ne 11, [22], []), (.athrow, [2, 94, 96], [])]
def iP_requirePlace_22 : List xPI := [(.iload_n 2, [], []), (.ireturn, [], [])]
def bP_requirePlace : xB := [(0, false, iP_requirePlace_0), (22, false, iP_requirePlace_22)]
theorem eP_requirePlace : x_blk bP_requirePlace 0 = some (false, iP_requirePlace_0) ∧ x_blk bP_requirePlace 22 = some (false, iP_requirePlace_22) := ⟨rfl, rfl⟩
theorem kP_requirePlace : x_chkB zP_requirePlace bP_requirePlace = true := by decide +kernel
theorem vP_requirePlace : zC zP_requirePlace = 1 ∧ zS zP_requirePlace = 6 ∧ x_rtc (zR zP_requirePlace) = 1 := ⟨rfl, rfl, rfl⟩
def iP_requirePlayedIndex_0 : List xPI := [(.aload_n 0, [], []), (.iload_n 1, [], []), (.invokevirtual 101, [1, 1, 6, 7, 411, 413, 5, 38, 414], [zP_requirePlace]), (.istore_n 2, [], []), (.aload_n 0, [], []), (.getfield 19, [7, 1, 2, 313], []), (.iload_n 2, [], []), (.invokevirtual 120, [1, 0, 0, 6, 419, 420, 421, 42, 422], [zV_isPlayed]), (.ifCond .ne 11, [25], []), (.athrow, [0, 56, 58], [])]
def iP_requirePlayedIndex_25 : List xPI := [(.aload_n 0, [], []), (.getfield 19, [7, 1, 2, 313], []), (.getfield 169, [6, 3, 2, 223], []), (.iload_n 2, [], []), (.iaload, [], []), (.ireturn, [], [])]
def bP_requirePlayedIndex : xB := [(0, false, iP_requirePlayedIndex_0), (25, false, iP_requirePlayedIndex_25)]
theorem eP_requirePlayedIndex : x_blk bP_requirePlayedIndex 0 = some (false, iP_requirePlayedIndex_0) ∧ x_blk bP_requirePlayedIndex 25 = some (false, iP_requirePlayedIndex_25) := ⟨rfl, rfl⟩
theorem kP_requirePlayedIndex : x_chkB zP_requirePlayedIndex bP_requirePlayedIndex = true := by decide +kernel
theorem vP_requirePlayedIndex : zC zP_requirePlayedIndex = 2 ∧ zS zP_requirePlayedIndex = 12 ∧ x_rtc (zR zP_requirePlayedIndex) = 1 := ⟨rfl, rfl, rfl⟩
def iP_requireCut_0 : List xPI := [(.aload_n 0, [], []), (.getfield 27, [7, 2, 2, 314], []), (.iload_n 1, [], []), (.invokevirtual 136, [1, 0, 0, 4, 1114, 506, 507, 40, 508], [zS_hasCut]), (.ifCond .ne 11, [19], []), (.athrow, [2, 94, 96], [])]
def iP_requireCut_19 : List xPI := [(.return_, [], [])]
def bP_requireCut : xB := [(0, false, iP_requireCut_0), (19, false, iP_requireCut_19)]
theorem eP_requireCut : x_blk bP_requireCut 0 = some (false, iP_requireCut_0) ∧ x_blk bP_requireCut 19 = some (false, iP_requireCut_19) := ⟨rfl, rfl⟩
theorem kP_requireCut : x_chkB zP_requireCut bP_requireCut = true := by decide +kernel
theorem vP_requireCut : zC zP_requireCut = 1 ∧ zS zP_requireCut = 6 ∧ x_rtc (zR zP_requireCut) = 0 := ⟨rfl, rfl, rfl⟩
def iP_requireMark_0 : List xPI := [(.aload_n 0, [], []), (.getfield 27, [7, 2, 2, 314], []), (.iload_n 1, [], []), (.invokevirtual 252, [1, 0, 0, 4, 1122, 556, 557, 40, 558], [zS_hasMark]), (.ifCond .ne 11, [19], []), (.athrow, [2, 94, 96], [])]
def iP_requireMark_19 : List xPI := [(.return_, [], [])]
def bP_requireMark : xB := [(0, false, iP_requireMark_0), (19, false, iP_requireMark_19)]
theorem eP_requireMark : x_blk bP_requireMark 0 = some (false, iP_requireMark_0) ∧ x_blk bP_requireMark 19 = some (false, iP_requireMark_19) := ⟨rfl, rfl⟩
theorem kP_requireMark : x_chkB zP_requireMark bP_requireMark = true := by decide +kernel
theorem vP_requireMark : zC zP_requireMark = 1 ∧ zS zP_requireMark = 6 ∧ x_rtc (zR zP_requireMark) = 0 := ⟨rfl, rfl, rfl⟩
def iP_requirePart_0 : List xPI := [(.iload_n 1, [], []), (.ifCond .lt 14, [15], []), (.iload_n 1, [], []), (.aload_n 0, [], []), (.getfield 27, [7, 2, 2, 314], []), (.getfield 178, [4, 1, 0, 102], []), (.if_icmp .lt 11, [23], []), (.nop, [15], [])]
def iP_requirePart_15 : List xPI := [(.athrow, [2, 94, 96], [])]
def iP_requirePart_23 : List xPI := [(.return_, [], [])]
def bP_requirePart : xB := [(0, false, iP_requirePart_0), (15, false, iP_requirePart_15), (23, false, iP_requirePart_23)]
theorem eP_requirePart : x_blk bP_requirePart 0 = some (false, iP_requirePart_0) ∧ x_blk bP_requirePart 15 = some (false, iP_requirePart_15) ∧ x_blk bP_requirePart 23 = some (false, iP_requirePart_23) := ⟨rfl, rfl, rfl⟩
theorem kP_requirePart : x_chkB zP_requirePart bP_requirePart = true := by decide +kernel
theorem vP_requirePart : zC zP_requirePart = 1 ∧ zS zP_requirePart = 6 ∧ x_rtc (zR zP_requirePart) = 0 := ⟨rfl, rfl, rfl⟩
def iP_requirePrint_0 : List xPI := [(.aload_n 0, [], []), (.getfield 27, [7, 2, 2, 314], []), (.getfield 205, [4, 12, 2, 137], []), (.iload_n 1, [], []), (.aaload, [], []), (.astore_n 2, [], []), (.aload_n 2, [], []), (.ifnonnull 11, [22], []), (.athrow, [0, 56, 58], [])]
def iP_requirePrint_22 : List xPI := [(.aload_n 2, [], []), (.areturn, [], [])]
def bP_requirePrint : xB := [(0, false, iP_requirePrint_0), (22, false, iP_requirePrint_22)]
theorem eP_requirePrint : x_blk bP_requirePrint 0 = some (false, iP_requirePrint_0) ∧ x_blk bP_requirePrint 22 = some (false, iP_requirePrint_22) := ⟨rfl, rfl⟩
theorem kP_requirePrint : x_chkB zP_requirePrint bP_requirePrint = true := by decide +kernel
theorem vP_requirePrint : zC zP_requirePrint = 1 ∧ zS zP_requirePrint = 6 ∧ x_rtc (zR zP_requirePrint) = 4 := ⟨rfl, rfl, rfl⟩
