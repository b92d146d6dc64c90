/-! tables by program (wip/whole/gen.py) -/
def iM_init_0 : List xPI := [(.aload_n 0, [], []), (.invokespecial 1, [1003, 1233, 136, 137], []), (.aload_n 0, [], []), (.sipush 2171, [], []), (.newarray .int, [20, 232], []), (.putfield 7, [8, 1, 2, 1243], []), (.aload_n 0, [], []), (.sipush 2171, [], []), (.newarray .int, [20, 232], []), (.putfield 13, [8, 2, 2, 1244], []), (.aload_n 0, [], []), (.sipush 21710, [], []), (.newarray .int, [20, 232], []), (.putfield 16, [8, 3, 2, 1245], []), (.aload_n 0, [], []), (.bipush 6, [], []), (.newarray .long, [22, 1345], []), (.putfield 19, [8, 4, 2, 1246], []), (.aload_n 0, [], []), (.sipush 800, [], []), (.newarray .int, [20, 232], []), (.putfield 23, [8, 7, 2, 1249], []), (.aload_n 0, [], []), (.iconst (-1), [], []), (.putfield 26, [8, 16, 0, 1258], []), (.aload_n 0, [], []), (.sipush 150, [], []), (.newarray .int, [20, 232], []), (.putfield 30, [8, 20, 2, 1262], []), (.aload_n 0, [], []), (.sipush 150, [], []), (.newarray .int, [20, 232], []), (.putfield 33, [8, 21, 2, 1263], []), (.aload_n 0, [], []), (.sipush 150, [], []), (.newarray .int, [20, 232], []), (.putfield 36, [8, 22, 2, 1264], []), (.aload_n 0, [], []), (.bipush 41, [], []), (.newarray .int, [20, 232], []), (.putfield 39, [8, 23, 2, 1265], []), (.aload_n 0, [], []), (.sipush 150, [], []), (.newarray .int, [20, 232], []), (.putfield 42, [8, 24, 2, 1266], []), (.aload_n 0, [], []), (.sipush 150, [], []), (.newarray .int, [20, 232], []), (.putfield 45, [8, 25, 2, 1267], []), (.aload_n 0, [], []), (.sipush 151, [], []), (.newarray .int, [20, 232], []), (.putfield 48, [8, 27, 2, 1269], []), (.aload_n 0, [], []), (.sipush 300, [], []), (.newarray .int, [20, 232], []), (.putfield 51, [8, 29, 2, 1271], []), (.aload_n 0, [], []), (.bipush 41, [], []), (.newarray .int, [20, 232], []), (.putfield 54, [8, 31, 2, 1273], []), (.aload_n 0, [], []), (.sipush 4000, [], []), (.newarray .int, [20, 232], []), (.putfield 57, [8, 32, 2, 1274], []), (.aload_n 0, [], []), (.invokevirtual 60, [0, 0, 0, 8, 1234, 1236, 39, 115, 1237], [zM_clears]), (.aload_n 0, [], []), (.invokevirtual 63, [0, 0, 0, 8, 1238, 1240, 40, 115, 1241], [zM_takesDraft]), (.return_, [], [])]
def bM_init : xB := [(0, false, iM_init_0)]
theorem eM_init : x_blk bM_init 0 = some (false, iM_init_0) := rfl
theorem kM_init : x_chkB zM_init bM_init = true := by decide +kernel
theorem vM_init : zC zM_init = 15 ∧ zS zM_init = 32141 ∧ x_rtc (zR zM_init) = 0 := ⟨rfl, rfl, rfl⟩
def iM_thrown_0 : List xPI := [(.aload_n 0, [], []), (.getfield 66, [8, 0, 0, 1242], []), (.ireturn, [], [])]
def bM_thrown : xB := [(0, false, iM_thrown_0)]
theorem eM_thrown : x_blk bM_thrown 0 = some (false, iM_thrown_0) := rfl
theorem kM_thrown : x_chkB zM_thrown bM_thrown = true := by decide +kernel
theorem vM_thrown : zC zM_thrown = 0 ∧ zS zM_thrown = 0 ∧ x_rtc (zR zM_thrown) = 1 := ⟨rfl, rfl, rfl⟩
def iM_refuse_0 : List xPI := [(.aload_n 0, [], []), (.iload_n 1, [], []), (.putfield 66, [8, 0, 0, 1242], []), (.iconst 0, [], []), (.ireturn, [], [])]
def bM_refuse : xB := [(0, false, iM_refuse_0)]
theorem eM_refuse : x_blk bM_refuse 0 = some (false, iM_refuse_0) := rfl
theorem kM_refuse : x_chkB zM_refuse bM_refuse = true := by decide +kernel
theorem vM_refuse : zC zM_refuse = 0 ∧ zS zM_refuse = 0 ∧ x_rtc (zR zM_refuse) = 1 := ⟨rfl, rfl, rfl⟩
def iM_told_0 : List xPI := [(.aload_n 0, [], []), (.iconst 0, [], []), (.putfield 66, [8, 0, 0, 1242], []), (.iload_n 1, [], []), (.ireturn, [], [])]
def bM_told : xB := [(0, false, iM_told_0)]
theorem eM_told : x_blk bM_told 0 = some (false, iM_told_0) := rfl
theorem kM_told : x_chkB zM_told bM_told = true := by decide +kernel
theorem vM_told : zC zM_told = 0 ∧ zS zM_told = 0 ∧ x_rtc (zR zM_told) = 1 := ⟨rfl, rfl, rfl⟩
def iM_isRefused_0 : List xPI := [(.aload_n 0, [], []), (.iload_n 1, [], []), (.putfield 66, [8, 0, 0, 1242], []), (.iload_n 1, [], []), (.ifCond .le 7, [13], []), (.iconst 1, [], []), (.goto 4, [14], [])]
def iM_isRefused_13 : List xPI := [(.iconst 0, [], []), (.nop, [14], [])]
def iM_isRefused_14 : List xPI := [(.ireturn, [], [])]
def bM_isRefused : xB := [(0, false, iM_isRefused_0), (13, false, iM_isRefused_13), (14, false, iM_isRefused_14)]
theorem eM_isRefused : x_blk bM_isRefused 0 = some (false, iM_isRefused_0) ∧ x_blk bM_isRefused 13 = some (false, iM_isRefused_13) ∧ x_blk bM_isRefused 14 = some (false, iM_isRefused_14) := ⟨rfl, rfl, rfl⟩
theorem kM_isRefused : x_chkB zM_isRefused bM_isRefused = true := by decide +kernel
theorem vM_isRefused : zC zM_isRefused = 0 ∧ zS zM_isRefused = 0 ∧ x_rtc (zR zM_isRefused) = 2 := ⟨rfl, rfl, rfl⟩
def iM_in_0 : List xPI := [(.iload_n 0, [], []), (.iload_n 1, [], []), (.if_icmp .lt 12, [14], []), (.iload_n 0, [], []), (.iload_n 2, [], []), (.if_icmp .gt 7, [14], []), (.iconst 1, [], []), (.goto 4, [15], [])]
def iM_in_14 : List xPI := [(.iconst 0, [], []), (.nop, [15], [])]
def iM_in_15 : List xPI := [(.ireturn, [], [])]
def bM_in : xB := [(0, false, iM_in_0), (14, false, iM_in_14), (15, false, iM_in_15)]
theorem eM_in : x_blk bM_in 0 = some (false, iM_in_0) ∧ x_blk bM_in 14 = some (false, iM_in_14) ∧ x_blk bM_in 15 = some (false, iM_in_15) := ⟨rfl, rfl, rfl⟩
theorem kM_in : x_chkB zM_in bM_in = true := by decide +kernel
theorem vM_in : zC zM_in = 0 ∧ zS zM_in = 0 ∧ x_rtc (zR zM_in) = 2 := ⟨rfl, rfl, rfl⟩
def iM_has_0 : List xPI := [(.iload_n 0, [], []), (.iload_n 1, [], []), (.ishr, [], []), (.iconst 1, [], []), (.iand, [], []), (.iconst 1, [], []), (.if_icmp .ne 7, [13], []), (.iconst 1, [], []), (.goto 4, [14], [])]
def iM_has_13 : List xPI := [(.iconst 0, [], []), (.nop, [14], [])]
def iM_has_14 : List xPI := [(.ireturn, [], [])]
def bM_has : xB := [(0, false, iM_has_0), (13, false, iM_has_13), (14, false, iM_has_14)]
theorem eM_has : x_blk bM_has 0 = some (false, iM_has_0) ∧ x_blk bM_has 13 = some (false, iM_has_13) ∧ x_blk bM_has 14 = some (false, iM_has_14) := ⟨rfl, rfl, rfl⟩
theorem kM_has : x_chkB zM_has bM_has = true := by decide +kernel
theorem vM_has : zC zM_has = 0 ∧ zS zM_has = 0 ∧ x_rtc (zR zM_has) = 2 := ⟨rfl, rfl, rfl⟩
def iM_clears_0 : List xPI := [(.iconst 0, [], []), (.istore_n 1, [], []), (.nop, [2], [])]
def iM_clears_2 : List xPI := [(.iload_n 1, [], []), (.sipush 2171, [], []), (.if_icmp .ge 16, [22], []), (.aload_n 0, [], []), (.getfield 13, [8, 2, 2, 1244], []), (.iload_n 1, [], []), (.iconst 0, [], []), (.iastore, [], []), (.iinc 1 1, [], []), (.goto (-17), [2], [])]
def iM_clears_22 : List xPI := [(.iconst 0, [], []), (.istore_n 1, [], []), (.nop, [24], [])]
def iM_clears_24 : List xPI := [(.iload_n 1, [], []), (.bipush 40, [], []), (.if_icmp .gt 20, [47], []), (.aload_n 0, [], []), (.getfield 13, [8, 2, 2, 1244], []), (.sipush 324, [], []), (.iload_n 1, [], []), (.iadd, [], []), (.iconst (-1), [], []), (.iastore, [], []), (.iinc 1 1, [], []), (.goto (-20), [24], [])]
def iM_clears_47 : List xPI := [(.return_, [], [])]
def bM_clears : xB := [(0, false, iM_clears_0), (2, true, iM_clears_2), (22, false, iM_clears_22), (24, true, iM_clears_24), (47, false, iM_clears_47)]
theorem eM_clears : x_blk bM_clears 0 = some (false, iM_clears_0) ∧ x_blk bM_clears 2 = some (true, iM_clears_2) ∧ x_blk bM_clears 22 = some (false, iM_clears_22) ∧ x_blk bM_clears 24 = some (true, iM_clears_24) ∧ x_blk bM_clears 47 = some (false, iM_clears_47) := ⟨rfl, rfl, rfl, rfl, rfl⟩
theorem kM_clears : x_chkB zM_clears bM_clears = true := by decide +kernel
theorem vM_clears : zC zM_clears = 0 ∧ zS zM_clears = 0 ∧ x_rtc (zR zM_clears) = 0 := ⟨rfl, rfl, rfl⟩
def iM_takesDraft_0 : List xPI := [(.iconst 0, [], []), (.istore_n 1, [], []), (.nop, [2], [])]
def iM_takesDraft_2 : List xPI := [(.iload_n 1, [], []), (.sipush 2171, [], []), (.if_icmp .ge 21, [27], []), (.aload_n 0, [], []), (.getfield 7, [8, 1, 2, 1243], []), (.iload_n 1, [], []), (.aload_n 0, [], []), (.getfield 13, [8, 2, 2, 1244], []), (.iload_n 1, [], []), (.iaload, [], []), (.iastore, [], []), (.iinc 1 1, [], []), (.goto (-22), [2], [])]
def iM_takesDraft_27 : List xPI := [(.aload_n 0, [], []), (.aload_n 0, [], []), (.getfield 7, [8, 1, 2, 1243], []), (.iconst 0, [], []), (.iaload, [], []), (.putfield 69, [8, 6, 0, 1248], []), (.aload_n 0, [], []), (.iconst 0, [], []), (.putfield 72, [8, 5, 0, 1247], []), (.return_, [], [])]
def bM_takesDraft : xB := [(0, false, iM_takesDraft_0), (2, true, iM_takesDraft_2), (27, false, iM_takesDraft_27)]
theorem eM_takesDraft : x_blk bM_takesDraft 0 = some (false, iM_takesDraft_0) ∧ x_blk bM_takesDraft 2 = some (true, iM_takesDraft_2) ∧ x_blk bM_takesDraft 27 = some (false, iM_takesDraft_27) := ⟨rfl, rfl, rfl⟩
theorem kM_takesDraft : x_chkB zM_takesDraft bM_takesDraft = true := by decide +kernel
theorem vM_takesDraft : zC zM_takesDraft = 0 ∧ zS zM_takesDraft = 0 ∧ x_rtc (zR zM_takesDraft) = 0 := ⟨rfl, rfl, rfl⟩
def iM_beatsIn_0 : List xPI := [(.iload_n 0, [], []), (.bipush 15, [], []), (.iand, [], []), (.ireturn, [], [])]
def bM_beatsIn : xB := [(0, false, iM_beatsIn_0)]
theorem eM_beatsIn : x_blk bM_beatsIn 0 = some (false, iM_beatsIn_0) := rfl
theorem kM_beatsIn : x_chkB zM_beatsIn bM_beatsIn = true := by decide +kernel
theorem vM_beatsIn : zC zM_beatsIn = 0 ∧ zS zM_beatsIn = 0 ∧ x_rtc (zR zM_beatsIn) = 1 := ⟨rfl, rfl, rfl⟩
def iM_contentIn_0 : List xPI := [(.iload_n 0, [], []), (.bipush 8, [], []), (.iconst 2, [], []), (.iload_n 1, [], []), (.imul, [], []), (.iadd, [], []), (.ishr, [], []), (.iconst 3, [], []), (.iand, [], []), (.ireturn, [], [])]
def bM_contentIn : xB := [(0, false, iM_contentIn_0)]
theorem eM_contentIn : x_blk bM_contentIn 0 = some (false, iM_contentIn_0) := rfl
theorem kM_contentIn : x_chkB zM_contentIn bM_contentIn = true := by decide +kernel
theorem vM_contentIn : zC zM_contentIn = 0 ∧ zS zM_contentIn = 0 ∧ x_rtc (zR zM_contentIn) = 1 := ⟨rfl, rfl, rfl⟩
def iM_withContent_0 : List xPI := [(.bipush 8, [], []), (.iconst 2, [], []), (.iload_n 1, [], []), (.imul, [], []), (.iadd, [], []), (.istore_n 3, [], []), (.iload_n 0, [], []), (.iconst 3, [], []), (.iload_n 3, [], []), (.ishl, [], []), (.iconst (-1), [], []), (.ixor, [], []), (.iand, [], []), (.iload_n 2, [], []), (.iload_n 3, [], []), (.ishl, [], []), (.ior, [], []), (.ireturn, [], [])]
def bM_withContent : xB := [(0, false, iM_withContent_0)]
theorem eM_withContent : x_blk bM_withContent 0 = some (false, iM_withContent_0) := rfl
theorem kM_withContent : x_chkB zM_withContent bM_withContent = true := by decide +kernel
theorem vM_withContent : zC zM_withContent = 0 ∧ zS zM_withContent = 0 ∧ x_rtc (zR zM_withContent) = 1 := ⟨rfl, rfl, rfl⟩
def iM_withBit_0 : List xPI := [(.iload_n 2, [], []), (.ifCond .eq 11, [12], []), (.iload_n 0, [], []), (.iconst 1, [], []), (.iload_n 1, [], []), (.ishl, [], []), (.ior, [], []), (.goto 10, [19], [])]
def iM_withBit_12 : List xPI := [(.iload_n 0, [], []), (.iconst 1, [], []), (.iload_n 1, [], []), (.ishl, [], []), (.iconst (-1), [], []), (.ixor, [], []), (.iand, [], []), (.nop, [19], [])]
def iM_withBit_19 : List xPI := [(.ireturn, [], [])]
def bM_withBit : xB := [(0, false, iM_withBit_0), (12, false, iM_withBit_12), (19, false, iM_withBit_19)]
theorem eM_withBit : x_blk bM_withBit 0 = some (false, iM_withBit_0) ∧ x_blk bM_withBit 12 = some (false, iM_withBit_12) ∧ x_blk bM_withBit 19 = some (false, iM_withBit_19) := ⟨rfl, rfl, rfl⟩
theorem kM_withBit : x_chkB zM_withBit bM_withBit = true := by decide +kernel
theorem vM_withBit : zC zM_withBit = 0 ∧ zS zM_withBit = 0 ∧ x_rtc (zR zM_withBit) = 1 := ⟨rfl, rfl, rfl⟩
def iM_whatAt_0 : List xPI := [(.aload_n 0, [], []), (.getfield 7, [8, 1, 2, 1243], []), (.sipush 154, [], []), (.iload_n 1, [], []), (.iadd, [], []), (.iaload, [], []), (.ireturn, [], [])]
def bM_whatAt : xB := [(0, false, iM_whatAt_0)]
theorem eM_whatAt : x_blk bM_whatAt 0 = some (false, iM_whatAt_0) := rfl
theorem kM_whatAt : x_chkB zM_whatAt bM_whatAt = true := by decide +kernel
theorem vM_whatAt : zC zM_whatAt = 0 ∧ zS zM_whatAt = 0 ∧ x_rtc (zR zM_whatAt) = 1 := ⟨rfl, rfl, rfl⟩
def iM_idAt_0 : List xPI := [(.aload_n 0, [], []), (.getfield 7, [8, 1, 2, 1243], []), (.iconst 4, [], []), (.iload_n 1, [], []), (.iadd, [], []), (.iaload, [], []), (.ireturn, [], [])]
def bM_idAt : xB := [(0, false, iM_idAt_0)]
theorem eM_idAt : x_blk bM_idAt 0 = some (false, iM_idAt_0) := rfl
theorem kM_idAt : x_chkB zM_idAt bM_idAt = true := by decide +kernel
theorem vM_idAt : zC zM_idAt = 0 ∧ zS zM_idAt = 0 ∧ x_rtc (zR zM_idAt) = 1 := ⟨rfl, rfl, rfl⟩
def iM_placeOf_0 : List xPI := [(.iconst 0, [], []), (.istore_n 2, [], []), (.nop, [2], [])]
def iM_placeOf_2 : List xPI := [(.iload_n 2, [], []), (.aload_n 0, [], []), (.getfield 7, [8, 1, 2, 1243], []), (.iconst 0, [], []), (.iaload, [], []), (.if_icmp .ge 20, [29], []), (.aload_n 0, [], []), (.iload_n 2, [], []), (.invokevirtual 75, [1, 0, 0, 8, 1492, 1494, 64, 115, 1495], [zM_idAt]), (.iload_n 1, [], []), (.if_icmp .ne 5, [23], []), (.iload_n 2, [], []), (.ireturn, [], [])]
def iM_placeOf_23 : List xPI := [(.iinc 2 1, [], []), (.goto (-24), [2], [])]
def iM_placeOf_29 : List xPI := [(.iconst (-1), [], []), (.ireturn, [], [])]
def bM_placeOf : xB := [(0, false, iM_placeOf_0), (2, true, iM_placeOf_2), (23, false, iM_placeOf_23), (29, false, iM_placeOf_29)]
theorem eM_placeOf : x_blk bM_placeOf 0 = some (false, iM_placeOf_0) ∧ x_blk bM_placeOf 2 = some (true, iM_placeOf_2) ∧ x_blk bM_placeOf 23 = some (false, iM_placeOf_23) ∧ x_blk bM_placeOf 29 = some (false, iM_placeOf_29) := ⟨rfl, rfl, rfl, rfl⟩
theorem kM_placeOf : x_chkB zM_placeOf bM_placeOf = true := by decide +kernel
theorem vM_placeOf : zC zM_placeOf = 0 ∧ zS zM_placeOf = 0 ∧ x_rtc (zR zM_placeOf) = 1 := ⟨rfl, rfl, rfl⟩
def iM_isBar_0 : List xPI := [(.aload_n 0, [], []), (.iload_n 1, [], []), (.invokevirtual 79, [1, 0, 0, 8, 1504, 1506, 66, 115, 1507], [zM_placeOf]), (.iconst (-1), [], []), (.if_icmp .eq 7, [13], []), (.iconst 1, [], []), (.goto 4, [14], [])]
def iM_isBar_13 : List xPI := [(.iconst 0, [], []), (.nop, [14], [])]
def iM_isBar_14 : List xPI := [(.ireturn, [], [])]
def bM_isBar : xB := [(0, false, iM_isBar_0), (13, false, iM_isBar_13), (14, false, iM_isBar_14)]
theorem eM_isBar : x_blk bM_isBar 0 = some (false, iM_isBar_0) ∧ x_blk bM_isBar 13 = some (false, iM_isBar_13) ∧ x_blk bM_isBar 14 = some (false, iM_isBar_14) := ⟨rfl, rfl, rfl⟩
theorem kM_isBar : x_chkB zM_isBar bM_isBar = true := by decide +kernel
theorem vM_isBar : zC zM_isBar = 0 ∧ zS zM_isBar = 0 ∧ x_rtc (zR zM_isBar) = 2 := ⟨rfl, rfl, rfl⟩
def iM_isPart_0 : List xPI := [(.iload_n 1, [], []), (.iconst 0, [], []), (.aload_n 0, [], []), (.getfield 7, [8, 1, 2, 1243], []), (.iconst 2, [], []), (.iaload, [], []), (.iconst 1, [], []), (.isub, [], []), (.invokestatic 82, [3, 0, 0, 1378, 1379, 115, 1380], [zM_in]), (.ireturn, [], [])]
def bM_isPart : xB := [(0, false, iM_isPart_0)]
theorem eM_isPart : x_blk bM_isPart 0 = some (false, iM_isPart_0) := rfl
theorem kM_isPart : x_chkB zM_isPart bM_isPart = true := by decide +kernel
theorem vM_isPart : zC zM_isPart = 0 ∧ zS zM_isPart = 0 ∧ x_rtc (zR zM_isPart) = 2 := ⟨rfl, rfl, rfl⟩
def iM_isCut_0 : List xPI := [(.iload_n 1, [], []), (.iconst 0, [], []), (.bipush 9, [], []), (.invokestatic 82, [3, 0, 0, 1378, 1379, 115, 1380], [zM_in]), (.ifCond .eq 20, [27], []), (.aload_n 0, [], []), (.getfield 7, [8, 1, 2, 1243], []), (.iconst 1, [], []), (.iaload, [], []), (.iload_n 1, [], []), (.invokestatic 86, [2, 0, 0, 1524, 1525, 115, 1526], [zM_has]), (.ifCond .eq 7, [27], []), (.iconst 1, [], []), (.goto 4, [28], [])]
def iM_isCut_27 : List xPI := [(.iconst 0, [], []), (.nop, [28], [])]
def iM_isCut_28 : List xPI := [(.ireturn, [], [])]
def bM_isCut : xB := [(0, false, iM_isCut_0), (27, false, iM_isCut_27), (28, false, iM_isCut_28)]
theorem eM_isCut : x_blk bM_isCut 0 = some (false, iM_isCut_0) ∧ x_blk bM_isCut 27 = some (false, iM_isCut_27) ∧ x_blk bM_isCut 28 = some (false, iM_isCut_28) := ⟨rfl, rfl, rfl⟩
theorem kM_isCut : x_chkB zM_isCut bM_isCut = true := by decide +kernel
theorem vM_isCut : zC zM_isCut = 0 ∧ zS zM_isCut = 0 ∧ x_rtc (zR zM_isCut) = 2 := ⟨rfl, rfl, rfl⟩
def iM_isMark_0 : List xPI := [(.iload_n 1, [], []), (.iconst 1, [], []), (.bipush 40, [], []), (.invokestatic 82, [3, 0, 0, 1378, 1379, 115, 1380], [zM_in]), (.ifCond .eq 21, [28], []), (.aload_n 0, [], []), (.getfield 7, [8, 1, 2, 1243], []), (.sipush 324, [], []), (.iload_n 1, [], []), (.iadd, [], []), (.iaload, [], []), (.iconst (-1), [], []), (.if_icmp .eq 7, [28], []), (.iconst 1, [], []), (.goto 4, [29], [])]
def iM_isMark_28 : List xPI := [(.iconst 0, [], []), (.nop, [29], [])]
def iM_isMark_29 : List xPI := [(.ireturn, [], [])]
def bM_isMark : xB := [(0, false, iM_isMark_0), (28, false, iM_isMark_28), (29, false, iM_isMark_29)]
theorem eM_isMark : x_blk bM_isMark 0 = some (false, iM_isMark_0) ∧ x_blk bM_isMark 28 = some (false, iM_isMark_28) ∧ x_blk bM_isMark 29 = some (false, iM_isMark_29) := ⟨rfl, rfl, rfl⟩
theorem kM_isMark : x_chkB zM_isMark bM_isMark = true := by decide +kernel
theorem vM_isMark : zC zM_isMark = 0 ∧ zS zM_isMark = 0 ∧ x_rtc (zR zM_isMark) = 2 := ⟨rfl, rfl, rfl⟩
def iM_feed_0 : List xPI := [(.aload_n 0, [], []), (.iconst 0, [], []), (.putfield 66, [8, 0, 0, 1242], []), (.aload_n 0, [], []), (.getfield 90, [8, 8, 0, 1250], []), (.bipush 20, [], []), (.iadd, [], []), (.sipush 800, [], []), (.if_icmp .le 9, [24], []), (.aload_n 0, [], []), (.iconst 1, [], []), (.invokevirtual 93, [1, 0, 0, 8, 1354, 1356, 41, 115, 1357], [zM_refuse]), (.ireturn, [], [])]
def iM_feed_24 : List xPI := [(.aload_n 0, [], []), (.iload_n 1, [], []), (.invokevirtual 96, [1, 0, 0, 8, 1358, 1360, 42, 115, 1361], [zM_lays]), (.aload_n 0, [], []), (.iload_n 2, [], []), (.invokevirtual 96, [1, 0, 0, 8, 1358, 1360, 42, 115, 1361], [zM_lays]), (.aload_n 0, [], []), (.iload_n 3, [], []), (.invokevirtual 96, [1, 0, 0, 8, 1358, 1360, 42, 115, 1361], [zM_lays]), (.aload_n 0, [], []), (.iload 4, [], []), (.invokevirtual 96, [1, 0, 0, 8, 1358, 1360, 42, 115, 1361], [zM_lays]), (.aload_n 0, [], []), (.iload 5, [], []), (.invokevirtual 96, [1, 0, 0, 8, 1358, 1360, 42, 115, 1361], [zM_lays]), (.aload_n 0, [], []), (.getfield 90, [8, 8, 0, 1250], []), (.ireturn, [], [])]
def bM_feed : xB := [(0, false, iM_feed_0), (24, false, iM_feed_24)]
theorem eM_feed : x_blk bM_feed 0 = some (false, iM_feed_0) ∧ x_blk bM_feed 24 = some (false, iM_feed_24) := ⟨rfl, rfl⟩
theorem kM_feed : x_chkB zM_feed bM_feed = true := by decide +kernel
theorem vM_feed : zC zM_feed = 0 ∧ zS zM_feed = 0 ∧ x_rtc (zR zM_feed) = 1 := ⟨rfl, rfl, rfl⟩
def iM_lays_0 : List xPI := [(.bipush 24, [], []), (.istore_n 2, [], []), (.nop, [3], [])]
def iM_lays_3 : List xPI := [(.iload_n 2, [], []), (.ifCond .lt 37, [41], []), (.aload_n 0, [], []), (.getfield 23, [8, 7, 2, 1249], []), (.aload_n 0, [], []), (.getfield 90, [8, 8, 0, 1250], []), (.iload_n 1, [], []), (.iload_n 2, [], []), (.ishr, [], []), (.sipush 255, [], []), (.iand, [], []), (.iastore, [], []), (.aload_n 0, [], []), (.aload_n 0, [], []), (.getfield 90, [8, 8, 0, 1250], []), (.iconst 1, [], []), (.iadd, [], []), (.putfield 90, [8, 8, 0, 1250], []), (.iload_n 2, [], []), (.bipush 8, [], []), (.isub, [], []), (.istore_n 2, [], []), (.goto (-35), [3], [])]
def iM_lays_41 : List xPI := [(.return_, [], [])]
def bM_lays : xB := [(0, false, iM_lays_0), (3, true, iM_lays_3), (41, false, iM_lays_41)]
theorem eM_lays : x_blk bM_lays 0 = some (false, iM_lays_0) ∧ x_blk bM_lays 3 = some (true, iM_lays_3) ∧ x_blk bM_lays 41 = some (false, iM_lays_41) := ⟨rfl, rfl, rfl⟩
theorem kM_lays : x_chkB zM_lays bM_lays = true := by decide +kernel
theorem vM_lays : zC zM_lays = 0 ∧ zS zM_lays = 0 ∧ x_rtc (zR zM_lays) = 0 := ⟨rfl, rfl, rfl⟩
def iM_errorCode_0 : List xPI := [(.aload_n 0, [], []), (.aload_n 0, [], []), (.getfield 100, [8, 15, 0, 1257], []), (.invokevirtual 103, [1, 0, 0, 8, 1366, 1368, 43, 115, 1369], [zM_told]), (.ireturn, [], [])]
def bM_errorCode : xB := [(0, false, iM_errorCode_0)]
theorem eM_errorCode : x_blk bM_errorCode 0 = some (false, iM_errorCode_0) := rfl
theorem kM_errorCode : x_chkB zM_errorCode bM_errorCode = true := by decide +kernel
theorem vM_errorCode : zC zM_errorCode = 0 ∧ zS zM_errorCode = 0 ∧ x_rtc (zR zM_errorCode) = 1 := ⟨rfl, rfl, rfl⟩
def iM_errorPosition_0 : List xPI := [(.aload_n 0, [], []), (.aload_n 0, [], []), (.getfield 26, [8, 16, 0, 1258], []), (.invokevirtual 103, [1, 0, 0, 8, 1366, 1368, 43, 115, 1369], [zM_told]), (.ireturn, [], [])]
def bM_errorPosition : xB := [(0, false, iM_errorPosition_0)]
theorem eM_errorPosition : x_blk bM_errorPosition 0 = some (false, iM_errorPosition_0) := rfl
theorem kM_errorPosition : x_chkB zM_errorPosition bM_errorPosition = true := by decide +kernel
theorem vM_errorPosition : zC zM_errorPosition = 0 ∧ zS zM_errorPosition = 0 ∧ x_rtc (zR zM_errorPosition) = 1 := ⟨rfl, rfl, rfl⟩
def iM_byteAt_0 : List xPI := [(.iload_n 1, [], []), (.aload_n 0, [], []), (.getfield 106, [8, 10, 0, 1252], []), (.if_icmp .ge 12, [17], []), (.aload_n 0, [], []), (.getfield 23, [8, 7, 2, 1249], []), (.iload_n 1, [], []), (.iaload, [], []), (.goto 4, [18], [])]
def iM_byteAt_17 : List xPI := [(.iconst (-1), [], []), (.nop, [18], [])]
def iM_byteAt_18 : List xPI := [(.ireturn, [], [])]
def bM_byteAt : xB := [(0, false, iM_byteAt_0), (17, false, iM_byteAt_17), (18, false, iM_byteAt_18)]
theorem eM_byteAt : x_blk bM_byteAt 0 = some (false, iM_byteAt_0) ∧ x_blk bM_byteAt 17 = some (false, iM_byteAt_17) ∧ x_blk bM_byteAt 18 = some (false, iM_byteAt_18) := ⟨rfl, rfl, rfl⟩
theorem kM_byteAt : x_chkB zM_byteAt bM_byteAt = true := by decide +kernel
theorem vM_byteAt : zC zM_byteAt = 0 ∧ zS zM_byteAt = 0 ∧ x_rtc (zR zM_byteAt) = 1 := ⟨rfl, rfl, rfl⟩
def iM_isLetter_0 : List xPI := [(.iload_n 0, [], []), (.bipush 97, [], []), (.bipush 122, [], []), (.invokestatic 82, [3, 0, 0, 1378, 1379, 115, 1380], [zM_in]), (.ireturn, [], [])]
def bM_isLetter : xB := [(0, false, iM_isLetter_0)]
theorem eM_isLetter : x_blk bM_isLetter 0 = some (false, iM_isLetter_0) := rfl
theorem kM_isLetter : x_chkB zM_isLetter bM_isLetter = true := by decide +kernel
theorem vM_isLetter : zC zM_isLetter = 0 ∧ zS zM_isLetter = 0 ∧ x_rtc (zR zM_isLetter) = 2 := ⟨rfl, rfl, rfl⟩
def iM_isDigit_0 : List xPI := [(.iload_n 0, [], []), (.bipush 48, [], []), (.bipush 57, [], []), (.invokestatic 82, [3, 0, 0, 1378, 1379, 115, 1380], [zM_in]), (.ireturn, [], [])]
def bM_isDigit : xB := [(0, false, iM_isDigit_0)]
theorem eM_isDigit : x_blk bM_isDigit 0 = some (false, iM_isDigit_0) := rfl
theorem kM_isDigit : x_chkB zM_isDigit bM_isDigit = true := by decide +kernel
theorem vM_isDigit : zC zM_isDigit = 0 ∧ zS zM_isDigit = 0 ∧ x_rtc (zR zM_isDigit) = 2 := ⟨rfl, rfl, rfl⟩
def iM_peek_0 : List xPI := [(.aload_n 0, [], []), (.aload_n 0, [], []), (.getfield 109, [8, 9, 0, 1251], []), (.invokevirtual 112, [1, 0, 0, 8, 1393, 1395, 47, 115, 1396], [zM_byteAt]), (.bipush 32, [], []), (.if_icmp .eq 16, [26], []), (.aload_n 0, [], []), (.aload_n 0, [], []), (.getfield 109, [8, 9, 0, 1251], []), (.invokevirtual 112, [1, 0, 0, 8, 1393, 1395, 47, 115, 1396], [zM_byteAt]), (.bipush 10, [], []), (.if_icmp .ne 16, [39], []), (.nop, [26], [])]
def iM_peek_26 : List xPI := [(.aload_n 0, [], []), (.aload_n 0, [], []), (.getfield 109, [8, 9, 0, 1251], []), (.iconst 1, [], []), (.iadd, [], []), (.putfield 109, [8, 9, 0, 1251], []), (.goto (-36), [0], [])]
def iM_peek_39 : List xPI := [(.aload_n 0, [], []), (.aload_n 0, [], []), (.getfield 109, [8, 9, 0, 1251], []), (.putfield 115, [8, 12, 0, 1254], []), (.aload_n 0, [], []), (.aload_n 0, [], []), (.getfield 109, [8, 9, 0, 1251], []), (.invokevirtual 112, [1, 0, 0, 8, 1393, 1395, 47, 115, 1396], [zM_byteAt]), (.ireturn, [], [])]
def bM_peek : xB := [(0, true, iM_peek_0), (26, false, iM_peek_26), (39, false, iM_peek_39)]
theorem eM_peek : x_blk bM_peek 0 = some (true, iM_peek_0) ∧ x_blk bM_peek 26 = some (false, iM_peek_26) ∧ x_blk bM_peek 39 = some (false, iM_peek_39) := ⟨rfl, rfl, rfl⟩
theorem kM_peek : x_chkB zM_peek bM_peek = true := by decide +kernel
theorem vM_peek : zC zM_peek = 0 ∧ zS zM_peek = 0 ∧ x_rtc (zR zM_peek) = 1 := ⟨rfl, rfl, rfl⟩
def iM_fails_0 : List xPI := [(.aload_n 0, [], []), (.iload_n 1, [], []), (.putfield 100, [8, 15, 0, 1257], []), (.aload_n 0, [], []), (.iload_n 2, [], []), (.putfield 26, [8, 16, 0, 1258], []), (.iconst 0, [], []), (.ireturn, [], [])]
def bM_fails : xB := [(0, false, iM_fails_0)]
theorem eM_fails : x_blk bM_fails 0 = some (false, iM_fails_0) := rfl
theorem kM_fails : x_chkB zM_fails bM_fails = true := by decide +kernel
theorem vM_fails : zC zM_fails = 0 ∧ zS zM_fails = 0 ∧ x_rtc (zR zM_fails) = 2 := ⟨rfl, rfl, rfl⟩
def iM_passes_0 : List xPI := [(.aload_n 0, [], []), (.iload_n 1, [], []), (.putfield 109, [8, 9, 0, 1251], []), (.aload_n 0, [], []), (.iload_n 1, [], []), (.putfield 118, [8, 11, 0, 1253], []), (.iconst 1, [], []), (.ireturn, [], [])]
def bM_passes : xB := [(0, false, iM_passes_0)]
theorem eM_passes : x_blk bM_passes 0 = some (false, iM_passes_0) := rfl
theorem kM_passes : x_chkB zM_passes bM_passes = true := by decide +kernel
theorem vM_passes : zC zM_passes = 0 ∧ zS zM_passes = 0 ∧ x_rtc (zR zM_passes) = 2 := ⟨rfl, rfl, rfl⟩
def iM_readWord_0 : List xPI := [(.aload_n 0, [], []), (.invokevirtual 121, [0, 0, 0, 8, 1389, 1391, 46, 115, 1392], [zM_peek]), (.invokestatic 125, [1, 0, 0, 1405, 1406, 115, 1407], [zM_isLetter]), (.ifCond .eq 14, [21], []), (.aload_n 0, [], []), (.getfield 115, [8, 12, 0, 1254], []), (.aload_n 0, [], []), (.getfield 118, [8, 11, 0, 1253], []), (.if_icmp .ne 13, [31], []), (.nop, [21], [])]
def iM_readWord_21 : List xPI := [(.aload_n 0, [], []), (.iconst 1, [], []), (.aload_n 0, [], []), (.getfield 115, [8, 12, 0, 1254], []), (.invokevirtual 129, [2, 0, 0, 8, 1408, 1410, 50, 115, 1411], [zM_fails]), (.ireturn, [], [])]
def iM_readWord_31 : List xPI := [(.aload_n 0, [], []), (.getfield 115, [8, 12, 0, 1254], []), (.istore_n 1, [], []), (.aload_n 0, [], []), (.lconst 0, [], []), (.putfield 132, [8, 17, 1, 1259], []), (.nop, [41], [])]
def iM_readWord_41 : List xPI := [(.aload_n 0, [], []), (.iload_n 1, [], []), (.invokevirtual 112, [1, 0, 0, 8, 1393, 1395, 47, 115, 1396], [zM_byteAt]), (.invokestatic 125, [1, 0, 0, 1405, 1406, 115, 1407], [zM_isLetter]), (.ifCond .eq 48, [97], []), (.aload_n 0, [], []), (.iload_n 1, [], []), (.aload_n 0, [], []), (.getfield 115, [8, 12, 0, 1254], []), (.isub, [], []), (.bipush 6, [], []), (.if_icmp .ge 25, [86], []), (.ldc2_w 136, [32, 1412], []), (.aload_n 0, [], []), (.getfield 132, [8, 17, 1, 1259], []), (.lmul, [], []), (.aload_n 0, [], []), (.iload_n 1, [], []), (.invokevirtual 112, [1, 0, 0, 8, 1393, 1395, 47, 115, 1396], [zM_byteAt]), (.i2l, [], []), (.ladd, [], []), (.ldc2_w 138, [96, 1413], []), (.lsub, [], []), (.goto 4, [87], [])]
def iM_readWord_86 : List xPI := [(.lconst 0, [], []), (.nop, [87], [])]
def iM_readWord_87 : List xPI := [(.putfield 132, [8, 17, 1, 1259], []), (.iload_n 1, [], []), (.iconst 1, [], []), (.iadd, [], []), (.istore_n 1, [], []), (.goto (-53), [41], [])]
def iM_readWord_97 : List xPI := [(.aload_n 0, [], []), (.iload_n 1, [], []), (.aload_n 0, [], []), (.getfield 115, [8, 12, 0, 1254], []), (.isub, [], []), (.putfield 140, [8, 13, 0, 1255], []), (.aload_n 0, [], []), (.iload_n 1, [], []), (.invokevirtual 143, [1, 0, 0, 8, 1414, 1416, 51, 115, 1417], [zM_passes]), (.ireturn, [], [])]
def bM_readWord : xB := [(0, false, iM_readWord_0), (21, false, iM_readWord_21), (31, false, iM_readWord_31), (41, true, iM_readWord_41), (86, false, iM_readWord_86), (87, false, iM_readWord_87), (97, false, iM_readWord_97)]
theorem eM_readWord : x_blk bM_readWord 0 = some (false, iM_readWord_0) ∧ x_blk bM_readWord 21 = some (false, iM_readWord_21) ∧ x_blk bM_readWord 31 = some (false, iM_readWord_31) ∧ x_blk bM_readWord 41 = some (true, iM_readWord_41) ∧ x_blk bM_readWord 86 = some (false, iM_readWord_86) ∧ x_blk bM_readWord 87 = some (false, iM_readWord_87) ∧ x_blk bM_readWord 97 = some (false, iM_readWord_97) := ⟨rfl, rfl, rfl, rfl, rfl, rfl, rfl⟩
theorem kM_readWord : x_chkB zM_readWord bM_readWord = true := by decide +kernel
theorem vM_readWord : zC zM_readWord = 0 ∧ zS zM_readWord = 0 ∧ x_rtc (zR zM_readWord) = 2 := ⟨rfl, rfl, rfl⟩
def iM_readNumber_0 : List xPI := [(.aload_n 0, [], []), (.invokevirtual 121, [0, 0, 0, 8, 1389, 1391, 46, 115, 1392], [zM_peek]), (.invokestatic 146, [1, 0, 0, 1427, 1428, 115, 1429], [zM_isDigit]), (.ifCond .eq 14, [21], []), (.aload_n 0, [], []), (.getfield 115, [8, 12, 0, 1254], []), (.aload_n 0, [], []), (.getfield 118, [8, 11, 0, 1253], []), (.if_icmp .ne 13, [31], []), (.nop, [21], [])]
def iM_readNumber_21 : List xPI := [(.aload_n 0, [], []), (.iconst 1, [], []), (.aload_n 0, [], []), (.getfield 115, [8, 12, 0, 1254], []), (.invokevirtual 129, [2, 0, 0, 8, 1408, 1410, 50, 115, 1411], [zM_fails]), (.ireturn, [], [])]
def iM_readNumber_31 : List xPI := [(.aload_n 0, [], []), (.iconst 0, [], []), (.putfield 149, [8, 14, 0, 1256], []), (.aload_n 0, [], []), (.getfield 115, [8, 12, 0, 1254], []), (.istore_n 3, [], []), (.nop, [41], [])]
def iM_readNumber_41 : List xPI := [(.aload_n 0, [], []), (.iload_n 3, [], []), (.invokevirtual 112, [1, 0, 0, 8, 1393, 1395, 47, 115, 1396], [zM_byteAt]), (.invokestatic 146, [1, 0, 0, 1427, 1428, 115, 1429], [zM_isDigit]), (.ifCond .eq 47, [96], []), (.aload_n 0, [], []), (.iload_n 3, [], []), (.aload_n 0, [], []), (.getfield 115, [8, 12, 0, 1254], []), (.isub, [], []), (.iconst 4, [], []), (.if_icmp .ge 22, [82], []), (.bipush 10, [], []), (.aload_n 0, [], []), (.getfield 149, [8, 14, 0, 1256], []), (.imul, [], []), (.aload_n 0, [], []), (.iload_n 3, [], []), (.invokevirtual 112, [1, 0, 0, 8, 1393, 1395, 47, 115, 1396], [zM_byteAt]), (.iadd, [], []), (.bipush 48, [], []), (.isub, [], []), (.goto 7, [86], [])]
def iM_readNumber_82 : List xPI := [(.aload_n 0, [], []), (.getfield 149, [8, 14, 0, 1256], []), (.nop, [86], [])]
def iM_readNumber_86 : List xPI := [(.putfield 149, [8, 14, 0, 1256], []), (.iload_n 3, [], []), (.iconst 1, [], []), (.iadd, [], []), (.istore_n 3, [], []), (.goto (-52), [41], [])]
def iM_readNumber_96 : List xPI := [(.iload_n 3, [], []), (.aload_n 0, [], []), (.getfield 115, [8, 12, 0, 1254], []), (.isub, [], []), (.iconst 4, [], []), (.if_icmp .le 13, [116], []), (.aload_n 0, [], []), (.iconst 1, [], []), (.aload_n 0, [], []), (.getfield 115, [8, 12, 0, 1254], []), (.invokevirtual 129, [2, 0, 0, 8, 1408, 1410, 50, 115, 1411], [zM_fails]), (.ireturn, [], [])]
def iM_readNumber_116 : List xPI := [(.aload_n 0, [], []), (.getfield 149, [8, 14, 0, 1256], []), (.iload_n 1, [], []), (.iload_n 2, [], []), (.invokestatic 82, [3, 0, 0, 1378, 1379, 115, 1380], [zM_in]), (.ifCond .ne 13, [138], []), (.aload_n 0, [], []), (.iconst 2, [], []), (.aload_n 0, [], []), (.getfield 115, [8, 12, 0, 1254], []), (.invokevirtual 129, [2, 0, 0, 8, 1408, 1410, 50, 115, 1411], [zM_fails]), (.ireturn, [], [])]
def iM_readNumber_138 : List xPI := [(.aload_n 0, [], []), (.iload_n 3, [], []), (.invokevirtual 143, [1, 0, 0, 8, 1414, 1416, 51, 115, 1417], [zM_passes]), (.ireturn, [], [])]
def bM_readNumber : xB := [(0, false, iM_readNumber_0), (21, false, iM_readNumber_21), (31, false, iM_readNumber_31), (41, true, iM_readNumber_41), (82, false, iM_readNumber_82), (86, false, iM_readNumber_86), (96, false, iM_readNumber_96), (116, false, iM_readNumber_116), (138, false, iM_readNumber_138)]
theorem eM_readNumber : x_blk bM_readNumber 0 = some (false, iM_readNumber_0) ∧ x_blk bM_readNumber 21 = some (false, iM_readNumber_21) ∧ x_blk bM_readNumber 31 = some (false, iM_readNumber_31) ∧ x_blk bM_readNumber 41 = some (true, iM_readNumber_41) ∧ x_blk bM_readNumber 82 = some (false, iM_readNumber_82) ∧ x_blk bM_readNumber 86 = some (false, iM_readNumber_86) ∧ x_blk bM_readNumber 96 = some (false, iM_readNumber_96) ∧ x_blk bM_readNumber 116 = some (false, iM_readNumber_116) ∧ x_blk bM_readNumber 138 = some (false, iM_readNumber_138) := ⟨rfl, rfl, rfl, rfl, rfl, rfl, rfl, rfl, rfl⟩
theorem kM_readNumber : x_chkB zM_readNumber bM_readNumber = true := by decide +kernel
theorem vM_readNumber : zC zM_readNumber = 0 ∧ zS zM_readNumber = 0 ∧ x_rtc (zR zM_readNumber) = 2 := ⟨rfl, rfl, rfl⟩
def iM_readSemicolon_0 : List xPI := [(.aload_n 0, [], []), (.invokevirtual 121, [0, 0, 0, 8, 1389, 1391, 46, 115, 1392], [zM_peek]), (.bipush 59, [], []), (.if_icmp .eq 13, [19], []), (.aload_n 0, [], []), (.iconst 1, [], []), (.aload_n 0, [], []), (.getfield 115, [8, 12, 0, 1254], []), (.invokevirtual 129, [2, 0, 0, 8, 1408, 1410, 50, 115, 1411], [zM_fails]), (.ireturn, [], [])]
def iM_readSemicolon_19 : List xPI := [(.aload_n 0, [], []), (.aload_n 0, [], []), (.getfield 115, [8, 12, 0, 1254], []), (.iconst 1, [], []), (.iadd, [], []), (.putfield 109, [8, 9, 0, 1251], []), (.aload_n 0, [], []), (.iconst (-1), [], []), (.putfield 118, [8, 11, 0, 1253], []), (.iconst 1, [], []), (.ireturn, [], [])]
def bM_readSemicolon : xB := [(0, false, iM_readSemicolon_0), (19, false, iM_readSemicolon_19)]
theorem eM_readSemicolon : x_blk bM_readSemicolon 0 = some (false, iM_readSemicolon_0) ∧ x_blk bM_readSemicolon 19 = some (false, iM_readSemicolon_19) := ⟨rfl, rfl⟩
theorem kM_readSemicolon : x_chkB zM_readSemicolon bM_readSemicolon = true := by decide +kernel
theorem vM_readSemicolon : zC zM_readSemicolon = 0 ∧ zS zM_readSemicolon = 0 ∧ x_rtc (zR zM_readSemicolon) = 2 := ⟨rfl, rfl, rfl⟩
def iM_readBars_0 : List xPI := [(.aload_n 0, [], []), (.iconst 1, [], []), (.bipush 99, [], []), (.invokevirtual 152, [2, 0, 0, 8, 1423, 1425, 53, 115, 1426], [zM_readNumber]), (.ifCond .ne 5, [12], []), (.iconst 0, [], []), (.ireturn, [], [])]
def iM_readBars_12 : List xPI := [(.aload_n 0, [], []), (.getfield 149, [8, 14, 0, 1256], []), (.istore_n 1, [], []), (.aload_n 0, [], []), (.getfield 13, [8, 2, 2, 1244], []), (.iconst 0, [], []), (.iaload, [], []), (.istore_n 2, [], []), (.iload_n 2, [], []), (.iload_n 1, [], []), (.iadd, [], []), (.sipush 150, [], []), (.if_icmp .le 13, [43], []), (.aload_n 0, [], []), (.iconst 4, [], []), (.aload_n 0, [], []), (.getfield 115, [8, 12, 0, 1254], []), (.invokevirtual 129, [2, 0, 0, 8, 1408, 1410, 50, 115, 1411], [zM_fails]), (.ireturn, [], [])]
def iM_readBars_43 : List xPI := [(.iconst 4, [], []), (.istore_n 3, [], []), (.aload_n 0, [], []), (.invokevirtual 121, [0, 0, 0, 8, 1389, 1391, 46, 115, 1392], [zM_peek]), (.invokestatic 146, [1, 0, 0, 1427, 1428, 115, 1429], [zM_isDigit]), (.ifCond .eq 20, [72], []), (.aload_n 0, [], []), (.iconst 1, [], []), (.bipush 12, [], []), (.invokevirtual 152, [2, 0, 0, 8, 1423, 1425, 53, 115, 1426], [zM_readNumber]), (.ifCond .ne 5, [67], []), (.iconst 0, [], []), (.ireturn, [], [])]
def iM_readBars_67 : List xPI := [(.aload_n 0, [], []), (.getfield 149, [8, 14, 0, 1256], []), (.istore_n 3, [], []), (.nop, [72], [])]
def iM_readBars_72 : List xPI := [(.iload_n 2, [], []), (.istore 4, [], []), (.nop, [75], [])]
def iM_readBars_75 : List xPI := [(.iload 4, [], []), (.iload_n 2, [], []), (.iload_n 1, [], []), (.iadd, [], []), (.if_icmp .ge 32, [112], []), (.aload_n 0, [], []), (.getfield 13, [8, 2, 2, 1244], []), (.iconst 4, [], []), (.iload 4, [], []), (.iadd, [], []), (.iload 4, [], []), (.iastore, [], []), (.aload_n 0, [], []), (.getfield 13, [8, 2, 2, 1244], []), (.sipush 154, [], []), (.iload 4, [], []), (.iadd, [], []), (.iload_n 3, [], []), (.iastore, [], []), (.iinc 4 1, [], []), (.goto (-34), [75], [])]
def iM_readBars_112 : List xPI := [(.aload_n 0, [], []), (.getfield 13, [8, 2, 2, 1244], []), (.iconst 0, [], []), (.iload_n 2, [], []), (.iload_n 1, [], []), (.iadd, [], []), (.iastore, [], []), (.iconst 1, [], []), (.ireturn, [], [])]
def bM_readBars : xB := [(0, false, iM_readBars_0), (12, false, iM_readBars_12), (43, false, iM_readBars_43), (67, false, iM_readBars_67), (72, false, iM_readBars_72), (75, true, iM_readBars_75), (112, false, iM_readBars_112)]
theorem eM_readBars : x_blk bM_readBars 0 = some (false, iM_readBars_0) ∧ x_blk bM_readBars 12 = some (false, iM_readBars_12) ∧ x_blk bM_readBars 43 = some (false, iM_readBars_43) ∧ x_blk bM_readBars 67 = some (false, iM_readBars_67) ∧ x_blk bM_readBars 72 = some (false, iM_readBars_72) ∧ x_blk bM_readBars 75 = some (true, iM_readBars_75) ∧ x_blk bM_readBars 112 = some (false, iM_readBars_112) := ⟨rfl, rfl, rfl, rfl, rfl, rfl, rfl⟩
theorem kM_readBars : x_chkB zM_readBars bM_readBars = true := by decide +kernel
theorem vM_readBars : zC zM_readBars = 0 ∧ zS zM_readBars = 0 ∧ x_rtc (zR zM_readBars) = 2 := ⟨rfl, rfl, rfl⟩
def iM_readBar_0 : List xPI := [(.aload_n 0, [], []), (.iconst 1, [], []), (.aload_n 0, [], []), (.getfield 13, [8, 2, 2, 1244], []), (.iconst 0, [], []), (.iaload, [], []), (.invokevirtual 152, [2, 0, 0, 8, 1423, 1425, 53, 115, 1426], [zM_readNumber]), (.ireturn, [], [])]
def bM_readBar : xB := [(0, false, iM_readBar_0)]
theorem eM_readBar : x_blk bM_readBar 0 = some (false, iM_readBar_0) := rfl
theorem kM_readBar : x_chkB zM_readBar bM_readBar = true := by decide +kernel
theorem vM_readBar : zC zM_readBar = 0 ∧ zS zM_readBar = 0 ∧ x_rtc (zR zM_readBar) = 2 := ⟨rfl, rfl, rfl⟩
def iM_isMarked_0 : List xPI := [(.iconst 1, [], []), (.istore_n 2, [], []), (.nop, [2], [])]
def iM_isMarked_2 : List xPI := [(.iload_n 2, [], []), (.aload_n 0, [], []), (.getfield 155, [8, 18, 0, 1260], []), (.if_icmp .gt 25, [32], []), (.aload_n 0, [], []), (.getfield 13, [8, 2, 2, 1244], []), (.sipush 324, [], []), (.iload_n 2, [], []), (.iadd, [], []), (.iaload, [], []), (.iload_n 1, [], []), (.if_icmp .ne 5, [26], []), (.iconst 1, [], []), (.ireturn, [], [])]
def iM_isMarked_26 : List xPI := [(.iinc 2 1, [], []), (.goto (-27), [2], [])]
def iM_isMarked_32 : List xPI := [(.iconst 0, [], []), (.ireturn, [], [])]
def bM_isMarked : xB := [(0, false, iM_isMarked_0), (2, true, iM_isMarked_2), (26, false, iM_isMarked_26), (32, false, iM_isMarked_32)]
theorem eM_isMarked : x_blk bM_isMarked 0 = some (false, iM_isMarked_0) ∧ x_blk bM_isMarked 2 = some (true, iM_isMarked_2) ∧ x_blk bM_isMarked 26 = some (false, iM_isMarked_26) ∧ x_blk bM_isMarked 32 = some (false, iM_isMarked_32) := ⟨rfl, rfl, rfl, rfl⟩
theorem kM_isMarked : x_chkB zM_isMarked bM_isMarked = true := by decide +kernel
theorem vM_isMarked : zC zM_isMarked = 0 ∧ zS zM_isMarked = 0 ∧ x_rtc (zR zM_isMarked) = 2 := ⟨rfl, rfl, rfl⟩
def iM_readMark_0 : List xPI := [(.aload_n 0, [], []), (.getfield 155, [8, 18, 0, 1260], []), (.bipush 20, [], []), (.if_icmp .ne 13, [19], []), (.aload_n 0, [], []), (.iconst 4, [], []), (.aload_n 0, [], []), (.getfield 115, [8, 12, 0, 1254], []), (.invokevirtual 129, [2, 0, 0, 8, 1408, 1410, 50, 115, 1411], [zM_fails]), (.ireturn, [], [])]
def iM_readMark_19 : List xPI := [(.aload_n 0, [], []), (.invokevirtual 158, [0, 0, 0, 8, 1435, 1437, 55, 115, 1438], [zM_readBar]), (.ifCond .ne 5, [28], []), (.iconst 0, [], []), (.ireturn, [], [])]
def iM_readMark_28 : List xPI := [(.aload_n 0, [], []), (.aload_n 0, [], []), (.getfield 149, [8, 14, 0, 1256], []), (.iconst 1, [], []), (.isub, [], []), (.invokevirtual 162, [1, 0, 0, 8, 1439, 1441, 56, 115, 1442], [zM_isMarked]), (.ifCond .eq 13, [51], []), (.aload_n 0, [], []), (.iconst 3, [], []), (.aload_n 0, [], []), (.getfield 115, [8, 12, 0, 1254], []), (.invokevirtual 129, [2, 0, 0, 8, 1408, 1410, 50, 115, 1411], [zM_fails]), (.ireturn, [], [])]
def iM_readMark_51 : List xPI := [(.aload_n 0, [], []), (.aload_n 0, [], []), (.getfield 155, [8, 18, 0, 1260], []), (.iconst 1, [], []), (.iadd, [], []), (.putfield 155, [8, 18, 0, 1260], []), (.aload_n 0, [], []), (.getfield 13, [8, 2, 2, 1244], []), (.sipush 324, [], []), (.aload_n 0, [], []), (.getfield 155, [8, 18, 0, 1260], []), (.iadd, [], []), (.aload_n 0, [], []), (.getfield 149, [8, 14, 0, 1256], []), (.iconst 1, [], []), (.isub, [], []), (.iastore, [], []), (.iconst 1, [], []), (.ireturn, [], [])]
def bM_readMark : xB := [(0, false, iM_readMark_0), (19, false, iM_readMark_19), (28, false, iM_readMark_28), (51, false, iM_readMark_51)]
theorem eM_readMark : x_blk bM_readMark 0 = some (false, iM_readMark_0) ∧ x_blk bM_readMark 19 = some (false, iM_readMark_19) ∧ x_blk bM_readMark 28 = some (false, iM_readMark_28) ∧ x_blk bM_readMark 51 = some (false, iM_readMark_51) := ⟨rfl, rfl, rfl, rfl⟩
theorem kM_readMark : x_chkB zM_readMark bM_readMark = true := by decide +kernel
theorem vM_readMark : zC zM_readMark = 0 ∧ zS zM_readMark = 0 ∧ x_rtc (zR zM_readMark) = 2 := ⟨rfl, rfl, rfl⟩
def iM_readBit_0 : List xPI := [(.aload_n 0, [], []), (.invokevirtual 158, [0, 0, 0, 8, 1435, 1437, 55, 115, 1438], [zM_readBar]), (.ifCond .ne 5, [9], []), (.iconst 0, [], []), (.ireturn, [], [])]
def iM_readBit_9 : List xPI := [(.sipush 154, [], []), (.aload_n 0, [], []), (.getfield 149, [8, 14, 0, 1256], []), (.iadd, [], []), (.iconst 1, [], []), (.isub, [], []), (.istore_n 2, [], []), (.aload_n 0, [], []), (.getfield 13, [8, 2, 2, 1244], []), (.iload_n 2, [], []), (.aload_n 0, [], []), (.getfield 13, [8, 2, 2, 1244], []), (.iload_n 2, [], []), (.iaload, [], []), (.iload_n 1, [], []), (.iconst 1, [], []), (.invokestatic 165, [3, 0, 0, 1449, 1450, 115, 1451], [zM_withBit]), (.iastore, [], []), (.iconst 1, [], []), (.ireturn, [], [])]
def bM_readBit : xB := [(0, false, iM_readBit_0), (9, false, iM_readBit_9)]
theorem eM_readBit : x_blk bM_readBit 0 = some (false, iM_readBit_0) ∧ x_blk bM_readBit 9 = some (false, iM_readBit_9) := ⟨rfl, rfl⟩
theorem kM_readBit : x_chkB zM_readBit bM_readBit = true := by decide +kernel
theorem vM_readBit : zC zM_readBit = 0 ∧ zS zM_readBit = 0 ∧ x_rtc (zR zM_readBit) = 2 := ⟨rfl, rfl, rfl⟩
def iM_readCut_0 : List xPI := [(.aload_n 0, [], []), (.getfield 169, [8, 19, 0, 1261], []), (.bipush 10, [], []), (.if_icmp .ne 13, [19], []), (.aload_n 0, [], []), (.iconst 4, [], []), (.aload_n 0, [], []), (.getfield 115, [8, 12, 0, 1254], []), (.invokevirtual 129, [2, 0, 0, 8, 1408, 1410, 50, 115, 1411], [zM_fails]), (.ireturn, [], [])]
def iM_readCut_19 : List xPI := [(.aload_n 0, [], []), (.invokevirtual 158, [0, 0, 0, 8, 1435, 1437, 55, 115, 1438], [zM_readBar]), (.ifCond .ne 5, [28], []), (.iconst 0, [], []), (.ireturn, [], [])]
def iM_readCut_28 : List xPI := [(.aload_n 0, [], []), (.getfield 149, [8, 14, 0, 1256], []), (.istore_n 1, [], []), (.aload_n 0, [], []), (.invokevirtual 158, [0, 0, 0, 8, 1435, 1437, 55, 115, 1438], [zM_readBar]), (.ifCond .ne 5, [42], []), (.iconst 0, [], []), (.ireturn, [], [])]
def iM_readCut_42 : List xPI := [(.aload_n 0, [], []), (.getfield 149, [8, 14, 0, 1256], []), (.iload_n 1, [], []), (.if_icmp .ge 13, [60], []), (.aload_n 0, [], []), (.iconst 2, [], []), (.aload_n 0, [], []), (.getfield 115, [8, 12, 0, 1254], []), (.invokevirtual 129, [2, 0, 0, 8, 1408, 1410, 50, 115, 1411], [zM_fails]), (.ireturn, [], [])]
def iM_readCut_60 : List xPI := [(.aload_n 0, [], []), (.getfield 13, [8, 2, 2, 1244], []), (.sipush 304, [], []), (.aload_n 0, [], []), (.getfield 169, [8, 19, 0, 1261], []), (.iadd, [], []), (.iload_n 1, [], []), (.iconst 1, [], []), (.isub, [], []), (.iastore, [], []), (.aload_n 0, [], []), (.getfield 13, [8, 2, 2, 1244], []), (.sipush 314, [], []), (.aload_n 0, [], []), (.getfield 169, [8, 19, 0, 1261], []), (.iadd, [], []), (.aload_n 0, [], []), (.getfield 149, [8, 14, 0, 1256], []), (.iconst 1, [], []), (.isub, [], []), (.iastore, [], []), (.aload_n 0, [], []), (.getfield 13, [8, 2, 2, 1244], []), (.iconst 1, [], []), (.aload_n 0, [], []), (.getfield 13, [8, 2, 2, 1244], []), (.iconst 1, [], []), (.iaload, [], []), (.iconst 1, [], []), (.aload_n 0, [], []), (.getfield 169, [8, 19, 0, 1261], []), (.ishl, [], []), (.ior, [], []), (.iastore, [], []), (.aload_n 0, [], []), (.aload_n 0, [], []), (.getfield 169, [8, 19, 0, 1261], []), (.iconst 1, [], []), (.iadd, [], []), (.putfield 169, [8, 19, 0, 1261], []), (.iconst 1, [], []), (.ireturn, [], [])]
def bM_readCut : xB := [(0, false, iM_readCut_0), (19, false, iM_readCut_19), (28, false, iM_readCut_28), (42, false, iM_readCut_42), (60, false, iM_readCut_60)]
theorem eM_readCut : x_blk bM_readCut 0 = some (false, iM_readCut_0) ∧ x_blk bM_readCut 19 = some (false, iM_readCut_19) ∧ x_blk bM_readCut 28 = some (false, iM_readCut_28) ∧ x_blk bM_readCut 42 = some (false, iM_readCut_42) ∧ x_blk bM_readCut 60 = some (false, iM_readCut_60) := ⟨rfl, rfl, rfl, rfl, rfl⟩
theorem kM_readCut : x_chkB zM_readCut bM_readCut = true := by decide +kernel
theorem vM_readCut : zC zM_readCut = 0 ∧ zS zM_readCut = 0 ∧ x_rtc (zR zM_readCut) = 2 := ⟨rfl, rfl, rfl⟩
def iM_isNamed_0 : List xPI := [(.iconst 0, [], []), (.istore_n 3, [], []), (.nop, [2], [])]
def iM_isNamed_2 : List xPI := [(.iload_n 3, [], []), (.aload_n 0, [], []), (.getfield 13, [8, 2, 2, 1244], []), (.iconst 2, [], []), (.iaload, [], []), (.if_icmp .ge 22, [31], []), (.aload_n 0, [], []), (.getfield 19, [8, 4, 2, 1246], []), (.iload_n 3, [], []), (.laload, [], []), (.lload_n 1, [], []), (.lcmp, [], []), (.ifCond .ne 5, [25], []), (.iconst 1, [], []), (.ireturn, [], [])]
def iM_isNamed_25 : List xPI := [(.iinc 3 1, [], []), (.goto (-26), [2], [])]
def iM_isNamed_31 : List xPI := [(.iconst 0, [], []), (.ireturn, [], [])]
def bM_isNamed : xB := [(0, false, iM_isNamed_0), (2, true, iM_isNamed_2), (25, false, iM_isNamed_25), (31, false, iM_isNamed_31)]
theorem eM_isNamed : x_blk bM_isNamed 0 = some (false, iM_isNamed_0) ∧ x_blk bM_isNamed 2 = some (true, iM_isNamed_2) ∧ x_blk bM_isNamed 25 = some (false, iM_isNamed_25) ∧ x_blk bM_isNamed 31 = some (false, iM_isNamed_31) := ⟨rfl, rfl, rfl, rfl⟩
theorem kM_isNamed : x_chkB zM_isNamed bM_isNamed = true := by decide +kernel
theorem vM_isNamed : zC zM_isNamed = 0 ∧ zS zM_isNamed = 0 ∧ x_rtc (zR zM_isNamed) = 2 := ⟨rfl, rfl, rfl⟩
def iM_contentHere_0 : List xPI := [(.aload_n 0, [], []), (.getfield 132, [8, 17, 1, 1259], []), (.ldc2_w 172, [536633, 1474], []), (.lcmp, [], []), (.ifCond .ne 5, [13], []), (.iconst 1, [], []), (.ireturn, [], [])]
def iM_contentHere_13 : List xPI := [(.aload_n 0, [], []), (.getfield 132, [8, 17, 1, 1259], []), (.ldc2_w 174, [3749, 1475], []), (.lcmp, [], []), (.ifCond .ne 5, [26], []), (.iconst 2, [], []), (.ireturn, [], [])]
def iM_contentHere_26 : List xPI := [(.aload_n 0, [], []), (.getfield 132, [8, 17, 1, 1259], []), (.ldc2_w 176, [595572, 1476], []), (.lcmp, [], []), (.ifCond .ne 7, [41], []), (.iconst 0, [], []), (.goto 4, [42], [])]
def iM_contentHere_41 : List xPI := [(.iconst (-1), [], []), (.nop, [42], [])]
def iM_contentHere_42 : List xPI := [(.ireturn, [], [])]
def bM_contentHere : xB := [(0, false, iM_contentHere_0), (13, false, iM_contentHere_13), (26, false, iM_contentHere_26), (41, false, iM_contentHere_41), (42, false, iM_contentHere_42)]
theorem eM_contentHere : x_blk bM_contentHere 0 = some (false, iM_contentHere_0) ∧ x_blk bM_contentHere 13 = some (false, iM_contentHere_13) ∧ x_blk bM_contentHere 26 = some (false, iM_contentHere_26) ∧ x_blk bM_contentHere 41 = some (false, iM_contentHere_41) ∧ x_blk bM_contentHere 42 = some (false, iM_contentHere_42) := ⟨rfl, rfl, rfl, rfl, rfl⟩
theorem kM_contentHere : x_chkB zM_contentHere bM_contentHere = true := by decide +kernel
theorem vM_contentHere : zC zM_contentHere = 0 ∧ zS zM_contentHere = 0 ∧ x_rtc (zR zM_contentHere) = 1 := ⟨rfl, rfl, rfl⟩
def iM_readContents_0 : List xPI := [(.iconst 0, [], []), (.istore_n 2, [], []), (.nop, [2], [])]
def iM_readContents_2 : List xPI := [(.aload_n 0, [], []), (.invokevirtual 121, [0, 0, 0, 8, 1389, 1391, 46, 115, 1392], [zM_peek]), (.invokestatic 125, [1, 0, 0, 1405, 1406, 115, 1407], [zM_isLetter]), (.ifCond .eq 128, [137], []), (.aload_n 0, [], []), (.invokevirtual 178, [0, 0, 0, 8, 1401, 1403, 49, 115, 1404], [zM_readWord]), (.ifCond .ne 5, [21], []), (.iconst 0, [], []), (.ireturn, [], [])]
def iM_readContents_21 : List xPI := [(.aload_n 0, [], []), (.invokevirtual 181, [0, 0, 0, 8, 1470, 1472, 62, 115, 1473], [zM_contentHere]), (.istore_n 3, [], []), (.iload_n 3, [], []), (.iconst (-1), [], []), (.if_icmp .ne 13, [41], []), (.aload_n 0, [], []), (.iconst 1, [], []), (.aload_n 0, [], []), (.getfield 115, [8, 12, 0, 1254], []), (.invokevirtual 129, [2, 0, 0, 8, 1408, 1410, 50, 115, 1411], [zM_fails]), (.ireturn, [], [])]
def iM_readContents_41 : List xPI := [(.aload_n 0, [], []), (.iconst 1, [], []), (.bipush 99, [], []), (.invokevirtual 152, [2, 0, 0, 8, 1423, 1425, 53, 115, 1426], [zM_readNumber]), (.ifCond .ne 5, [53], []), (.iconst 0, [], []), (.ireturn, [], [])]
def iM_readContents_53 : List xPI := [(.iload_n 2, [], []), (.aload_n 0, [], []), (.getfield 149, [8, 14, 0, 1256], []), (.iadd, [], []), (.aload_n 0, [], []), (.getfield 13, [8, 2, 2, 1244], []), (.iconst 0, [], []), (.iaload, [], []), (.if_icmp .le 13, [78], []), (.aload_n 0, [], []), (.iconst 2, [], []), (.aload_n 0, [], []), (.getfield 115, [8, 12, 0, 1254], []), (.invokevirtual 129, [2, 0, 0, 8, 1408, 1410, 50, 115, 1411], [zM_fails]), (.ireturn, [], [])]
def iM_readContents_78 : List xPI := [(.iconst 0, [], []), (.istore 4, [], []), (.nop, [81], [])]
def iM_readContents_81 : List xPI := [(.iload 4, [], []), (.aload_n 0, [], []), (.getfield 149, [8, 14, 0, 1256], []), (.if_icmp .ge 40, [127], []), (.aload_n 0, [], []), (.getfield 13, [8, 2, 2, 1244], []), (.sipush 154, [], []), (.iload_n 2, [], []), (.iadd, [], []), (.iload 4, [], []), (.iadd, [], []), (.aload_n 0, [], []), (.getfield 13, [8, 2, 2, 1244], []), (.sipush 154, [], []), (.iload_n 2, [], []), (.iadd, [], []), (.iload 4, [], []), (.iadd, [], []), (.iaload, [], []), (.iload_n 1, [], []), (.iload_n 3, [], []), (.invokestatic 184, [3, 0, 0, 1477, 1478, 115, 1479], [zM_withContent]), (.iastore, [], []), (.iinc 4 1, [], []), (.goto (-43), [81], [])]
def iM_readContents_127 : List xPI := [(.iload_n 2, [], []), (.aload_n 0, [], []), (.getfield 149, [8, 14, 0, 1256], []), (.iadd, [], []), (.istore_n 2, [], []), (.goto (-132), [2], [])]
def iM_readContents_137 : List xPI := [(.iconst 1, [], []), (.ireturn, [], [])]
def bM_readContents : xB := [(0, false, iM_readContents_0), (2, true, iM_readContents_2), (21, false, iM_readContents_21), (41, false, iM_readContents_41), (53, false, iM_readContents_53), (78, false, iM_readContents_78), (81, true, iM_readContents_81), (127, false, iM_readContents_127), (137, false, iM_readContents_137)]
theorem eM_readContents : x_blk bM_readContents 0 = some (false, iM_readContents_0) ∧ x_blk bM_readContents 2 = some (true, iM_readContents_2) ∧ x_blk bM_readContents 21 = some (false, iM_readContents_21) ∧ x_blk bM_readContents 41 = some (false, iM_readContents_41) ∧ x_blk bM_readContents 53 = some (false, iM_readContents_53) ∧ x_blk bM_readContents 78 = some (false, iM_readContents_78) ∧ x_blk bM_readContents 81 = some (true, iM_readContents_81) ∧ x_blk bM_readContents 127 = some (false, iM_readContents_127) ∧ x_blk bM_readContents 137 = some (false, iM_readContents_137) := ⟨rfl, rfl, rfl, rfl, rfl, rfl, rfl, rfl, rfl⟩
theorem kM_readContents : x_chkB zM_readContents bM_readContents = true := by decide +kernel
theorem vM_readContents : zC zM_readContents = 0 ∧ zS zM_readContents = 0 ∧ x_rtc (zR zM_readContents) = 2 := ⟨rfl, rfl, rfl⟩
def iM_readPart_0 : List xPI := [(.aload_n 0, [], []), (.getfield 13, [8, 2, 2, 1244], []), (.iconst 2, [], []), (.iaload, [], []), (.istore_n 1, [], []), (.iload_n 1, [], []), (.bipush 6, [], []), (.if_icmp .ne 13, [23], []), (.aload_n 0, [], []), (.iconst 4, [], []), (.aload_n 0, [], []), (.getfield 115, [8, 12, 0, 1254], []), (.invokevirtual 129, [2, 0, 0, 8, 1408, 1410, 50, 115, 1411], [zM_fails]), (.ireturn, [], [])]
def iM_readPart_23 : List xPI := [(.aload_n 0, [], []), (.invokevirtual 178, [0, 0, 0, 8, 1401, 1403, 49, 115, 1404], [zM_readWord]), (.ifCond .ne 5, [32], []), (.iconst 0, [], []), (.ireturn, [], [])]
def iM_readPart_32 : List xPI := [(.aload_n 0, [], []), (.getfield 140, [8, 13, 0, 1255], []), (.bipush 6, [], []), (.if_icmp .le 13, [51], []), (.aload_n 0, [], []), (.iconst 1, [], []), (.aload_n 0, [], []), (.getfield 115, [8, 12, 0, 1254], []), (.invokevirtual 129, [2, 0, 0, 8, 1408, 1410, 50, 115, 1411], [zM_fails]), (.ireturn, [], [])]
def iM_readPart_51 : List xPI := [(.aload_n 0, [], []), (.aload_n 0, [], []), (.getfield 132, [8, 17, 1, 1259], []), (.invokevirtual 188, [1, 0, 0, 8, 1462, 1464, 60, 115, 1465], [zM_isNamed]), (.ifCond .eq 13, [72], []), (.aload_n 0, [], []), (.iconst 3, [], []), (.aload_n 0, [], []), (.getfield 115, [8, 12, 0, 1254], []), (.invokevirtual 129, [2, 0, 0, 8, 1408, 1410, 50, 115, 1411], [zM_fails]), (.ireturn, [], [])]
def iM_readPart_72 : List xPI := [(.aload_n 0, [], []), (.getfield 19, [8, 4, 2, 1246], []), (.iload_n 1, [], []), (.aload_n 0, [], []), (.getfield 132, [8, 17, 1, 1259], []), (.lastore, [], []), (.aload_n 0, [], []), (.getfield 13, [8, 2, 2, 1244], []), (.iconst 2, [], []), (.iload_n 1, [], []), (.iconst 1, [], []), (.iadd, [], []), (.iastore, [], []), (.aload_n 0, [], []), (.iload_n 1, [], []), (.invokevirtual 192, [1, 0, 0, 8, 1466, 1468, 61, 115, 1469], [zM_readContents]), (.ireturn, [], [])]
def bM_readPart : xB := [(0, false, iM_readPart_0), (23, false, iM_readPart_23), (32, false, iM_readPart_32), (51, false, iM_readPart_51), (72, false, iM_readPart_72)]
theorem eM_readPart : x_blk bM_readPart 0 = some (false, iM_readPart_0) ∧ x_blk bM_readPart 23 = some (false, iM_readPart_23) ∧ x_blk bM_readPart 32 = some (false, iM_readPart_32) ∧ x_blk bM_readPart 51 = some (false, iM_readPart_51) ∧ x_blk bM_readPart 72 = some (false, iM_readPart_72) := ⟨rfl, rfl, rfl, rfl, rfl⟩
theorem kM_readPart : x_chkB zM_readPart bM_readPart = true := by decide +kernel
theorem vM_readPart : zC zM_readPart = 0 ∧ zS zM_readPart = 0 ∧ x_rtc (zR zM_readPart) = 2 := ⟨rfl, rfl, rfl⟩
def iM_readStatement_0 : List xPI := [(.aload_n 0, [], []), (.invokevirtual 178, [0, 0, 0, 8, 1401, 1403, 49, 115, 1404], [zM_readWord]), (.ifCond .ne 5, [9], []), (.iconst 0, [], []), (.ireturn, [], [])]
def iM_readStatement_9 : List xPI := [(.aload_n 0, [], []), (.getfield 132, [8, 17, 1, 1259], []), (.ldc2_w 195, [67155, 1418], []), (.lcmp, [], []), (.ifCond .ne 8, [25], []), (.aload_n 0, [], []), (.invokevirtual 197, [0, 0, 0, 8, 1419, 1421, 52, 115, 1422], [zM_readBars]), (.ireturn, [], [])]
def iM_readStatement_25 : List xPI := [(.aload_n 0, [], []), (.getfield 132, [8, 17, 1, 1259], []), (.ldc2_w 200, [427595, 1430], []), (.lcmp, [], []), (.ifCond .ne 8, [41], []), (.aload_n 0, [], []), (.invokevirtual 202, [0, 0, 0, 8, 1431, 1433, 54, 115, 1434], [zM_readMark]), (.ireturn, [], [])]
def iM_readStatement_41 : List xPI := [(.aload_n 0, [], []), (.getfield 132, [8, 17, 1, 1259], []), (.ldc2_w 205, [661268, 1443], []), (.lcmp, [], []), (.ifCond .eq 14, [63], []), (.aload_n 0, [], []), (.getfield 132, [8, 17, 1, 1259], []), (.ldc2_w 207, [150636933, 1444], []), (.lcmp, [], []), (.ifCond .ne 25, [85], []), (.nop, [63], [])]
def iM_readStatement_63 : List xPI := [(.aload_n 0, [], []), (.aload_n 0, [], []), (.getfield 132, [8, 17, 1, 1259], []), (.ldc2_w 205, [661268, 1443], []), (.lcmp, [], []), (.ifCond .ne 7, [79], []), (.iconst 5, [], []), (.goto 5, [81], [])]
def iM_readStatement_79 : List xPI := [(.bipush 6, [], []), (.nop, [81], [])]
def iM_readStatement_81 : List xPI := [(.invokevirtual 209, [1, 0, 0, 8, 1445, 1447, 57, 115, 1448], [zM_readBit]), (.ireturn, [], [])]
def iM_readStatement_85 : List xPI := [(.aload_n 0, [], []), (.getfield 132, [8, 17, 1, 1259], []), (.ldc2_w 212, [3764, 1452], []), (.lcmp, [], []), (.ifCond .ne 8, [101], []), (.aload_n 0, [], []), (.invokevirtual 214, [0, 0, 0, 8, 1453, 1455, 58, 115, 1456], [zM_readCut]), (.ireturn, [], [])]
def iM_readStatement_101 : List xPI := [(.aload_n 0, [], []), (.getfield 132, [8, 17, 1, 1259], []), (.ldc2_w 217, [525908, 1457], []), (.lcmp, [], []), (.ifCond .ne 10, [119], []), (.aload_n 0, [], []), (.invokevirtual 219, [0, 0, 0, 8, 1458, 1460, 59, 115, 1461], [zM_readPart]), (.goto 12, [128], [])]
def iM_readStatement_119 : List xPI := [(.aload_n 0, [], []), (.iconst 1, [], []), (.aload_n 0, [], []), (.getfield 115, [8, 12, 0, 1254], []), (.invokevirtual 129, [2, 0, 0, 8, 1408, 1410, 50, 115, 1411], [zM_fails]), (.nop, [128], [])]
def iM_readStatement_128 : List xPI := [(.ireturn, [], [])]
def bM_readStatement : xB := [(0, false, iM_readStatement_0), (9, false, iM_readStatement_9), (25, false, iM_readStatement_25), (41, false, iM_readStatement_41), (63, false, iM_readStatement_63), (79, false, iM_readStatement_79), (81, false, iM_readStatement_81), (85, false, iM_readStatement_85), (101, false, iM_readStatement_101), (119, false, iM_readStatement_119), (128, false, iM_readStatement_128)]
theorem eM_readStatement : x_blk bM_readStatement 0 = some (false, iM_readStatement_0) ∧ x_blk bM_readStatement 9 = some (false, iM_readStatement_9) ∧ x_blk bM_readStatement 25 = some (false, iM_readStatement_25) ∧ x_blk bM_readStatement 41 = some (false, iM_readStatement_41) ∧ x_blk bM_readStatement 63 = some (false, iM_readStatement_63) ∧ x_blk bM_readStatement 79 = some (false, iM_readStatement_79) ∧ x_blk bM_readStatement 81 = some (false, iM_readStatement_81) ∧ x_blk bM_readStatement 85 = some (false, iM_readStatement_85) ∧ x_blk bM_readStatement 101 = some (false, iM_readStatement_101) ∧ x_blk bM_readStatement 119 = some (false, iM_readStatement_119) ∧ x_blk bM_readStatement 128 = some (false, iM_readStatement_128) := ⟨rfl, rfl, rfl, rfl, rfl, rfl, rfl, rfl, rfl, rfl, rfl⟩
theorem kM_readStatement : x_chkB zM_readStatement bM_readStatement = true := by decide +kernel
theorem vM_readStatement : zC zM_readStatement = 0 ∧ zS zM_readStatement = 0 ∧ x_rtc (zR zM_readStatement) = 2 := ⟨rfl, rfl, rfl⟩
def iM_readScore_0 : List xPI := [(.aload_n 0, [], []), (.invokevirtual 121, [0, 0, 0, 8, 1389, 1391, 46, 115, 1392], [zM_peek]), (.iconst (-1), [], []), (.if_icmp .eq 19, [24], []), (.aload_n 0, [], []), (.invokevirtual 222, [0, 0, 0, 8, 1397, 1399, 48, 115, 1400], [zM_readStatement]), (.ifCond .eq 10, [22], []), (.aload_n 0, [], []), (.invokevirtual 225, [0, 0, 0, 8, 1480, 1482, 63, 115, 1483], [zM_readSemicolon]), (.ifCond .ne (-19), [0], []), (.nop, [22], [])]
def iM_readScore_22 : List xPI := [(.iconst 0, [], []), (.ireturn, [], [])]
def iM_readScore_24 : List xPI := [(.iconst 1, [], []), (.ireturn, [], [])]
def bM_readScore : xB := [(0, true, iM_readScore_0), (22, false, iM_readScore_22), (24, false, iM_readScore_24)]
theorem eM_readScore : x_blk bM_readScore 0 = some (true, iM_readScore_0) ∧ x_blk bM_readScore 22 = some (false, iM_readScore_22) ∧ x_blk bM_readScore 24 = some (false, iM_readScore_24) := ⟨rfl, rfl, rfl⟩
theorem kM_readScore : x_chkB zM_readScore bM_readScore = true := by decide +kernel
theorem vM_readScore : zC zM_readScore = 0 ∧ zS zM_readScore = 0 ∧ x_rtc (zR zM_readScore) = 2 := ⟨rfl, rfl, rfl⟩
def iM_load_0 : List xPI := [(.aload_n 0, [], []), (.iload_n 1, [], []), (.iconst 0, [], []), (.aload_n 0, [], []), (.getfield 90, [8, 8, 0, 1250], []), (.invokestatic 82, [3, 0, 0, 1378, 1379, 115, 1380], [zM_in]), (.ifCond .eq 7, [17], []), (.iconst 0, [], []), (.goto 4, [18], [])]
def iM_load_17 : List xPI := [(.iconst 1, [], []), (.nop, [18], [])]
def iM_load_18 : List xPI := [(.invokevirtual 228, [1, 0, 0, 8, 1381, 1383, 44, 115, 1384], [zM_isRefused]), (.ifCond .eq 5, [26], []), (.iconst 0, [], []), (.ireturn, [], [])]
def iM_load_26 : List xPI := [(.aload_n 0, [], []), (.iload_n 1, [], []), (.putfield 106, [8, 10, 0, 1252], []), (.aload_n 0, [], []), (.iconst 0, [], []), (.putfield 109, [8, 9, 0, 1251], []), (.aload_n 0, [], []), (.iconst (-1), [], []), (.putfield 118, [8, 11, 0, 1253], []), (.aload_n 0, [], []), (.iconst 0, [], []), (.putfield 100, [8, 15, 0, 1257], []), (.aload_n 0, [], []), (.iconst (-1), [], []), (.putfield 26, [8, 16, 0, 1258], []), (.aload_n 0, [], []), (.iconst 0, [], []), (.putfield 90, [8, 8, 0, 1250], []), (.aload_n 0, [], []), (.iconst 0, [], []), (.putfield 155, [8, 18, 0, 1260], []), (.aload_n 0, [], []), (.iconst 0, [], []), (.putfield 169, [8, 19, 0, 1261], []), (.aload_n 0, [], []), (.invokevirtual 60, [0, 0, 0, 8, 1234, 1236, 39, 115, 1237], [zM_clears]), (.aload_n 0, [], []), (.aload_n 0, [], []), (.invokevirtual 231, [0, 0, 0, 8, 1385, 1387, 45, 115, 1388], [zM_readScore]), (.ifCond .eq 7, [82], []), (.iconst 0, [], []), (.goto 4, [83], [])]
def iM_load_82 : List xPI := [(.iconst 2, [], []), (.nop, [83], [])]
def iM_load_83 : List xPI := [(.invokevirtual 228, [1, 0, 0, 8, 1381, 1383, 44, 115, 1384], [zM_isRefused]), (.ifCond .eq 5, [91], []), (.iconst 0, [], []), (.ireturn, [], [])]
def iM_load_91 : List xPI := [(.aload_n 0, [], []), (.invokevirtual 63, [0, 0, 0, 8, 1238, 1240, 40, 115, 1241], [zM_takesDraft]), (.aload_n 0, [], []), (.getfield 7, [8, 1, 2, 1243], []), (.iconst 0, [], []), (.iaload, [], []), (.ireturn, [], [])]
def bM_load : xB := [(0, false, iM_load_0), (17, false, iM_load_17), (18, false, iM_load_18), (26, false, iM_load_26), (82, false, iM_load_82), (83, false, iM_load_83), (91, false, iM_load_91)]
theorem eM_load : x_blk bM_load 0 = some (false, iM_load_0) ∧ x_blk bM_load 17 = some (false, iM_load_17) ∧ x_blk bM_load 18 = some (false, iM_load_18) ∧ x_blk bM_load 26 = some (false, iM_load_26) ∧ x_blk bM_load 82 = some (false, iM_load_82) ∧ x_blk bM_load 83 = some (false, iM_load_83) ∧ x_blk bM_load 91 = some (false, iM_load_91) := ⟨rfl, rfl, rfl, rfl, rfl, rfl, rfl⟩
theorem kM_load : x_chkB zM_load bM_load = true := by decide +kernel
theorem vM_load : zC zM_load = 0 ∧ zS zM_load = 0 ∧ x_rtc (zR zM_load) = 1 := ⟨rfl, rfl, rfl⟩
def iM_isInserted_0 : List xPI := [(.aload_n 0, [], []), (.iload_n 1, [], []), (.invokevirtual 234, [1, 0, 0, 8, 1520, 1522, 70, 115, 1523], [zM_whatAt]), (.iconst 4, [], []), (.invokestatic 86, [2, 0, 0, 1524, 1525, 115, 1526], [zM_has]), (.ireturn, [], [])]
def bM_isInserted : xB := [(0, false, iM_isInserted_0)]
theorem eM_isInserted : x_blk bM_isInserted 0 = some (false, iM_isInserted_0) := rfl
theorem kM_isInserted : x_chkB zM_isInserted bM_isInserted = true := by decide +kernel
theorem vM_isInserted : zC zM_isInserted = 0 ∧ zS zM_isInserted = 0 ∧ x_rtc (zR zM_isInserted) = 2 := ⟨rfl, rfl, rfl⟩
def iM_laysLabels_0 : List xPI := [(.iconst 0, [], []), (.istore_n 1, [], []), (.iconst 0, [], []), (.istore_n 2, [], []), (.iconst 0, [], []), (.istore_n 3, [], []), (.nop, [6], [])]
def iM_laysLabels_6 : List xPI := [(.iload_n 3, [], []), (.aload_n 0, [], []), (.getfield 7, [8, 1, 2, 1243], []), (.iconst 0, [], []), (.iaload, [], []), (.if_icmp .ge 55, [68], []), (.aload_n 0, [], []), (.iload_n 3, [], []), (.invokevirtual 237, [1, 0, 0, 8, 1516, 1518, 69, 115, 1519], [zM_isInserted]), (.istore 4, [], []), (.iload 4, [], []), (.ifCond .eq 7, [32], []), (.iload_n 1, [], []), (.goto 6, [35], [])]
def iM_laysLabels_32 : List xPI := [(.iload_n 1, [], []), (.iconst 1, [], []), (.iadd, [], []), (.nop, [35], [])]
def iM_laysLabels_35 : List xPI := [(.istore_n 1, [], []), (.iload 4, [], []), (.ifCond .eq 9, [47], []), (.iload_n 2, [], []), (.iconst 1, [], []), (.iadd, [], []), (.goto 4, [48], [])]
def iM_laysLabels_47 : List xPI := [(.iconst 0, [], []), (.nop, [48], [])]
def iM_laysLabels_48 : List xPI := [(.istore_n 2, [], []), (.aload_n 0, [], []), (.getfield 30, [8, 20, 2, 1262], []), (.iload_n 3, [], []), (.sipush 1000, [], []), (.iload_n 1, [], []), (.imul, [], []), (.iload_n 2, [], []), (.iadd, [], []), (.iastore, [], []), (.iinc 3 1, [], []), (.goto (-59), [6], [])]
def iM_laysLabels_68 : List xPI := [(.return_, [], [])]
def bM_laysLabels : xB := [(0, false, iM_laysLabels_0), (6, true, iM_laysLabels_6), (32, false, iM_laysLabels_32), (35, false, iM_laysLabels_35), (47, false, iM_laysLabels_47), (48, false, iM_laysLabels_48), (68, false, iM_laysLabels_68)]
theorem eM_laysLabels : x_blk bM_laysLabels 0 = some (false, iM_laysLabels_0) ∧ x_blk bM_laysLabels 6 = some (true, iM_laysLabels_6) ∧ x_blk bM_laysLabels 32 = some (false, iM_laysLabels_32) ∧ x_blk bM_laysLabels 35 = some (false, iM_laysLabels_35) ∧ x_blk bM_laysLabels 47 = some (false, iM_laysLabels_47) ∧ x_blk bM_laysLabels 48 = some (false, iM_laysLabels_48) ∧ x_blk bM_laysLabels 68 = some (false, iM_laysLabels_68) := ⟨rfl, rfl, rfl, rfl, rfl, rfl, rfl⟩
theorem kM_laysLabels : x_chkB zM_laysLabels bM_laysLabels = true := by decide +kernel
theorem vM_laysLabels : zC zM_laysLabels = 0 ∧ zS zM_laysLabels = 0 ∧ x_rtc (zR zM_laysLabels) = 0 := ⟨rfl, rfl, rfl⟩
def iM_laysCovers_0 : List xPI := [(.iconst 0, [], []), (.istore_n 1, [], []), (.nop, [2], [])]
def iM_laysCovers_2 : List xPI := [(.iload_n 1, [], []), (.aload_n 0, [], []), (.getfield 7, [8, 1, 2, 1243], []), (.iconst 0, [], []), (.iaload, [], []), (.if_icmp .ge 16, [25], []), (.aload_n 0, [], []), (.getfield 33, [8, 21, 2, 1263], []), (.iload_n 1, [], []), (.iconst 0, [], []), (.iastore, [], []), (.iinc 1 1, [], []), (.goto (-20), [2], [])]
def iM_laysCovers_25 : List xPI := [(.iconst 0, [], []), (.istore_n 1, [], []), (.nop, [27], [])]
def iM_laysCovers_27 : List xPI := [(.iload_n 1, [], []), (.bipush 10, [], []), (.if_icmp .ge 80, [110], []), (.aload_n 0, [], []), (.getfield 7, [8, 1, 2, 1243], []), (.iconst 1, [], []), (.iaload, [], []), (.iload_n 1, [], []), (.invokestatic 86, [2, 0, 0, 1524, 1525, 115, 1526], [zM_has]), (.ifCond .ne 6, [49], []), (.goto 58, [104], [])]
def iM_laysCovers_49 : List xPI := [(.aload_n 0, [], []), (.aload_n 0, [], []), (.getfield 7, [8, 1, 2, 1243], []), (.sipush 314, [], []), (.iload_n 1, [], []), (.iadd, [], []), (.iaload, [], []), (.invokevirtual 79, [1, 0, 0, 8, 1504, 1506, 66, 115, 1507], [zM_placeOf]), (.istore_n 2, [], []), (.aload_n 0, [], []), (.aload_n 0, [], []), (.getfield 7, [8, 1, 2, 1243], []), (.sipush 304, [], []), (.iload_n 1, [], []), (.iadd, [], []), (.iaload, [], []), (.invokevirtual 79, [1, 0, 0, 8, 1504, 1506, 66, 115, 1507], [zM_placeOf]), (.istore_n 3, [], []), (.nop, [79], [])]
def iM_laysCovers_79 : List xPI := [(.iload_n 3, [], []), (.iload_n 2, [], []), (.if_icmp .gt 23, [104], []), (.aload_n 0, [], []), (.getfield 33, [8, 21, 2, 1263], []), (.iload_n 3, [], []), (.aload_n 0, [], []), (.getfield 33, [8, 21, 2, 1263], []), (.iload_n 3, [], []), (.iaload, [], []), (.iconst 1, [], []), (.iadd, [], []), (.iastore, [], []), (.iinc 3 1, [], []), (.goto (-22), [79], [])]
def iM_laysCovers_104 : List xPI := [(.iinc 1 1, [], []), (.goto (-80), [27], [])]
def iM_laysCovers_110 : List xPI := [(.aload_n 0, [], []), (.iconst 0, [], []), (.putfield 240, [8, 26, 0, 1268], []), (.iconst 0, [], []), (.istore_n 1, [], []), (.nop, [117], [])]
def iM_laysCovers_117 : List xPI := [(.iload_n 1, [], []), (.aload_n 0, [], []), (.getfield 7, [8, 1, 2, 1243], []), (.iconst 0, [], []), (.iaload, [], []), (.if_icmp .ge 48, [172], []), (.aload_n 0, [], []), (.getfield 45, [8, 25, 2, 1267], []), (.iload_n 1, [], []), (.aload_n 0, [], []), (.getfield 240, [8, 26, 0, 1268], []), (.iastore, [], []), (.aload_n 0, [], []), (.getfield 33, [8, 21, 2, 1263], []), (.iload_n 1, [], []), (.iaload, [], []), (.ifCond .ne 23, [166], []), (.aload_n 0, [], []), (.getfield 42, [8, 24, 2, 1266], []), (.aload_n 0, [], []), (.getfield 240, [8, 26, 0, 1268], []), (.iload_n 1, [], []), (.iastore, [], []), (.aload_n 0, [], []), (.aload_n 0, [], []), (.getfield 240, [8, 26, 0, 1268], []), (.iconst 1, [], []), (.iadd, [], []), (.putfield 240, [8, 26, 0, 1268], []), (.nop, [166], [])]
def iM_laysCovers_166 : List xPI := [(.iinc 1 1, [], []), (.goto (-52), [117], [])]
def iM_laysCovers_172 : List xPI := [(.return_, [], [])]
def bM_laysCovers : xB := [(0, false, iM_laysCovers_0), (2, true, iM_laysCovers_2), (25, false, iM_laysCovers_25), (27, true, iM_laysCovers_27), (49, false, iM_laysCovers_49), (79, true, iM_laysCovers_79), (104, false, iM_laysCovers_104), (110, false, iM_laysCovers_110), (117, true, iM_laysCovers_117), (166, false, iM_laysCovers_166), (172, false, iM_laysCovers_172)]
theorem eM_laysCovers : x_blk bM_laysCovers 0 = some (false, iM_laysCovers_0) ∧ x_blk bM_laysCovers 2 = some (true, iM_laysCovers_2) ∧ x_blk bM_laysCovers 25 = some (false, iM_laysCovers_25) ∧ x_blk bM_laysCovers 27 = some (true, iM_laysCovers_27) ∧ x_blk bM_laysCovers 49 = some (false, iM_laysCovers_49) ∧ x_blk bM_laysCovers 79 = some (true, iM_laysCovers_79) ∧ x_blk bM_laysCovers 104 = some (false, iM_laysCovers_104) ∧ x_blk bM_laysCovers 110 = some (false, iM_laysCovers_110) ∧ x_blk bM_laysCovers 117 = some (true, iM_laysCovers_117) ∧ x_blk bM_laysCovers 166 = some (false, iM_laysCovers_166) ∧ x_blk bM_laysCovers 172 = some (false, iM_laysCovers_172) := ⟨rfl, rfl, rfl, rfl, rfl, rfl, rfl, rfl, rfl, rfl, rfl⟩
theorem kM_laysCovers : x_chkB zM_laysCovers bM_laysCovers = true := by decide +kernel
theorem vM_laysCovers : zC zM_laysCovers = 0 ∧ zS zM_laysCovers = 0 ∧ x_rtc (zR zM_laysCovers) = 0 := ⟨rfl, rfl, rfl⟩
def iM_laysLetters_0 : List xPI := [(.iconst 0, [], []), (.istore_n 1, [], []), (.nop, [2], [])]
def iM_laysLetters_2 : List xPI := [(.iload_n 1, [], []), (.aload_n 0, [], []), (.getfield 7, [8, 1, 2, 1243], []), (.iconst 0, [], []), (.iaload, [], []), (.if_icmp .ge 16, [25], []), (.aload_n 0, [], []), (.getfield 36, [8, 22, 2, 1264], []), (.iload_n 1, [], []), (.iconst 0, [], []), (.iastore, [], []), (.iinc 1 1, [], []), (.goto (-20), [2], [])]
def iM_laysLetters_25 : List xPI := [(.iconst 1, [], []), (.istore_n 1, [], []), (.nop, [27], [])]
def iM_laysLetters_27 : List xPI := [(.iload_n 1, [], []), (.bipush 40, [], []), (.if_icmp .gt 118, [148], []), (.aload_n 0, [], []), (.getfield 39, [8, 23, 2, 1265], []), (.iload_n 1, [], []), (.iconst (-1), [], []), (.iastore, [], []), (.aload_n 0, [], []), (.getfield 7, [8, 1, 2, 1243], []), (.sipush 324, [], []), (.iload_n 1, [], []), (.iadd, [], []), (.iaload, [], []), (.iconst (-1), [], []), (.if_icmp .ne 6, [57], []), (.goto 88, [142], [])]
def iM_laysLetters_57 : List xPI := [(.aload_n 0, [], []), (.getfield 45, [8, 25, 2, 1267], []), (.aload_n 0, [], []), (.aload_n 0, [], []), (.getfield 7, [8, 1, 2, 1243], []), (.sipush 324, [], []), (.iload_n 1, [], []), (.iadd, [], []), (.iaload, [], []), (.invokevirtual 79, [1, 0, 0, 8, 1504, 1506, 66, 115, 1507], [zM_placeOf]), (.iaload, [], []), (.istore_n 2, [], []), (.aload_n 0, [], []), (.getfield 39, [8, 23, 2, 1265], []), (.iload_n 1, [], []), (.iload_n 2, [], []), (.aload_n 0, [], []), (.getfield 240, [8, 26, 0, 1268], []), (.if_icmp .ge 12, [99], []), (.aload_n 0, [], []), (.getfield 42, [8, 24, 2, 1266], []), (.iload_n 2, [], []), (.iaload, [], []), (.goto 4, [100], [])]
def iM_laysLetters_99 : List xPI := [(.iconst (-1), [], []), (.nop, [100], [])]
def iM_laysLetters_100 : List xPI := [(.iastore, [], []), (.aload_n 0, [], []), (.getfield 39, [8, 23, 2, 1265], []), (.iload_n 1, [], []), (.iaload, [], []), (.iconst (-1), [], []), (.if_icmp .eq 34, [142], []), (.aload_n 0, [], []), (.iload_n 1, [], []), (.aload_n 0, [], []), (.getfield 36, [8, 22, 2, 1264], []), (.aload_n 0, [], []), (.getfield 39, [8, 23, 2, 1265], []), (.iload_n 1, [], []), (.iaload, [], []), (.iaload, [], []), (.invokevirtual 243, [2, 0, 0, 8, 1535, 1537, 73, 115, 1538], [zM_isNearer]), (.ifCond .eq 15, [142], []), (.aload_n 0, [], []), (.getfield 36, [8, 22, 2, 1264], []), (.aload_n 0, [], []), (.getfield 39, [8, 23, 2, 1265], []), (.iload_n 1, [], []), (.iaload, [], []), (.iload_n 1, [], []), (.iastore, [], []), (.nop, [142], [])]
def iM_laysLetters_142 : List xPI := [(.iinc 1 1, [], []), (.goto (-118), [27], [])]
def iM_laysLetters_148 : List xPI := [(.return_, [], [])]
def bM_laysLetters : xB := [(0, false, iM_laysLetters_0), (2, true, iM_laysLetters_2), (25, false, iM_laysLetters_25), (27, true, iM_laysLetters_27), (57, false, iM_laysLetters_57), (99, false, iM_laysLetters_99), (100, false, iM_laysLetters_100), (142, false, iM_laysLetters_142), (148, false, iM_laysLetters_148)]
theorem eM_laysLetters : x_blk bM_laysLetters 0 = some (false, iM_laysLetters_0) ∧ x_blk bM_laysLetters 2 = some (true, iM_laysLetters_2) ∧ x_blk bM_laysLetters 25 = some (false, iM_laysLetters_25) ∧ x_blk bM_laysLetters 27 = some (true, iM_laysLetters_27) ∧ x_blk bM_laysLetters 57 = some (false, iM_laysLetters_57) ∧ x_blk bM_laysLetters 99 = some (false, iM_laysLetters_99) ∧ x_blk bM_laysLetters 100 = some (false, iM_laysLetters_100) ∧ x_blk bM_laysLetters 142 = some (false, iM_laysLetters_142) ∧ x_blk bM_laysLetters 148 = some (false, iM_laysLetters_148) := ⟨rfl, rfl, rfl, rfl, rfl, rfl, rfl, rfl, rfl⟩
theorem kM_laysLetters : x_chkB zM_laysLetters bM_laysLetters = true := by decide +kernel
theorem vM_laysLetters : zC zM_laysLetters = 0 ∧ zS zM_laysLetters = 0 ∧ x_rtc (zR zM_laysLetters) = 0 := ⟨rfl, rfl, rfl⟩
def iM_isNearer_0 : List xPI := [(.iload_n 2, [], []), (.ifCond .eq 34, [35], []), (.aload_n 0, [], []), (.aload_n 0, [], []), (.getfield 7, [8, 1, 2, 1243], []), (.sipush 324, [], []), (.iload_n 1, [], []), (.iadd, [], []), (.iaload, [], []), (.invokevirtual 79, [1, 0, 0, 8, 1504, 1506, 66, 115, 1507], [zM_placeOf]), (.aload_n 0, [], []), (.aload_n 0, [], []), (.getfield 7, [8, 1, 2, 1243], []), (.sipush 324, [], []), (.iload_n 2, [], []), (.iadd, [], []), (.iaload, [], []), (.invokevirtual 79, [1, 0, 0, 8, 1504, 1506, 66, 115, 1507], [zM_placeOf]), (.if_icmp .le 7, [39], []), (.nop, [35], [])]
def iM_isNearer_35 : List xPI := [(.iconst 1, [], []), (.goto 4, [40], [])]
def iM_isNearer_39 : List xPI := [(.iconst 0, [], []), (.nop, [40], [])]
def iM_isNearer_40 : List xPI := [(.ireturn, [], [])]
def bM_isNearer : xB := [(0, false, iM_isNearer_0), (35, false, iM_isNearer_35), (39, false, iM_isNearer_39), (40, false, iM_isNearer_40)]
theorem eM_isNearer : x_blk bM_isNearer 0 = some (false, iM_isNearer_0) ∧ x_blk bM_isNearer 35 = some (false, iM_isNearer_35) ∧ x_blk bM_isNearer 39 = some (false, iM_isNearer_39) ∧ x_blk bM_isNearer 40 = some (false, iM_isNearer_40) := ⟨rfl, rfl, rfl, rfl⟩
theorem kM_isNearer : x_chkB zM_isNearer bM_isNearer = true := by decide +kernel
theorem vM_isNearer : zC zM_isNearer = 0 ∧ zS zM_isNearer = 0 ∧ x_rtc (zR zM_isNearer) = 2 := ⟨rfl, rfl, rfl⟩
def iM_looks_0 : List xPI := [(.aload_n 0, [], []), (.invokevirtual 246, [0, 0, 0, 8, 1512, 1514, 68, 115, 1515], [zM_laysLabels]), (.aload_n 0, [], []), (.invokevirtual 249, [0, 0, 0, 8, 1527, 1529, 71, 115, 1530], [zM_laysCovers]), (.aload_n 0, [], []), (.invokevirtual 252, [0, 0, 0, 8, 1531, 1533, 72, 115, 1534], [zM_laysLetters]), (.return_, [], [])]
def bM_looks : xB := [(0, false, iM_looks_0)]
theorem eM_looks : x_blk bM_looks 0 = some (false, iM_looks_0) := rfl
theorem kM_looks : x_chkB zM_looks bM_looks = true := by decide +kernel
theorem vM_looks : zC zM_looks = 0 ∧ zS zM_looks = 0 ∧ x_rtc (zR zM_looks) = 0 := ⟨rfl, rfl, rfl⟩
def iM_isPlayed_0 : List xPI := [(.aload_n 0, [], []), (.getfield 33, [8, 21, 2, 1263], []), (.iload_n 1, [], []), (.iaload, [], []), (.ifCond .ne 7, [13], []), (.iconst 1, [], []), (.goto 4, [14], [])]
def iM_isPlayed_13 : List xPI := [(.iconst 0, [], []), (.nop, [14], [])]
def iM_isPlayed_14 : List xPI := [(.ireturn, [], [])]
def bM_isPlayed : xB := [(0, false, iM_isPlayed_0), (13, false, iM_isPlayed_13), (14, false, iM_isPlayed_14)]
theorem eM_isPlayed : x_blk bM_isPlayed 0 = some (false, iM_isPlayed_0) ∧ x_blk bM_isPlayed 13 = some (false, iM_isPlayed_13) ∧ x_blk bM_isPlayed 14 = some (false, iM_isPlayed_14) := ⟨rfl, rfl, rfl⟩
theorem kM_isPlayed : x_chkB zM_isPlayed bM_isPlayed = true := by decide +kernel
theorem vM_isPlayed : zC zM_isPlayed = 0 ∧ zS zM_isPlayed = 0 ∧ x_rtc (zR zM_isPlayed) = 2 := ⟨rfl, rfl, rfl⟩
def iM_bars_0 : List xPI := [(.aload_n 0, [], []), (.aload_n 0, [], []), (.getfield 7, [8, 1, 2, 1243], []), (.iconst 0, [], []), (.iaload, [], []), (.invokevirtual 103, [1, 0, 0, 8, 1366, 1368, 43, 115, 1369], [zM_told]), (.ireturn, [], [])]
def bM_bars : xB := [(0, false, iM_bars_0)]
theorem eM_bars : x_blk bM_bars 0 = some (false, iM_bars_0) := rfl
theorem kM_bars : x_chkB zM_bars bM_bars = true := by decide +kernel
theorem vM_bars : zC zM_bars = 0 ∧ zS zM_bars = 0 ∧ x_rtc (zR zM_bars) = 1 := ⟨rfl, rfl, rfl⟩
def iM_barAt_0 : List xPI := [(.aload_n 0, [], []), (.iload_n 1, [], []), (.iconst 0, [], []), (.aload_n 0, [], []), (.getfield 7, [8, 1, 2, 1243], []), (.iconst 0, [], []), (.iaload, [], []), (.iconst 1, [], []), (.isub, [], []), (.invokestatic 82, [3, 0, 0, 1378, 1379, 115, 1380], [zM_in]), (.ifCond .eq 7, [21], []), (.iconst 0, [], []), (.goto 4, [22], [])]
def iM_barAt_21 : List xPI := [(.iconst 1, [], []), (.nop, [22], [])]
def iM_barAt_22 : List xPI := [(.invokevirtual 228, [1, 0, 0, 8, 1381, 1383, 44, 115, 1384], [zM_isRefused]), (.ifCond .eq 5, [30], []), (.iconst 0, [], []), (.ireturn, [], [])]
def iM_barAt_30 : List xPI := [(.aload_n 0, [], []), (.iload_n 1, [], []), (.invokevirtual 75, [1, 0, 0, 8, 1492, 1494, 64, 115, 1495], [zM_idAt]), (.ireturn, [], [])]
def bM_barAt : xB := [(0, false, iM_barAt_0), (21, false, iM_barAt_21), (22, false, iM_barAt_22), (30, false, iM_barAt_30)]
theorem eM_barAt : x_blk bM_barAt 0 = some (false, iM_barAt_0) ∧ x_blk bM_barAt 21 = some (false, iM_barAt_21) ∧ x_blk bM_barAt 22 = some (false, iM_barAt_22) ∧ x_blk bM_barAt 30 = some (false, iM_barAt_30) := ⟨rfl, rfl, rfl, rfl⟩
theorem kM_barAt : x_chkB zM_barAt bM_barAt = true := by decide +kernel
theorem vM_barAt : zC zM_barAt = 0 ∧ zS zM_barAt = 0 ∧ x_rtc (zR zM_barAt) = 1 := ⟨rfl, rfl, rfl⟩
def iM_letterOn_0 : List xPI := [(.iconst 1, [], []), (.istore_n 2, [], []), (.nop, [2], [])]
def iM_letterOn_2 : List xPI := [(.iload_n 2, [], []), (.bipush 40, [], []), (.if_icmp .gt 25, [30], []), (.aload_n 0, [], []), (.getfield 7, [8, 1, 2, 1243], []), (.sipush 324, [], []), (.iload_n 2, [], []), (.iadd, [], []), (.iaload, [], []), (.iload_n 1, [], []), (.if_icmp .ne 5, [24], []), (.iload_n 2, [], []), (.ireturn, [], [])]
def iM_letterOn_24 : List xPI := [(.iinc 2 1, [], []), (.goto (-25), [2], [])]
def iM_letterOn_30 : List xPI := [(.iconst 0, [], []), (.ireturn, [], [])]
def bM_letterOn : xB := [(0, false, iM_letterOn_0), (2, true, iM_letterOn_2), (24, false, iM_letterOn_24), (30, false, iM_letterOn_30)]
theorem eM_letterOn : x_blk bM_letterOn 0 = some (false, iM_letterOn_0) ∧ x_blk bM_letterOn 2 = some (true, iM_letterOn_2) ∧ x_blk bM_letterOn 24 = some (false, iM_letterOn_24) ∧ x_blk bM_letterOn 30 = some (false, iM_letterOn_30) := ⟨rfl, rfl, rfl, rfl⟩
theorem kM_letterOn : x_chkB zM_letterOn bM_letterOn = true := by decide +kernel
theorem vM_letterOn : zC zM_letterOn = 0 ∧ zS zM_letterOn = 0 ∧ x_rtc (zR zM_letterOn) = 1 := ⟨rfl, rfl, rfl⟩
def iM_bar_0 : List xPI := [(.aload_n 0, [], []), (.aload_n 0, [], []), (.iload_n 1, [], []), (.invokevirtual 255, [1, 0, 0, 8, 1500, 1502, 65, 115, 1503], [zM_isBar]), (.ifCond .ne 7, [13], []), (.iconst 1, [], []), (.goto 18, [28], [])]
def iM_bar_13 : List xPI := [(.iload_n 2, [], []), (.iconst 0, [], []), (.bipush 8, [], []), (.invokestatic 82, [3, 0, 0, 1378, 1379, 115, 1380], [zM_in]), (.ifCond .ne 7, [27], []), (.iconst 2, [], []), (.goto 4, [28], [])]
def iM_bar_27 : List xPI := [(.iconst 0, [], []), (.nop, [28], [])]
def iM_bar_28 : List xPI := [(.invokevirtual 228, [1, 0, 0, 8, 1381, 1383, 44, 115, 1384], [zM_isRefused]), (.ifCond .eq 5, [36], []), (.iconst 0, [], []), (.ireturn, [], [])]
def iM_bar_36 : List xPI := [(.aload_n 0, [], []), (.invokevirtual 258, [0, 0, 0, 8, 1508, 1510, 67, 115, 1511], [zM_looks]), (.aload_n 0, [], []), (.iload_n 1, [], []), (.invokevirtual 79, [1, 0, 0, 8, 1504, 1506, 66, 115, 1507], [zM_placeOf]), (.istore_n 3, [], []), (.iload_n 2, [], []), (.tableswitch 94 0 8 #[49, 51, 58, 94, 94, 94, 67, 81, 88], [141, 96, 98, 105, 141, 141, 141, 114, 128, 135], [])]
def iM_bar_96 : List xPI := [(.iload_n 3, [], []), (.ireturn, [], [])]
def iM_bar_98 : List xPI := [(.aload_n 0, [], []), (.getfield 30, [8, 20, 2, 1262], []), (.iload_n 3, [], []), (.iaload, [], []), (.ireturn, [], [])]
def iM_bar_105 : List xPI := [(.aload_n 0, [], []), (.iload_n 3, [], []), (.invokevirtual 234, [1, 0, 0, 8, 1520, 1522, 70, 115, 1523], [zM_whatAt]), (.invokestatic 261, [1, 0, 0, 1539, 1540, 115, 1541], [zM_beatsIn]), (.ireturn, [], [])]
def iM_bar_114 : List xPI := [(.aload_n 0, [], []), (.iload_n 3, [], []), (.invokevirtual 264, [1, 0, 0, 8, 1542, 1544, 74, 115, 1545], [zM_isPlayed]), (.ifCond .eq 7, [126], []), (.iconst 1, [], []), (.goto 4, [127], [])]
def iM_bar_126 : List xPI := [(.iconst 0, [], []), (.nop, [127], [])]
def iM_bar_127 : List xPI := [(.ireturn, [], [])]
def iM_bar_128 : List xPI := [(.aload_n 0, [], []), (.getfield 36, [8, 22, 2, 1264], []), (.iload_n 3, [], []), (.iaload, [], []), (.ireturn, [], [])]
def iM_bar_135 : List xPI := [(.aload_n 0, [], []), (.iload_n 1, [], []), (.invokevirtual 267, [1, 0, 0, 8, 1546, 1548, 75, 115, 1549], [zM_letterOn]), (.ireturn, [], [])]
def iM_bar_141 : List xPI := [(.aload_n 0, [], []), (.iload_n 3, [], []), (.invokevirtual 234, [1, 0, 0, 8, 1520, 1522, 70, 115, 1523], [zM_whatAt]), (.iconst 4, [], []), (.iload_n 2, [], []), (.iadd, [], []), (.iconst 3, [], []), (.isub, [], []), (.ishr, [], []), (.iconst 1, [], []), (.iand, [], []), (.ireturn, [], [])]
def bM_bar : xB := [(0, false, iM_bar_0), (13, false, iM_bar_13), (27, false, iM_bar_27), (28, false, iM_bar_28), (36, false, iM_bar_36), (96, false, iM_bar_96), (98, false, iM_bar_98), (105, false, iM_bar_105), (114, false, iM_bar_114), (126, false, iM_bar_126), (127, false, iM_bar_127), (128, false, iM_bar_128), (135, false, iM_bar_135), (141, false, iM_bar_141)]
theorem eM_bar : x_blk bM_bar 0 = some (false, iM_bar_0) ∧ x_blk bM_bar 13 = some (false, iM_bar_13) ∧ x_blk bM_bar 27 = some (false, iM_bar_27) ∧ x_blk bM_bar 28 = some (false, iM_bar_28) ∧ x_blk bM_bar 36 = some (false, iM_bar_36) ∧ x_blk bM_bar 96 = some (false, iM_bar_96) ∧ x_blk bM_bar 98 = some (false, iM_bar_98) ∧ x_blk bM_bar 105 = some (false, iM_bar_105) ∧ x_blk bM_bar 114 = some (false, iM_bar_114) ∧ x_blk bM_bar 126 = some (false, iM_bar_126) ∧ x_blk bM_bar 127 = some (false, iM_bar_127) ∧ x_blk bM_bar 128 = some (false, iM_bar_128) ∧ x_blk bM_bar 135 = some (false, iM_bar_135) ∧ x_blk bM_bar 141 = some (false, iM_bar_141) := ⟨rfl, rfl, rfl, rfl, rfl, rfl, rfl, rfl, rfl, rfl, rfl, rfl, rfl, rfl⟩
theorem kM_bar : x_chkB zM_bar bM_bar = true := by decide +kernel
theorem vM_bar : zC zM_bar = 0 ∧ zS zM_bar = 0 ∧ x_rtc (zR zM_bar) = 1 := ⟨rfl, rfl, rfl⟩
def iM_labelled_0 : List xPI := [(.aload_n 0, [], []), (.invokevirtual 258, [0, 0, 0, 8, 1508, 1510, 67, 115, 1511], [zM_looks]), (.iconst 0, [], []), (.istore_n 2, [], []), (.nop, [6], [])]
def iM_labelled_6 : List xPI := [(.iload_n 2, [], []), (.aload_n 0, [], []), (.getfield 7, [8, 1, 2, 1243], []), (.iconst 0, [], []), (.iaload, [], []), (.if_icmp .ge 29, [42], []), (.aload_n 0, [], []), (.getfield 30, [8, 20, 2, 1262], []), (.iload_n 2, [], []), (.iaload, [], []), (.iload_n 1, [], []), (.if_icmp .ne 13, [36], []), (.aload_n 0, [], []), (.aload_n 0, [], []), (.iload_n 2, [], []), (.invokevirtual 75, [1, 0, 0, 8, 1492, 1494, 64, 115, 1495], [zM_idAt]), (.invokevirtual 103, [1, 0, 0, 8, 1366, 1368, 43, 115, 1369], [zM_told]), (.ireturn, [], [])]
def iM_labelled_36 : List xPI := [(.iinc 2 1, [], []), (.goto (-33), [6], [])]
def iM_labelled_42 : List xPI := [(.aload_n 0, [], []), (.iconst 1, [], []), (.invokevirtual 93, [1, 0, 0, 8, 1354, 1356, 41, 115, 1357], [zM_refuse]), (.ireturn, [], [])]
def bM_labelled : xB := [(0, false, iM_labelled_0), (6, true, iM_labelled_6), (36, false, iM_labelled_36), (42, false, iM_labelled_42)]
theorem eM_labelled : x_blk bM_labelled 0 = some (false, iM_labelled_0) ∧ x_blk bM_labelled 6 = some (true, iM_labelled_6) ∧ x_blk bM_labelled 36 = some (false, iM_labelled_36) ∧ x_blk bM_labelled 42 = some (false, iM_labelled_42) := ⟨rfl, rfl, rfl, rfl⟩
theorem kM_labelled : x_chkB zM_labelled bM_labelled = true := by decide +kernel
theorem vM_labelled : zC zM_labelled = 0 ∧ zS zM_labelled = 0 ∧ x_rtc (zR zM_labelled) = 1 := ⟨rfl, rfl, rfl⟩
def iM_played_0 : List xPI := [(.aload_n 0, [], []), (.invokevirtual 258, [0, 0, 0, 8, 1508, 1510, 67, 115, 1511], [zM_looks]), (.aload_n 0, [], []), (.aload_n 0, [], []), (.getfield 240, [8, 26, 0, 1268], []), (.invokevirtual 103, [1, 0, 0, 8, 1366, 1368, 43, 115, 1369], [zM_told]), (.ireturn, [], [])]
def bM_played : xB := [(0, false, iM_played_0)]
theorem eM_played : x_blk bM_played 0 = some (false, iM_played_0) := rfl
theorem kM_played : x_chkB zM_played bM_played = true := by decide +kernel
theorem vM_played : zC zM_played = 0 ∧ zS zM_played = 0 ∧ x_rtc (zR zM_played) = 1 := ⟨rfl, rfl, rfl⟩
def iM_beats_0 : List xPI := [(.aload_n 0, [], []), (.invokevirtual 258, [0, 0, 0, 8, 1508, 1510, 67, 115, 1511], [zM_looks]), (.aload_n 0, [], []), (.iconst 0, [], []), (.putfield 66, [8, 0, 0, 1242], []), (.iconst 0, [], []), (.istore_n 1, [], []), (.iconst 0, [], []), (.istore_n 2, [], []), (.nop, [13], [])]
def iM_beats_13 : List xPI := [(.iload_n 2, [], []), (.aload_n 0, [], []), (.getfield 240, [8, 26, 0, 1268], []), (.if_icmp .ge 25, [43], []), (.iload_n 1, [], []), (.aload_n 0, [], []), (.aload_n 0, [], []), (.getfield 42, [8, 24, 2, 1266], []), (.iload_n 2, [], []), (.iaload, [], []), (.invokevirtual 234, [1, 0, 0, 8, 1520, 1522, 70, 115, 1523], [zM_whatAt]), (.invokestatic 261, [1, 0, 0, 1539, 1540, 115, 1541], [zM_beatsIn]), (.iadd, [], []), (.istore_n 1, [], []), (.iinc 2 1, [], []), (.goto (-27), [13], [])]
def iM_beats_43 : List xPI := [(.iload_n 1, [], []), (.ireturn, [], [])]
def bM_beats : xB := [(0, false, iM_beats_0), (13, true, iM_beats_13), (43, false, iM_beats_43)]
theorem eM_beats : x_blk bM_beats 0 = some (false, iM_beats_0) ∧ x_blk bM_beats 13 = some (true, iM_beats_13) ∧ x_blk bM_beats 43 = some (false, iM_beats_43) := ⟨rfl, rfl, rfl⟩
theorem kM_beats : x_chkB zM_beats bM_beats = true := by decide +kernel
theorem vM_beats : zC zM_beats = 0 ∧ zS zM_beats = 0 ∧ x_rtc (zR zM_beats) = 1 := ⟨rfl, rfl, rfl⟩
def iM_cuts_0 : List xPI := [(.aload_n 0, [], []), (.aload_n 0, [], []), (.getfield 7, [8, 1, 2, 1243], []), (.iconst 1, [], []), (.iaload, [], []), (.invokevirtual 103, [1, 0, 0, 8, 1366, 1368, 43, 115, 1369], [zM_told]), (.ireturn, [], [])]
def bM_cuts : xB := [(0, false, iM_cuts_0)]
theorem eM_cuts : x_blk bM_cuts 0 = some (false, iM_cuts_0) := rfl
theorem kM_cuts : x_chkB zM_cuts bM_cuts = true := by decide +kernel
theorem vM_cuts : zC zM_cuts = 0 ∧ zS zM_cuts = 0 ∧ x_rtc (zR zM_cuts) = 1 := ⟨rfl, rfl, rfl⟩
def iM_cut_0 : List xPI := [(.aload_n 0, [], []), (.aload_n 0, [], []), (.iload_n 1, [], []), (.invokevirtual 270, [1, 0, 0, 8, 1570, 1572, 76, 115, 1573], [zM_isCut]), (.ifCond .eq 7, [13], []), (.iconst 0, [], []), (.goto 4, [14], [])]
def iM_cut_13 : List xPI := [(.iconst 1, [], []), (.nop, [14], [])]
def iM_cut_14 : List xPI := [(.invokevirtual 228, [1, 0, 0, 8, 1381, 1383, 44, 115, 1384], [zM_isRefused]), (.ifCond .eq 5, [22], []), (.iconst 0, [], []), (.ireturn, [], [])]
def iM_cut_22 : List xPI := [(.aload_n 0, [], []), (.getfield 7, [8, 1, 2, 1243], []), (.iload_n 2, [], []), (.ifCond .eq 11, [38], []), (.sipush 314, [], []), (.iload_n 1, [], []), (.iadd, [], []), (.goto 8, [43], [])]
def iM_cut_38 : List xPI := [(.sipush 304, [], []), (.iload_n 1, [], []), (.iadd, [], []), (.nop, [43], [])]
def iM_cut_43 : List xPI := [(.iaload, [], []), (.ireturn, [], [])]
def bM_cut : xB := [(0, false, iM_cut_0), (13, false, iM_cut_13), (14, false, iM_cut_14), (22, false, iM_cut_22), (38, false, iM_cut_38), (43, false, iM_cut_43)]
theorem eM_cut : x_blk bM_cut 0 = some (false, iM_cut_0) ∧ x_blk bM_cut 13 = some (false, iM_cut_13) ∧ x_blk bM_cut 14 = some (false, iM_cut_14) ∧ x_blk bM_cut 22 = some (false, iM_cut_22) ∧ x_blk bM_cut 38 = some (false, iM_cut_38) ∧ x_blk bM_cut 43 = some (false, iM_cut_43) := ⟨rfl, rfl, rfl, rfl, rfl, rfl⟩
theorem kM_cut : x_chkB zM_cut bM_cut = true := by decide +kernel
theorem vM_cut : zC zM_cut = 0 ∧ zS zM_cut = 0 ∧ x_rtc (zR zM_cut) = 1 := ⟨rfl, rfl, rfl⟩
def iM_hiddenBy_0 : List xPI := [(.aload_n 0, [], []), (.aload_n 0, [], []), (.iload_n 1, [], []), (.invokevirtual 270, [1, 0, 0, 8, 1570, 1572, 76, 115, 1573], [zM_isCut]), (.ifCond .eq 7, [13], []), (.iconst 0, [], []), (.goto 4, [14], [])]
def iM_hiddenBy_13 : List xPI := [(.iconst 1, [], []), (.nop, [14], [])]
def iM_hiddenBy_14 : List xPI := [(.invokevirtual 228, [1, 0, 0, 8, 1381, 1383, 44, 115, 1384], [zM_isRefused]), (.ifCond .eq 5, [22], []), (.iconst 0, [], []), (.ireturn, [], [])]
def iM_hiddenBy_22 : List xPI := [(.aload_n 0, [], []), (.invokevirtual 258, [0, 0, 0, 8, 1508, 1510, 67, 115, 1511], [zM_looks]), (.iconst 0, [], []), (.istore_n 2, [], []), (.aload_n 0, [], []), (.aload_n 0, [], []), (.getfield 7, [8, 1, 2, 1243], []), (.sipush 314, [], []), (.iload_n 1, [], []), (.iadd, [], []), (.iaload, [], []), (.invokevirtual 79, [1, 0, 0, 8, 1504, 1506, 66, 115, 1507], [zM_placeOf]), (.istore_n 3, [], []), (.aload_n 0, [], []), (.aload_n 0, [], []), (.getfield 7, [8, 1, 2, 1243], []), (.sipush 304, [], []), (.iload_n 1, [], []), (.iadd, [], []), (.iaload, [], []), (.invokevirtual 79, [1, 0, 0, 8, 1504, 1506, 66, 115, 1507], [zM_placeOf]), (.istore 4, [], []), (.nop, [59], [])]
def iM_hiddenBy_59 : List xPI := [(.iload 4, [], []), (.iload_n 3, [], []), (.if_icmp .gt 24, [86], []), (.aload_n 0, [], []), (.getfield 33, [8, 21, 2, 1263], []), (.iload 4, [], []), (.iaload, [], []), (.iconst 1, [], []), (.if_icmp .ne 7, [80], []), (.iload_n 2, [], []), (.iconst 1, [], []), (.iadd, [], []), (.istore_n 2, [], []), (.nop, [80], [])]
def iM_hiddenBy_80 : List xPI := [(.iinc 4 1, [], []), (.goto (-24), [59], [])]
def iM_hiddenBy_86 : List xPI := [(.iload_n 2, [], []), (.ireturn, [], [])]
def bM_hiddenBy : xB := [(0, false, iM_hiddenBy_0), (13, false, iM_hiddenBy_13), (14, false, iM_hiddenBy_14), (22, false, iM_hiddenBy_22), (59, true, iM_hiddenBy_59), (80, false, iM_hiddenBy_80), (86, false, iM_hiddenBy_86)]
theorem eM_hiddenBy : x_blk bM_hiddenBy 0 = some (false, iM_hiddenBy_0) ∧ x_blk bM_hiddenBy 13 = some (false, iM_hiddenBy_13) ∧ x_blk bM_hiddenBy 14 = some (false, iM_hiddenBy_14) ∧ x_blk bM_hiddenBy 22 = some (false, iM_hiddenBy_22) ∧ x_blk bM_hiddenBy 59 = some (true, iM_hiddenBy_59) ∧ x_blk bM_hiddenBy 80 = some (false, iM_hiddenBy_80) ∧ x_blk bM_hiddenBy 86 = some (false, iM_hiddenBy_86) := ⟨rfl, rfl, rfl, rfl, rfl, rfl, rfl⟩
theorem kM_hiddenBy : x_chkB zM_hiddenBy bM_hiddenBy = true := by decide +kernel
theorem vM_hiddenBy : zC zM_hiddenBy = 0 ∧ zS zM_hiddenBy = 0 ∧ x_rtc (zR zM_hiddenBy) = 1 := ⟨rfl, rfl, rfl⟩
def iM_marksNow_0 : List xPI := [(.iconst 0, [], []), (.istore_n 1, [], []), (.iconst 1, [], []), (.istore_n 2, [], []), (.nop, [4], [])]
def iM_marksNow_4 : List xPI := [(.iload_n 2, [], []), (.bipush 40, [], []), (.if_icmp .gt 27, [34], []), (.aload_n 0, [], []), (.getfield 7, [8, 1, 2, 1243], []), (.sipush 324, [], []), (.iload_n 2, [], []), (.iadd, [], []), (.iaload, [], []), (.iconst (-1), [], []), (.if_icmp .eq 7, [28], []), (.iload_n 1, [], []), (.iconst 1, [], []), (.iadd, [], []), (.istore_n 1, [], []), (.nop, [28], [])]
def iM_marksNow_28 : List xPI := [(.iinc 2 1, [], []), (.goto (-27), [4], [])]
def iM_marksNow_34 : List xPI := [(.iload_n 1, [], []), (.ireturn, [], [])]
def bM_marksNow : xB := [(0, false, iM_marksNow_0), (4, true, iM_marksNow_4), (28, false, iM_marksNow_28), (34, false, iM_marksNow_34)]
theorem eM_marksNow : x_blk bM_marksNow 0 = some (false, iM_marksNow_0) ∧ x_blk bM_marksNow 4 = some (true, iM_marksNow_4) ∧ x_blk bM_marksNow 28 = some (false, iM_marksNow_28) ∧ x_blk bM_marksNow 34 = some (false, iM_marksNow_34) := ⟨rfl, rfl, rfl, rfl⟩
theorem kM_marksNow : x_chkB zM_marksNow bM_marksNow = true := by decide +kernel
theorem vM_marksNow : zC zM_marksNow = 0 ∧ zS zM_marksNow = 0 ∧ x_rtc (zR zM_marksNow) = 1 := ⟨rfl, rfl, rfl⟩
def iM_marks_0 : List xPI := [(.aload_n 0, [], []), (.aload_n 0, [], []), (.invokevirtual 273, [0, 0, 0, 8, 1582, 1584, 77, 115, 1585], [zM_marksNow]), (.invokevirtual 103, [1, 0, 0, 8, 1366, 1368, 43, 115, 1369], [zM_told]), (.ireturn, [], [])]
def bM_marks : xB := [(0, false, iM_marks_0)]
theorem eM_marks : x_blk bM_marks 0 = some (false, iM_marks_0) := rfl
theorem kM_marks : x_chkB zM_marks bM_marks = true := by decide +kernel
theorem vM_marks : zC zM_marks = 0 ∧ zS zM_marks = 0 ∧ x_rtc (zR zM_marks) = 1 := ⟨rfl, rfl, rfl⟩
def iM_counts_0 : List xPI := [(.aload_n 0, [], []), (.getfield 39, [8, 23, 2, 1265], []), (.iload_n 1, [], []), (.iaload, [], []), (.iconst (-1), [], []), (.if_icmp .eq 22, [29], []), (.aload_n 0, [], []), (.getfield 36, [8, 22, 2, 1264], []), (.aload_n 0, [], []), (.getfield 39, [8, 23, 2, 1265], []), (.iload_n 1, [], []), (.iaload, [], []), (.iaload, [], []), (.iload_n 1, [], []), (.if_icmp .ne 7, [29], []), (.iconst 1, [], []), (.goto 4, [30], [])]
def iM_counts_29 : List xPI := [(.iconst 0, [], []), (.nop, [30], [])]
def iM_counts_30 : List xPI := [(.ireturn, [], [])]
def bM_counts : xB := [(0, false, iM_counts_0), (29, false, iM_counts_29), (30, false, iM_counts_30)]
theorem eM_counts : x_blk bM_counts 0 = some (false, iM_counts_0) ∧ x_blk bM_counts 29 = some (false, iM_counts_29) ∧ x_blk bM_counts 30 = some (false, iM_counts_30) := ⟨rfl, rfl, rfl⟩
theorem kM_counts : x_chkB zM_counts bM_counts = true := by decide +kernel
theorem vM_counts : zC zM_counts = 0 ∧ zS zM_counts = 0 ∧ x_rtc (zR zM_counts) = 2 := ⟨rfl, rfl, rfl⟩
def iM_mark_0 : List xPI := [(.aload_n 0, [], []), (.aload_n 0, [], []), (.iload_n 1, [], []), (.invokevirtual 276, [1, 0, 0, 8, 1590, 1592, 78, 115, 1593], [zM_isMark]), (.ifCond .ne 7, [13], []), (.iconst 1, [], []), (.goto 17, [27], [])]
def iM_mark_13 : List xPI := [(.iload_n 2, [], []), (.iconst 0, [], []), (.iconst 2, [], []), (.invokestatic 82, [3, 0, 0, 1378, 1379, 115, 1380], [zM_in]), (.ifCond .ne 7, [26], []), (.iconst 2, [], []), (.goto 4, [27], [])]
def iM_mark_26 : List xPI := [(.iconst 0, [], []), (.nop, [27], [])]
def iM_mark_27 : List xPI := [(.invokevirtual 228, [1, 0, 0, 8, 1381, 1383, 44, 115, 1384], [zM_isRefused]), (.ifCond .eq 5, [35], []), (.iconst 0, [], []), (.ireturn, [], [])]
def iM_mark_35 : List xPI := [(.aload_n 0, [], []), (.invokevirtual 258, [0, 0, 0, 8, 1508, 1510, 67, 115, 1511], [zM_looks]), (.iload_n 2, [], []), (.ifCond .ne 14, [54], []), (.aload_n 0, [], []), (.getfield 7, [8, 1, 2, 1243], []), (.sipush 324, [], []), (.iload_n 1, [], []), (.iadd, [], []), (.iaload, [], []), (.ireturn, [], [])]
def iM_mark_54 : List xPI := [(.iload_n 2, [], []), (.iconst 2, [], []), (.if_icmp .ne 17, [73], []), (.aload_n 0, [], []), (.iload_n 1, [], []), (.invokevirtual 279, [1, 0, 0, 8, 1594, 1596, 79, 115, 1597], [zM_counts]), (.ifCond .eq 7, [71], []), (.iconst 1, [], []), (.goto 4, [72], [])]
def iM_mark_71 : List xPI := [(.iconst 0, [], []), (.nop, [72], [])]
def iM_mark_72 : List xPI := [(.ireturn, [], [])]
def iM_mark_73 : List xPI := [(.aload_n 0, [], []), (.getfield 39, [8, 23, 2, 1265], []), (.iload_n 1, [], []), (.iaload, [], []), (.iconst (-1), [], []), (.if_icmp .ne 7, [87], []), (.iconst (-1), [], []), (.goto 13, [97], [])]
def iM_mark_87 : List xPI := [(.aload_n 0, [], []), (.aload_n 0, [], []), (.getfield 39, [8, 23, 2, 1265], []), (.iload_n 1, [], []), (.iaload, [], []), (.invokevirtual 75, [1, 0, 0, 8, 1492, 1494, 64, 115, 1495], [zM_idAt]), (.nop, [97], [])]
def iM_mark_97 : List xPI := [(.ireturn, [], [])]
def bM_mark : xB := [(0, false, iM_mark_0), (13, false, iM_mark_13), (26, false, iM_mark_26), (27, false, iM_mark_27), (35, false, iM_mark_35), (54, false, iM_mark_54), (71, false, iM_mark_71), (72, false, iM_mark_72), (73, false, iM_mark_73), (87, false, iM_mark_87), (97, false, iM_mark_97)]
theorem eM_mark : x_blk bM_mark 0 = some (false, iM_mark_0) ∧ x_blk bM_mark 13 = some (false, iM_mark_13) ∧ x_blk bM_mark 26 = some (false, iM_mark_26) ∧ x_blk bM_mark 27 = some (false, iM_mark_27) ∧ x_blk bM_mark 35 = some (false, iM_mark_35) ∧ x_blk bM_mark 54 = some (false, iM_mark_54) ∧ x_blk bM_mark 71 = some (false, iM_mark_71) ∧ x_blk bM_mark 72 = some (false, iM_mark_72) ∧ x_blk bM_mark 73 = some (false, iM_mark_73) ∧ x_blk bM_mark 87 = some (false, iM_mark_87) ∧ x_blk bM_mark 97 = some (false, iM_mark_97) := ⟨rfl, rfl, rfl, rfl, rfl, rfl, rfl, rfl, rfl, rfl, rfl⟩
theorem kM_mark : x_chkB zM_mark bM_mark = true := by decide +kernel
theorem vM_mark : zC zM_mark = 0 ∧ zS zM_mark = 0 ∧ x_rtc (zR zM_mark) = 1 := ⟨rfl, rfl, rfl⟩
def iM_from_0 : List xPI := [(.aload_n 0, [], []), (.invokevirtual 258, [0, 0, 0, 8, 1508, 1510, 67, 115, 1511], [zM_looks]), (.aload_n 0, [], []), (.iload_n 1, [], []), (.invokevirtual 276, [1, 0, 0, 8, 1590, 1592, 78, 115, 1593], [zM_isMark]), (.ifCond .eq 11, [20], []), (.aload_n 0, [], []), (.iload_n 1, [], []), (.invokevirtual 279, [1, 0, 0, 8, 1594, 1596, 79, 115, 1597], [zM_counts]), (.ifCond .ne 9, [26], []), (.nop, [20], [])]
def iM_from_20 : List xPI := [(.aload_n 0, [], []), (.iconst 1, [], []), (.invokevirtual 93, [1, 0, 0, 8, 1354, 1356, 41, 115, 1357], [zM_refuse]), (.ireturn, [], [])]
def iM_from_26 : List xPI := [(.aload_n 0, [], []), (.getfield 45, [8, 25, 2, 1267], []), (.aload_n 0, [], []), (.getfield 39, [8, 23, 2, 1265], []), (.iload_n 1, [], []), (.iaload, [], []), (.iaload, [], []), (.i2l, [], []), (.iload_n 2, [], []), (.i2l, [], []), (.ladd, [], []), (.lstore_n 3, [], []), (.lload_n 3, [], []), (.lconst 0, [], []), (.lcmp, [], []), (.ifCond .lt 13, [58], []), (.lload_n 3, [], []), (.aload_n 0, [], []), (.getfield 240, [8, 26, 0, 1268], []), (.i2l, [], []), (.lcmp, [], []), (.ifCond .lt 9, [64], []), (.nop, [58], [])]
def iM_from_58 : List xPI := [(.aload_n 0, [], []), (.iconst 1, [], []), (.invokevirtual 93, [1, 0, 0, 8, 1354, 1356, 41, 115, 1357], [zM_refuse]), (.ireturn, [], [])]
def iM_from_64 : List xPI := [(.aload_n 0, [], []), (.aload_n 0, [], []), (.aload_n 0, [], []), (.getfield 42, [8, 24, 2, 1266], []), (.lload_n 3, [], []), (.l2i, [], []), (.iaload, [], []), (.invokevirtual 75, [1, 0, 0, 8, 1492, 1494, 64, 115, 1495], [zM_idAt]), (.invokevirtual 103, [1, 0, 0, 8, 1366, 1368, 43, 115, 1369], [zM_told]), (.ireturn, [], [])]
def bM_from : xB := [(0, false, iM_from_0), (20, false, iM_from_20), (26, false, iM_from_26), (58, false, iM_from_58), (64, false, iM_from_64)]
theorem eM_from : x_blk bM_from 0 = some (false, iM_from_0) ∧ x_blk bM_from 20 = some (false, iM_from_20) ∧ x_blk bM_from 26 = some (false, iM_from_26) ∧ x_blk bM_from 58 = some (false, iM_from_58) ∧ x_blk bM_from 64 = some (false, iM_from_64) := ⟨rfl, rfl, rfl, rfl, rfl⟩
theorem kM_from : x_chkB zM_from bM_from = true := by decide +kernel
theorem vM_from : zC zM_from = 0 ∧ zS zM_from = 0 ∧ x_rtc (zR zM_from) = 1 := ⟨rfl, rfl, rfl⟩
def iM_wrongPlayed_0 : List xPI := [(.aload_n 0, [], []), (.invokevirtual 258, [0, 0, 0, 8, 1508, 1510, 67, 115, 1511], [zM_looks]), (.iload_n 1, [], []), (.ifCond .eq 11, [16], []), (.aload_n 0, [], []), (.iload_n 2, [], []), (.invokevirtual 255, [1, 0, 0, 8, 1500, 1502, 65, 115, 1503], [zM_isBar]), (.ifCond .ne 5, [18], []), (.nop, [16], [])]
def iM_wrongPlayed_16 : List xPI := [(.iconst 1, [], []), (.ireturn, [], [])]
def iM_wrongPlayed_18 : List xPI := [(.aload_n 0, [], []), (.aload_n 0, [], []), (.iload_n 2, [], []), (.invokevirtual 79, [1, 0, 0, 8, 1504, 1506, 66, 115, 1507], [zM_placeOf]), (.invokevirtual 264, [1, 0, 0, 8, 1542, 1544, 74, 115, 1545], [zM_isPlayed]), (.ifCond .eq 7, [34], []), (.iconst 0, [], []), (.goto 4, [35], [])]
def iM_wrongPlayed_34 : List xPI := [(.iconst 2, [], []), (.nop, [35], [])]
def iM_wrongPlayed_35 : List xPI := [(.ireturn, [], [])]
def bM_wrongPlayed : xB := [(0, false, iM_wrongPlayed_0), (16, false, iM_wrongPlayed_16), (18, false, iM_wrongPlayed_18), (34, false, iM_wrongPlayed_34), (35, false, iM_wrongPlayed_35)]
theorem eM_wrongPlayed : x_blk bM_wrongPlayed 0 = some (false, iM_wrongPlayed_0) ∧ x_blk bM_wrongPlayed 16 = some (false, iM_wrongPlayed_16) ∧ x_blk bM_wrongPlayed 18 = some (false, iM_wrongPlayed_18) ∧ x_blk bM_wrongPlayed 34 = some (false, iM_wrongPlayed_34) ∧ x_blk bM_wrongPlayed 35 = some (false, iM_wrongPlayed_35) := ⟨rfl, rfl, rfl, rfl, rfl⟩
theorem kM_wrongPlayed : x_chkB zM_wrongPlayed bM_wrongPlayed = true := by decide +kernel
theorem vM_wrongPlayed : zC zM_wrongPlayed = 0 ∧ zS zM_wrongPlayed = 0 ∧ x_rtc (zR zM_wrongPlayed) = 1 := ⟨rfl, rfl, rfl⟩
def iM_called_0 : List xPI := [(.aload_n 0, [], []), (.aload_n 0, [], []), (.iconst 1, [], []), (.iload_n 1, [], []), (.invokevirtual 282, [2, 0, 0, 8, 1606, 1608, 80, 115, 1609], [zM_wrongPlayed]), (.invokevirtual 228, [1, 0, 0, 8, 1381, 1383, 44, 115, 1384], [zM_isRefused]), (.ifCond .eq 5, [15], []), (.iconst 0, [], []), (.ireturn, [], [])]
def iM_called_15 : List xPI := [(.aload_n 0, [], []), (.getfield 45, [8, 25, 2, 1267], []), (.aload_n 0, [], []), (.iload_n 1, [], []), (.invokevirtual 79, [1, 0, 0, 8, 1504, 1506, 66, 115, 1507], [zM_placeOf]), (.iaload, [], []), (.istore_n 2, [], []), (.iload_n 2, [], []), (.istore_n 3, [], []), (.nop, [28], [])]
def iM_called_28 : List xPI := [(.iload_n 3, [], []), (.ifCond .lt 38, [67], []), (.aload_n 0, [], []), (.getfield 36, [8, 22, 2, 1264], []), (.aload_n 0, [], []), (.getfield 42, [8, 24, 2, 1266], []), (.iload_n 3, [], []), (.iaload, [], []), (.iaload, [], []), (.istore 4, [], []), (.iload 4, [], []), (.ifCond .le 14, [61], []), (.sipush 1000, [], []), (.iload 4, [], []), (.imul, [], []), (.iload_n 2, [], []), (.iadd, [], []), (.iload_n 3, [], []), (.isub, [], []), (.ireturn, [], [])]
def iM_called_61 : List xPI := [(.iinc 3 (-1), [], []), (.goto (-36), [28], [])]
def iM_called_67 : List xPI := [(.iload_n 2, [], []), (.ireturn, [], [])]
def bM_called : xB := [(0, false, iM_called_0), (15, false, iM_called_15), (28, true, iM_called_28), (61, false, iM_called_61), (67, false, iM_called_67)]
theorem eM_called : x_blk bM_called 0 = some (false, iM_called_0) ∧ x_blk bM_called 15 = some (false, iM_called_15) ∧ x_blk bM_called 28 = some (true, iM_called_28) ∧ x_blk bM_called 61 = some (false, iM_called_61) ∧ x_blk bM_called 67 = some (false, iM_called_67) := ⟨rfl, rfl, rfl, rfl, rfl⟩
theorem kM_called : x_chkB zM_called bM_called = true := by decide +kernel
theorem vM_called : zC zM_called = 0 ∧ zS zM_called = 0 ∧ x_rtc (zR zM_called) = 1 := ⟨rfl, rfl, rfl⟩
def iM_parts_0 : List xPI := [(.aload_n 0, [], []), (.aload_n 0, [], []), (.getfield 7, [8, 1, 2, 1243], []), (.iconst 2, [], []), (.iaload, [], []), (.invokevirtual 103, [1, 0, 0, 8, 1366, 1368, 43, 115, 1369], [zM_told]), (.ireturn, [], [])]
def bM_parts : xB := [(0, false, iM_parts_0)]
theorem eM_parts : x_blk bM_parts 0 = some (false, iM_parts_0) := rfl
theorem kM_parts : x_chkB zM_parts bM_parts = true := by decide +kernel
theorem vM_parts : zC zM_parts = 0 ∧ zS zM_parts = 0 ∧ x_rtc (zR zM_parts) = 1 := ⟨rfl, rfl, rfl⟩
def iM_contentAt_0 : List xPI := [(.aload_n 0, [], []), (.iload_n 2, [], []), (.invokevirtual 234, [1, 0, 0, 8, 1520, 1522, 70, 115, 1523], [zM_whatAt]), (.iload_n 1, [], []), (.invokestatic 286, [2, 0, 0, 1626, 1627, 115, 1628], [zM_contentIn]), (.ireturn, [], [])]
def bM_contentAt : xB := [(0, false, iM_contentAt_0)]
theorem eM_contentAt : x_blk bM_contentAt 0 = some (false, iM_contentAt_0) := rfl
theorem kM_contentAt : x_chkB zM_contentAt bM_contentAt = true := by decide +kernel
theorem vM_contentAt : zC zM_contentAt = 0 ∧ zS zM_contentAt = 0 ∧ x_rtc (zR zM_contentAt) = 1 := ⟨rfl, rfl, rfl⟩
def iM_content_0 : List xPI := [(.aload_n 0, [], []), (.aload_n 0, [], []), (.iload_n 1, [], []), (.invokevirtual 290, [1, 0, 0, 8, 1618, 1620, 81, 115, 1621], [zM_isPart]), (.ifCond .eq 15, [21], []), (.aload_n 0, [], []), (.iload_n 2, [], []), (.invokevirtual 255, [1, 0, 0, 8, 1500, 1502, 65, 115, 1503], [zM_isBar]), (.ifCond .eq 7, [21], []), (.iconst 0, [], []), (.goto 4, [22], [])]
def iM_content_21 : List xPI := [(.iconst 1, [], []), (.nop, [22], [])]
def iM_content_22 : List xPI := [(.invokevirtual 228, [1, 0, 0, 8, 1381, 1383, 44, 115, 1384], [zM_isRefused]), (.ifCond .eq 5, [30], []), (.iconst 0, [], []), (.ireturn, [], [])]
def iM_content_30 : List xPI := [(.aload_n 0, [], []), (.iload_n 1, [], []), (.aload_n 0, [], []), (.iload_n 2, [], []), (.invokevirtual 79, [1, 0, 0, 8, 1504, 1506, 66, 115, 1507], [zM_placeOf]), (.invokevirtual 293, [2, 0, 0, 8, 1622, 1624, 82, 115, 1625], [zM_contentAt]), (.ireturn, [], [])]
def bM_content : xB := [(0, false, iM_content_0), (21, false, iM_content_21), (22, false, iM_content_22), (30, false, iM_content_30)]
theorem eM_content : x_blk bM_content 0 = some (false, iM_content_0) ∧ x_blk bM_content 21 = some (false, iM_content_21) ∧ x_blk bM_content 22 = some (false, iM_content_22) ∧ x_blk bM_content 30 = some (false, iM_content_30) := ⟨rfl, rfl, rfl, rfl⟩
theorem kM_content : x_chkB zM_content bM_content = true := by decide +kernel
theorem vM_content : zC zM_content = 0 ∧ zS zM_content = 0 ∧ x_rtc (zR zM_content) = 1 := ⟨rfl, rfl, rfl⟩
def iM_reasonOf_0 : List xPI := [(.iload_n 1, [], []), (.ifCond .ne 5, [6], []), (.iconst 0, [], []), (.ireturn, [], [])]
def iM_reasonOf_6 : List xPI := [(.aload_n 0, [], []), (.getfield 42, [8, 24, 2, 1266], []), (.iload_n 1, [], []), (.iconst 1, [], []), (.isub, [], []), (.iaload, [], []), (.istore_n 2, [], []), (.aload_n 0, [], []), (.getfield 42, [8, 24, 2, 1266], []), (.iload_n 1, [], []), (.iaload, [], []), (.istore_n 3, [], []), (.aload_n 0, [], []), (.getfield 36, [8, 22, 2, 1264], []), (.iload_n 3, [], []), (.iaload, [], []), (.ifCond .le 5, [33], []), (.iconst 1, [], []), (.ireturn, [], [])]
def iM_reasonOf_33 : List xPI := [(.aload_n 0, [], []), (.iload_n 2, [], []), (.invokevirtual 234, [1, 0, 0, 8, 1520, 1522, 70, 115, 1523], [zM_whatAt]), (.invokestatic 261, [1, 0, 0, 1539, 1540, 115, 1541], [zM_beatsIn]), (.aload_n 0, [], []), (.iload_n 3, [], []), (.invokevirtual 234, [1, 0, 0, 8, 1520, 1522, 70, 115, 1523], [zM_whatAt]), (.invokestatic 261, [1, 0, 0, 1539, 1540, 115, 1541], [zM_beatsIn]), (.if_icmp .eq 5, [54], []), (.iconst 2, [], []), (.ireturn, [], [])]
def iM_reasonOf_54 : List xPI := [(.aload_n 0, [], []), (.iload_n 3, [], []), (.invokevirtual 234, [1, 0, 0, 8, 1520, 1522, 70, 115, 1523], [zM_whatAt]), (.iconst 5, [], []), (.invokestatic 86, [2, 0, 0, 1524, 1525, 115, 1526], [zM_has]), (.ifCond .eq 5, [68], []), (.iconst 3, [], []), (.ireturn, [], [])]
def iM_reasonOf_68 : List xPI := [(.aload_n 0, [], []), (.iload_n 2, [], []), (.invokevirtual 234, [1, 0, 0, 8, 1520, 1522, 70, 115, 1523], [zM_whatAt]), (.bipush 6, [], []), (.invokestatic 86, [2, 0, 0, 1524, 1525, 115, 1526], [zM_has]), (.ifCond .eq 5, [83], []), (.iconst 4, [], []), (.ireturn, [], [])]
def iM_reasonOf_83 : List xPI := [(.iload_n 3, [], []), (.iload_n 2, [], []), (.isub, [], []), (.iconst 1, [], []), (.if_icmp .le 7, [94], []), (.iconst 5, [], []), (.goto 4, [95], [])]
def iM_reasonOf_94 : List xPI := [(.iconst 0, [], []), (.nop, [95], [])]
def iM_reasonOf_95 : List xPI := [(.ireturn, [], [])]
def bM_reasonOf : xB := [(0, false, iM_reasonOf_0), (6, false, iM_reasonOf_6), (33, false, iM_reasonOf_33), (54, false, iM_reasonOf_54), (68, false, iM_reasonOf_68), (83, false, iM_reasonOf_83), (94, false, iM_reasonOf_94), (95, false, iM_reasonOf_95)]
theorem eM_reasonOf : x_blk bM_reasonOf 0 = some (false, iM_reasonOf_0) ∧ x_blk bM_reasonOf 6 = some (false, iM_reasonOf_6) ∧ x_blk bM_reasonOf 33 = some (false, iM_reasonOf_33) ∧ x_blk bM_reasonOf 54 = some (false, iM_reasonOf_54) ∧ x_blk bM_reasonOf 68 = some (false, iM_reasonOf_68) ∧ x_blk bM_reasonOf 83 = some (false, iM_reasonOf_83) ∧ x_blk bM_reasonOf 94 = some (false, iM_reasonOf_94) ∧ x_blk bM_reasonOf 95 = some (false, iM_reasonOf_95) := ⟨rfl, rfl, rfl, rfl, rfl, rfl, rfl, rfl⟩
theorem kM_reasonOf : x_chkB zM_reasonOf bM_reasonOf = true := by decide +kernel
theorem vM_reasonOf : zC zM_reasonOf = 0 ∧ zS zM_reasonOf = 0 ∧ x_rtc (zR zM_reasonOf) = 1 := ⟨rfl, rfl, rfl⟩
def iM_reason_0 : List xPI := [(.aload_n 0, [], []), (.aload_n 0, [], []), (.iconst 1, [], []), (.iload_n 1, [], []), (.invokevirtual 282, [2, 0, 0, 8, 1606, 1608, 80, 115, 1609], [zM_wrongPlayed]), (.invokevirtual 228, [1, 0, 0, 8, 1381, 1383, 44, 115, 1384], [zM_isRefused]), (.ifCond .eq 5, [15], []), (.iconst 0, [], []), (.ireturn, [], [])]
def iM_reason_15 : List xPI := [(.aload_n 0, [], []), (.aload_n 0, [], []), (.getfield 45, [8, 25, 2, 1267], []), (.aload_n 0, [], []), (.iload_n 1, [], []), (.invokevirtual 79, [1, 0, 0, 8, 1504, 1506, 66, 115, 1507], [zM_placeOf]), (.iaload, [], []), (.invokevirtual 296, [1, 0, 0, 8, 1633, 1635, 83, 115, 1636], [zM_reasonOf]), (.ireturn, [], [])]
def bM_reason : xB := [(0, false, iM_reason_0), (15, false, iM_reason_15)]
theorem eM_reason : x_blk bM_reason 0 = some (false, iM_reason_0) ∧ x_blk bM_reason 15 = some (false, iM_reason_15) := ⟨rfl, rfl⟩
theorem kM_reason : x_chkB zM_reason bM_reason = true := by decide +kernel
theorem vM_reason : zC zM_reason = 0 ∧ zS zM_reason = 0 ∧ x_rtc (zR zM_reason) = 1 := ⟨rfl, rfl, rfl⟩
def iM_goesOn_0 : List xPI := [(.iload_n 2, [], []), (.ifCond .le 37, [38], []), (.aload_n 0, [], []), (.iload_n 1, [], []), (.aload_n 0, [], []), (.getfield 42, [8, 24, 2, 1266], []), (.iload_n 2, [], []), (.iaload, [], []), (.invokevirtual 293, [2, 0, 0, 8, 1622, 1624, 82, 115, 1625], [zM_contentAt]), (.ifCond .ne 23, [38], []), (.aload_n 0, [], []), (.iload_n 1, [], []), (.aload_n 0, [], []), (.getfield 42, [8, 24, 2, 1266], []), (.iload_n 2, [], []), (.iconst 1, [], []), (.isub, [], []), (.iaload, [], []), (.invokevirtual 293, [2, 0, 0, 8, 1622, 1624, 82, 115, 1625], [zM_contentAt]), (.ifCond .ne 7, [38], []), (.iconst 1, [], []), (.goto 4, [39], [])]
def iM_goesOn_38 : List xPI := [(.iconst 0, [], []), (.nop, [39], [])]
def iM_goesOn_39 : List xPI := [(.istore_n 3, [], []), (.iload_n 3, [], []), (.ifCond .eq 15, [56], []), (.aload_n 0, [], []), (.iload_n 2, [], []), (.invokevirtual 296, [1, 0, 0, 8, 1633, 1635, 83, 115, 1636], [zM_reasonOf]), (.ifCond .ne 7, [56], []), (.iconst 1, [], []), (.goto 4, [57], [])]
def iM_goesOn_56 : List xPI := [(.iconst 0, [], []), (.nop, [57], [])]
def iM_goesOn_57 : List xPI := [(.ireturn, [], [])]
def bM_goesOn : xB := [(0, false, iM_goesOn_0), (38, false, iM_goesOn_38), (39, false, iM_goesOn_39), (56, false, iM_goesOn_56), (57, false, iM_goesOn_57)]
theorem eM_goesOn : x_blk bM_goesOn 0 = some (false, iM_goesOn_0) ∧ x_blk bM_goesOn 38 = some (false, iM_goesOn_38) ∧ x_blk bM_goesOn 39 = some (false, iM_goesOn_39) ∧ x_blk bM_goesOn 56 = some (false, iM_goesOn_56) ∧ x_blk bM_goesOn 57 = some (false, iM_goesOn_57) := ⟨rfl, rfl, rfl, rfl, rfl⟩
theorem kM_goesOn : x_chkB zM_goesOn bM_goesOn = true := by decide +kernel
theorem vM_goesOn : zC zM_goesOn = 0 ∧ zS zM_goesOn = 0 ∧ x_rtc (zR zM_goesOn) = 2 := ⟨rfl, rfl, rfl⟩
def iM_laysItems_0 : List xPI := [(.aload_n 0, [], []), (.invokevirtual 258, [0, 0, 0, 8, 1508, 1510, 67, 115, 1511], [zM_looks]), (.aload_n 0, [], []), (.iconst 0, [], []), (.putfield 299, [8, 28, 0, 1270], []), (.iconst 0, [], []), (.istore_n 2, [], []), (.nop, [11], [])]
def iM_laysItems_11 : List xPI := [(.iload_n 2, [], []), (.aload_n 0, [], []), (.getfield 240, [8, 26, 0, 1268], []), (.if_icmp .ge 38, [54], []), (.aload_n 0, [], []), (.iload_n 1, [], []), (.iload_n 2, [], []), (.invokevirtual 302, [2, 0, 0, 8, 1645, 1647, 85, 115, 1648], [zM_goesOn]), (.ifCond .ne 23, [48], []), (.aload_n 0, [], []), (.getfield 48, [8, 27, 2, 1269], []), (.aload_n 0, [], []), (.getfield 299, [8, 28, 0, 1270], []), (.iload_n 2, [], []), (.iastore, [], []), (.aload_n 0, [], []), (.aload_n 0, [], []), (.getfield 299, [8, 28, 0, 1270], []), (.iconst 1, [], []), (.iadd, [], []), (.putfield 299, [8, 28, 0, 1270], []), (.nop, [48], [])]
def iM_laysItems_48 : List xPI := [(.iinc 2 1, [], []), (.goto (-40), [11], [])]
def iM_laysItems_54 : List xPI := [(.aload_n 0, [], []), (.getfield 48, [8, 27, 2, 1269], []), (.aload_n 0, [], []), (.getfield 299, [8, 28, 0, 1270], []), (.aload_n 0, [], []), (.getfield 240, [8, 26, 0, 1268], []), (.iastore, [], []), (.return_, [], [])]
def bM_laysItems : xB := [(0, false, iM_laysItems_0), (11, true, iM_laysItems_11), (48, false, iM_laysItems_48), (54, false, iM_laysItems_54)]
theorem eM_laysItems : x_blk bM_laysItems 0 = some (false, iM_laysItems_0) ∧ x_blk bM_laysItems 11 = some (true, iM_laysItems_11) ∧ x_blk bM_laysItems 48 = some (false, iM_laysItems_48) ∧ x_blk bM_laysItems 54 = some (false, iM_laysItems_54) := ⟨rfl, rfl, rfl, rfl⟩
theorem kM_laysItems : x_chkB zM_laysItems bM_laysItems = true := by decide +kernel
theorem vM_laysItems : zC zM_laysItems = 0 ∧ zS zM_laysItems = 0 ∧ x_rtc (zR zM_laysItems) = 0 := ⟨rfl, rfl, rfl⟩
def iM_sizeOf_0 : List xPI := [(.aload_n 0, [], []), (.getfield 48, [8, 27, 2, 1269], []), (.iload_n 1, [], []), (.iconst 1, [], []), (.iadd, [], []), (.iaload, [], []), (.aload_n 0, [], []), (.getfield 48, [8, 27, 2, 1269], []), (.iload_n 1, [], []), (.iaload, [], []), (.isub, [], []), (.ireturn, [], [])]
def bM_sizeOf : xB := [(0, false, iM_sizeOf_0)]
theorem eM_sizeOf : x_blk bM_sizeOf 0 = some (false, iM_sizeOf_0) := rfl
theorem kM_sizeOf : x_chkB zM_sizeOf bM_sizeOf = true := by decide +kernel
theorem vM_sizeOf : zC zM_sizeOf = 0 ∧ zS zM_sizeOf = 0 ∧ x_rtc (zR zM_sizeOf) = 1 := ⟨rfl, rfl, rfl⟩
def iM_firstPlace_0 : List xPI := [(.aload_n 0, [], []), (.getfield 42, [8, 24, 2, 1266], []), (.aload_n 0, [], []), (.getfield 48, [8, 27, 2, 1269], []), (.iload_n 1, [], []), (.iaload, [], []), (.iaload, [], []), (.ireturn, [], [])]
def bM_firstPlace : xB := [(0, false, iM_firstPlace_0)]
theorem eM_firstPlace : x_blk bM_firstPlace 0 = some (false, iM_firstPlace_0) := rfl
theorem kM_firstPlace : x_chkB zM_firstPlace bM_firstPlace = true := by decide +kernel
theorem vM_firstPlace : zC zM_firstPlace = 0 ∧ zS zM_firstPlace = 0 ∧ x_rtc (zR zM_firstPlace) = 1 := ⟨rfl, rfl, rfl⟩
def iM_items_0 : List xPI := [(.aload_n 0, [], []), (.aload_n 0, [], []), (.iload_n 1, [], []), (.invokevirtual 290, [1, 0, 0, 8, 1618, 1620, 81, 115, 1621], [zM_isPart]), (.ifCond .eq 7, [13], []), (.iconst 0, [], []), (.goto 4, [14], [])]
def iM_items_13 : List xPI := [(.iconst 1, [], []), (.nop, [14], [])]
def iM_items_14 : List xPI := [(.invokevirtual 228, [1, 0, 0, 8, 1381, 1383, 44, 115, 1384], [zM_isRefused]), (.ifCond .eq 5, [22], []), (.iconst 0, [], []), (.ireturn, [], [])]
def iM_items_22 : List xPI := [(.aload_n 0, [], []), (.iload_n 1, [], []), (.invokevirtual 305, [1, 0, 0, 8, 1641, 1643, 84, 115, 1644], [zM_laysItems]), (.aload_n 0, [], []), (.getfield 299, [8, 28, 0, 1270], []), (.ireturn, [], [])]
def bM_items : xB := [(0, false, iM_items_0), (13, false, iM_items_13), (14, false, iM_items_14), (22, false, iM_items_22)]
theorem eM_items : x_blk bM_items 0 = some (false, iM_items_0) ∧ x_blk bM_items 13 = some (false, iM_items_13) ∧ x_blk bM_items 14 = some (false, iM_items_14) ∧ x_blk bM_items 22 = some (false, iM_items_22) := ⟨rfl, rfl, rfl, rfl⟩
theorem kM_items : x_chkB zM_items bM_items = true := by decide +kernel
theorem vM_items : zC zM_items = 0 ∧ zS zM_items = 0 ∧ x_rtc (zR zM_items) = 1 := ⟨rfl, rfl, rfl⟩
def iM_beatsOf_0 : List xPI := [(.iconst 0, [], []), (.istore_n 2, [], []), (.aload_n 0, [], []), (.getfield 48, [8, 27, 2, 1269], []), (.iload_n 1, [], []), (.iaload, [], []), (.istore_n 3, [], []), (.nop, [9], [])]
def iM_beatsOf_9 : List xPI := [(.iload_n 3, [], []), (.aload_n 0, [], []), (.getfield 48, [8, 27, 2, 1269], []), (.iload_n 1, [], []), (.iconst 1, [], []), (.iadd, [], []), (.iaload, [], []), (.if_icmp .ge 25, [43], []), (.iload_n 2, [], []), (.aload_n 0, [], []), (.aload_n 0, [], []), (.getfield 42, [8, 24, 2, 1266], []), (.iload_n 3, [], []), (.iaload, [], []), (.invokevirtual 234, [1, 0, 0, 8, 1520, 1522, 70, 115, 1523], [zM_whatAt]), (.invokestatic 261, [1, 0, 0, 1539, 1540, 115, 1541], [zM_beatsIn]), (.iadd, [], []), (.istore_n 2, [], []), (.iinc 3 1, [], []), (.goto (-31), [9], [])]
def iM_beatsOf_43 : List xPI := [(.iload_n 2, [], []), (.ireturn, [], [])]
def bM_beatsOf : xB := [(0, false, iM_beatsOf_0), (9, true, iM_beatsOf_9), (43, false, iM_beatsOf_43)]
theorem eM_beatsOf : x_blk bM_beatsOf 0 = some (false, iM_beatsOf_0) ∧ x_blk bM_beatsOf 9 = some (true, iM_beatsOf_9) ∧ x_blk bM_beatsOf 43 = some (false, iM_beatsOf_43) := ⟨rfl, rfl, rfl⟩
theorem kM_beatsOf : x_chkB zM_beatsOf bM_beatsOf = true := by decide +kernel
theorem vM_beatsOf : zC zM_beatsOf = 0 ∧ zS zM_beatsOf = 0 ∧ x_rtc (zR zM_beatsOf) = 1 := ⟨rfl, rfl, rfl⟩
def iM_item_0 : List xPI := [(.aload_n 0, [], []), (.aload_n 0, [], []), (.iload_n 1, [], []), (.invokevirtual 290, [1, 0, 0, 8, 1618, 1620, 81, 115, 1621], [zM_isPart]), (.ifCond .ne 7, [13], []), (.iconst 1, [], []), (.goto 17, [27], [])]
def iM_item_13 : List xPI := [(.iload_n 3, [], []), (.iconst 0, [], []), (.iconst 3, [], []), (.invokestatic 82, [3, 0, 0, 1378, 1379, 115, 1380], [zM_in]), (.ifCond .ne 7, [26], []), (.iconst 2, [], []), (.goto 4, [27], [])]
def iM_item_26 : List xPI := [(.iconst 0, [], []), (.nop, [27], [])]
def iM_item_27 : List xPI := [(.invokevirtual 228, [1, 0, 0, 8, 1381, 1383, 44, 115, 1384], [zM_isRefused]), (.ifCond .eq 5, [35], []), (.iconst 0, [], []), (.ireturn, [], [])]
def iM_item_35 : List xPI := [(.aload_n 0, [], []), (.iload_n 1, [], []), (.invokevirtual 305, [1, 0, 0, 8, 1641, 1643, 84, 115, 1644], [zM_laysItems]), (.aload_n 0, [], []), (.iload_n 2, [], []), (.iconst 0, [], []), (.aload_n 0, [], []), (.getfield 299, [8, 28, 0, 1270], []), (.iconst 1, [], []), (.isub, [], []), (.invokestatic 82, [3, 0, 0, 1378, 1379, 115, 1380], [zM_in]), (.ifCond .eq 7, [59], []), (.iconst 0, [], []), (.goto 4, [60], [])]
def iM_item_59 : List xPI := [(.iconst 3, [], []), (.nop, [60], [])]
def iM_item_60 : List xPI := [(.invokevirtual 228, [1, 0, 0, 8, 1381, 1383, 44, 115, 1384], [zM_isRefused]), (.ifCond .eq 5, [68], []), (.iconst 0, [], []), (.ireturn, [], [])]
def iM_item_68 : List xPI := [(.iload_n 3, [], []), (.tableswitch 54 0 2 #[27, 37, 43], [123, 96, 106, 112], [])]
def iM_item_96 : List xPI := [(.aload_n 0, [], []), (.aload_n 0, [], []), (.iload_n 2, [], []), (.invokevirtual 308, [1, 0, 0, 8, 1653, 1655, 86, 115, 1656], [zM_firstPlace]), (.invokevirtual 75, [1, 0, 0, 8, 1492, 1494, 64, 115, 1495], [zM_idAt]), (.ireturn, [], [])]
def iM_item_106 : List xPI := [(.aload_n 0, [], []), (.iload_n 2, [], []), (.invokevirtual 311, [1, 0, 0, 8, 1657, 1659, 87, 115, 1660], [zM_sizeOf]), (.ireturn, [], [])]
def iM_item_112 : List xPI := [(.aload_n 0, [], []), (.iload_n 1, [], []), (.aload_n 0, [], []), (.iload_n 2, [], []), (.invokevirtual 308, [1, 0, 0, 8, 1653, 1655, 86, 115, 1656], [zM_firstPlace]), (.invokevirtual 293, [2, 0, 0, 8, 1622, 1624, 82, 115, 1625], [zM_contentAt]), (.ireturn, [], [])]
def iM_item_123 : List xPI := [(.aload_n 0, [], []), (.iload_n 2, [], []), (.invokevirtual 314, [1, 0, 0, 8, 1661, 1663, 88, 115, 1664], [zM_beatsOf]), (.ireturn, [], [])]
def bM_item : xB := [(0, false, iM_item_0), (13, false, iM_item_13), (26, false, iM_item_26), (27, false, iM_item_27), (35, false, iM_item_35), (59, false, iM_item_59), (60, false, iM_item_60), (68, false, iM_item_68), (96, false, iM_item_96), (106, false, iM_item_106), (112, false, iM_item_112), (123, false, iM_item_123)]
theorem eM_item : x_blk bM_item 0 = some (false, iM_item_0) ∧ x_blk bM_item 13 = some (false, iM_item_13) ∧ x_blk bM_item 26 = some (false, iM_item_26) ∧ x_blk bM_item 27 = some (false, iM_item_27) ∧ x_blk bM_item 35 = some (false, iM_item_35) ∧ x_blk bM_item 59 = some (false, iM_item_59) ∧ x_blk bM_item 60 = some (false, iM_item_60) ∧ x_blk bM_item 68 = some (false, iM_item_68) ∧ x_blk bM_item 96 = some (false, iM_item_96) ∧ x_blk bM_item 106 = some (false, iM_item_106) ∧ x_blk bM_item 112 = some (false, iM_item_112) ∧ x_blk bM_item 123 = some (false, iM_item_123) := ⟨rfl, rfl, rfl, rfl, rfl, rfl, rfl, rfl, rfl, rfl, rfl, rfl⟩
theorem kM_item : x_chkB zM_item bM_item = true := by decide +kernel
theorem vM_item : zC zM_item = 0 ∧ zS zM_item = 0 ∧ x_rtc (zR zM_item) = 1 := ⟨rfl, rfl, rfl⟩
def iM_itemOf_0 : List xPI := [(.aload_n 0, [], []), (.aload_n 0, [], []), (.aload_n 0, [], []), (.iload_n 1, [], []), (.invokevirtual 290, [1, 0, 0, 8, 1618, 1620, 81, 115, 1621], [zM_isPart]), (.iload_n 2, [], []), (.invokevirtual 282, [2, 0, 0, 8, 1606, 1608, 80, 115, 1609], [zM_wrongPlayed]), (.invokevirtual 228, [1, 0, 0, 8, 1381, 1383, 44, 115, 1384], [zM_isRefused]), (.ifCond .eq 5, [19], []), (.iconst 0, [], []), (.ireturn, [], [])]
def iM_itemOf_19 : List xPI := [(.aload_n 0, [], []), (.iload_n 1, [], []), (.invokevirtual 305, [1, 0, 0, 8, 1641, 1643, 84, 115, 1644], [zM_laysItems]), (.aload_n 0, [], []), (.getfield 45, [8, 25, 2, 1267], []), (.aload_n 0, [], []), (.iload_n 2, [], []), (.invokevirtual 79, [1, 0, 0, 8, 1504, 1506, 66, 115, 1507], [zM_placeOf]), (.iaload, [], []), (.istore_n 3, [], []), (.iconst 0, [], []), (.istore 4, [], []), (.nop, [38], [])]
def iM_itemOf_38 : List xPI := [(.aload_n 0, [], []), (.getfield 48, [8, 27, 2, 1269], []), (.iload 4, [], []), (.iconst 1, [], []), (.iadd, [], []), (.iaload, [], []), (.iload_n 3, [], []), (.if_icmp .gt 12, [60], []), (.iload 4, [], []), (.iconst 1, [], []), (.iadd, [], []), (.istore 4, [], []), (.goto (-19), [38], [])]
def iM_itemOf_60 : List xPI := [(.sipush 1000, [], []), (.iload 4, [], []), (.imul, [], []), (.iload_n 3, [], []), (.iadd, [], []), (.aload_n 0, [], []), (.getfield 48, [8, 27, 2, 1269], []), (.iload 4, [], []), (.iaload, [], []), (.isub, [], []), (.ireturn, [], [])]
def bM_itemOf : xB := [(0, false, iM_itemOf_0), (19, false, iM_itemOf_19), (38, true, iM_itemOf_38), (60, false, iM_itemOf_60)]
theorem eM_itemOf : x_blk bM_itemOf 0 = some (false, iM_itemOf_0) ∧ x_blk bM_itemOf 19 = some (false, iM_itemOf_19) ∧ x_blk bM_itemOf 38 = some (true, iM_itemOf_38) ∧ x_blk bM_itemOf 60 = some (false, iM_itemOf_60) := ⟨rfl, rfl, rfl, rfl⟩
theorem kM_itemOf : x_chkB zM_itemOf bM_itemOf = true := by decide +kernel
theorem vM_itemOf : zC zM_itemOf = 0 ∧ zS zM_itemOf = 0 ∧ x_rtc (zR zM_itemOf) = 1 := ⟨rfl, rfl, rfl⟩
def iM_longestRest_0 : List xPI := [(.aload_n 0, [], []), (.aload_n 0, [], []), (.iload_n 1, [], []), (.invokevirtual 290, [1, 0, 0, 8, 1618, 1620, 81, 115, 1621], [zM_isPart]), (.ifCond .eq 7, [13], []), (.iconst 0, [], []), (.goto 4, [14], [])]
def iM_longestRest_13 : List xPI := [(.iconst 1, [], []), (.nop, [14], [])]
def iM_longestRest_14 : List xPI := [(.invokevirtual 228, [1, 0, 0, 8, 1381, 1383, 44, 115, 1384], [zM_isRefused]), (.ifCond .eq 5, [22], []), (.iconst 0, [], []), (.ireturn, [], [])]
def iM_longestRest_22 : List xPI := [(.aload_n 0, [], []), (.iload_n 1, [], []), (.invokevirtual 305, [1, 0, 0, 8, 1641, 1643, 84, 115, 1644], [zM_laysItems]), (.iconst 0, [], []), (.istore_n 2, [], []), (.iconst 0, [], []), (.istore_n 3, [], []), (.nop, [31], [])]
def iM_longestRest_31 : List xPI := [(.iload_n 3, [], []), (.aload_n 0, [], []), (.getfield 299, [8, 28, 0, 1270], []), (.if_icmp .ge 37, [73], []), (.aload_n 0, [], []), (.iload_n 1, [], []), (.aload_n 0, [], []), (.iload_n 3, [], []), (.invokevirtual 308, [1, 0, 0, 8, 1653, 1655, 86, 115, 1656], [zM_firstPlace]), (.invokevirtual 293, [2, 0, 0, 8, 1622, 1624, 82, 115, 1625], [zM_contentAt]), (.ifCond .ne 18, [67], []), (.aload_n 0, [], []), (.iload_n 3, [], []), (.invokevirtual 311, [1, 0, 0, 8, 1657, 1659, 87, 115, 1660], [zM_sizeOf]), (.iload_n 2, [], []), (.if_icmp .le 9, [67], []), (.aload_n 0, [], []), (.iload_n 3, [], []), (.invokevirtual 311, [1, 0, 0, 8, 1657, 1659, 87, 115, 1660], [zM_sizeOf]), (.istore_n 2, [], []), (.nop, [67], [])]
def iM_longestRest_67 : List xPI := [(.iinc 3 1, [], []), (.goto (-39), [31], [])]
def iM_longestRest_73 : List xPI := [(.iload_n 2, [], []), (.ireturn, [], [])]
def bM_longestRest : xB := [(0, false, iM_longestRest_0), (13, false, iM_longestRest_13), (14, false, iM_longestRest_14), (22, false, iM_longestRest_22), (31, true, iM_longestRest_31), (67, false, iM_longestRest_67), (73, false, iM_longestRest_73)]
theorem eM_longestRest : x_blk bM_longestRest 0 = some (false, iM_longestRest_0) ∧ x_blk bM_longestRest 13 = some (false, iM_longestRest_13) ∧ x_blk bM_longestRest 14 = some (false, iM_longestRest_14) ∧ x_blk bM_longestRest 22 = some (false, iM_longestRest_22) ∧ x_blk bM_longestRest 31 = some (true, iM_longestRest_31) ∧ x_blk bM_longestRest 67 = some (false, iM_longestRest_67) ∧ x_blk bM_longestRest 73 = some (false, iM_longestRest_73) := ⟨rfl, rfl, rfl, rfl, rfl, rfl, rfl⟩
theorem kM_longestRest : x_chkB zM_longestRest bM_longestRest = true := by decide +kernel
theorem vM_longestRest : zC zM_longestRest = 0 ∧ zS zM_longestRest = 0 ∧ x_rtc (zR zM_longestRest) = 1 := ⟨rfl, rfl, rfl⟩
def iM_waiting_0 : List xPI := [(.aload_n 0, [], []), (.aload_n 0, [], []), (.aload_n 0, [], []), (.iload_n 1, [], []), (.invokevirtual 290, [1, 0, 0, 8, 1618, 1620, 81, 115, 1621], [zM_isPart]), (.iload_n 2, [], []), (.invokevirtual 282, [2, 0, 0, 8, 1606, 1608, 80, 115, 1609], [zM_wrongPlayed]), (.invokevirtual 228, [1, 0, 0, 8, 1381, 1383, 44, 115, 1384], [zM_isRefused]), (.ifCond .eq 5, [19], []), (.iconst 0, [], []), (.ireturn, [], [])]
def iM_waiting_19 : List xPI := [(.aload_n 0, [], []), (.getfield 45, [8, 25, 2, 1267], []), (.aload_n 0, [], []), (.iload_n 2, [], []), (.invokevirtual 79, [1, 0, 0, 8, 1504, 1506, 66, 115, 1507], [zM_placeOf]), (.iaload, [], []), (.istore_n 3, [], []), (.iload_n 3, [], []), (.istore 4, [], []), (.nop, [33], [])]
def iM_waiting_33 : List xPI := [(.iload 4, [], []), (.aload_n 0, [], []), (.getfield 240, [8, 26, 0, 1268], []), (.if_icmp .ge 30, [69], []), (.aload_n 0, [], []), (.iload_n 1, [], []), (.aload_n 0, [], []), (.getfield 42, [8, 24, 2, 1266], []), (.iload 4, [], []), (.iaload, [], []), (.invokevirtual 293, [2, 0, 0, 8, 1622, 1624, 82, 115, 1625], [zM_contentAt]), (.iconst 1, [], []), (.if_icmp .ne 8, [63], []), (.iload 4, [], []), (.iload_n 3, [], []), (.isub, [], []), (.ireturn, [], [])]
def iM_waiting_63 : List xPI := [(.iinc 4 1, [], []), (.goto (-33), [33], [])]
def iM_waiting_69 : List xPI := [(.iconst (-1), [], []), (.ireturn, [], [])]
def bM_waiting : xB := [(0, false, iM_waiting_0), (19, false, iM_waiting_19), (33, true, iM_waiting_33), (63, false, iM_waiting_63), (69, false, iM_waiting_69)]
theorem eM_waiting : x_blk bM_waiting 0 = some (false, iM_waiting_0) ∧ x_blk bM_waiting 19 = some (false, iM_waiting_19) ∧ x_blk bM_waiting 33 = some (true, iM_waiting_33) ∧ x_blk bM_waiting 63 = some (false, iM_waiting_63) ∧ x_blk bM_waiting 69 = some (false, iM_waiting_69) := ⟨rfl, rfl, rfl, rfl, rfl⟩
theorem kM_waiting : x_chkB zM_waiting bM_waiting = true := by decide +kernel
theorem vM_waiting : zC zM_waiting = 0 ∧ zS zM_waiting = 0 ∧ x_rtc (zR zM_waiting) = 1 := ⟨rfl, rfl, rfl⟩
def iM_sounding_0 : List xPI := [(.aload_n 0, [], []), (.aload_n 0, [], []), (.iload_n 1, [], []), (.invokevirtual 255, [1, 0, 0, 8, 1500, 1502, 65, 115, 1503], [zM_isBar]), (.ifCond .eq 7, [13], []), (.iconst 0, [], []), (.goto 4, [14], [])]
def iM_sounding_13 : List xPI := [(.iconst 1, [], []), (.nop, [14], [])]
def iM_sounding_14 : List xPI := [(.invokevirtual 228, [1, 0, 0, 8, 1381, 1383, 44, 115, 1384], [zM_isRefused]), (.ifCond .eq 5, [22], []), (.iconst 0, [], []), (.ireturn, [], [])]
def iM_sounding_22 : List xPI := [(.iconst 0, [], []), (.istore_n 2, [], []), (.iconst 0, [], []), (.istore_n 3, [], []), (.nop, [26], [])]
def iM_sounding_26 : List xPI := [(.iload_n 3, [], []), (.aload_n 0, [], []), (.getfield 7, [8, 1, 2, 1243], []), (.iconst 2, [], []), (.iaload, [], []), (.if_icmp .ge 29, [62], []), (.aload_n 0, [], []), (.iload_n 3, [], []), (.aload_n 0, [], []), (.iload_n 1, [], []), (.invokevirtual 79, [1, 0, 0, 8, 1504, 1506, 66, 115, 1507], [zM_placeOf]), (.invokevirtual 293, [2, 0, 0, 8, 1622, 1624, 82, 115, 1625], [zM_contentAt]), (.iconst 1, [], []), (.if_icmp .ne 9, [56], []), (.iload_n 2, [], []), (.iconst 1, [], []), (.iload_n 3, [], []), (.ishl, [], []), (.ior, [], []), (.istore_n 2, [], []), (.nop, [56], [])]
def iM_sounding_56 : List xPI := [(.iinc 3 1, [], []), (.goto (-33), [26], [])]
def iM_sounding_62 : List xPI := [(.iload_n 2, [], []), (.ireturn, [], [])]
def bM_sounding : xB := [(0, false, iM_sounding_0), (13, false, iM_sounding_13), (14, false, iM_sounding_14), (22, false, iM_sounding_22), (26, true, iM_sounding_26), (56, false, iM_sounding_56), (62, false, iM_sounding_62)]
theorem eM_sounding : x_blk bM_sounding 0 = some (false, iM_sounding_0) ∧ x_blk bM_sounding 13 = some (false, iM_sounding_13) ∧ x_blk bM_sounding 14 = some (false, iM_sounding_14) ∧ x_blk bM_sounding 22 = some (false, iM_sounding_22) ∧ x_blk bM_sounding 26 = some (true, iM_sounding_26) ∧ x_blk bM_sounding 56 = some (false, iM_sounding_56) ∧ x_blk bM_sounding 62 = some (false, iM_sounding_62) := ⟨rfl, rfl, rfl, rfl, rfl, rfl, rfl⟩
theorem kM_sounding : x_chkB zM_sounding bM_sounding = true := by decide +kernel
theorem vM_sounding : zC zM_sounding = 0 ∧ zS zM_sounding = 0 ∧ x_rtc (zR zM_sounding) = 1 := ⟨rfl, rfl, rfl⟩
def iM_noteOf_0 : List xPI := [(.iload_n 0, [], []), (.bipush 12, [], []), (.ishl, [], []), (.iload_n 1, [], []), (.bipush 6, [], []), (.ishl, [], []), (.ior, [], []), (.iload_n 2, [], []), (.iconst 2, [], []), (.ishl, [], []), (.ior, [], []), (.iload_n 3, [], []), (.ior, [], []), (.ireturn, [], [])]
def bM_noteOf : xB := [(0, false, iM_noteOf_0)]
theorem eM_noteOf : x_blk bM_noteOf 0 = some (false, iM_noteOf_0) := rfl
theorem kM_noteOf : x_chkB zM_noteOf bM_noteOf = true := by decide +kernel
theorem vM_noteOf : zC zM_noteOf = 0 ∧ zS zM_noteOf = 0 ∧ x_rtc (zR zM_noteOf) = 1 := ⟨rfl, rfl, rfl⟩
def iM_labelIn_0 : List xPI := [(.iload_n 0, [], []), (.bipush 12, [], []), (.ishr, [], []), (.ireturn, [], [])]
def bM_labelIn : xB := [(0, false, iM_labelIn_0)]
theorem eM_labelIn : x_blk bM_labelIn 0 = some (false, iM_labelIn_0) := rfl
theorem kM_labelIn : x_chkB zM_labelIn bM_labelIn = true := by decide +kernel
theorem vM_labelIn : zC zM_labelIn = 0 ∧ zS zM_labelIn = 0 ∧ x_rtc (zR zM_labelIn) = 1 := ⟨rfl, rfl, rfl⟩
def iM_letterIn_0 : List xPI := [(.iload_n 0, [], []), (.bipush 6, [], []), (.ishr, [], []), (.bipush 63, [], []), (.iand, [], []), (.ireturn, [], [])]
def bM_letterIn : xB := [(0, false, iM_letterIn_0)]
theorem eM_letterIn : x_blk bM_letterIn 0 = some (false, iM_letterIn_0) := rfl
theorem kM_letterIn : x_chkB zM_letterIn bM_letterIn = true := by decide +kernel
theorem vM_letterIn : zC zM_letterIn = 0 ∧ zS zM_letterIn = 0 ∧ x_rtc (zR zM_letterIn) = 1 := ⟨rfl, rfl, rfl⟩
def iM_notedBeats_0 : List xPI := [(.iload_n 0, [], []), (.iconst 2, [], []), (.ishr, [], []), (.bipush 15, [], []), (.iand, [], []), (.ireturn, [], [])]
def bM_notedBeats : xB := [(0, false, iM_notedBeats_0)]
theorem eM_notedBeats : x_blk bM_notedBeats 0 = some (false, iM_notedBeats_0) := rfl
theorem kM_notedBeats : x_chkB zM_notedBeats bM_notedBeats = true := by decide +kernel
theorem vM_notedBeats : zC zM_notedBeats = 0 ∧ zS zM_notedBeats = 0 ∧ x_rtc (zR zM_notedBeats) = 1 := ⟨rfl, rfl, rfl⟩
def iM_noteAt_0 : List xPI := [(.sipush 371, [], []), (.sipush 300, [], []), (.iload_n 0, [], []), (.imul, [], []), (.iadd, [], []), (.iconst 2, [], []), (.iload_n 1, [], []), (.imul, [], []), (.iadd, [], []), (.ireturn, [], [])]
def bM_noteAt : xB := [(0, false, iM_noteAt_0)]
theorem eM_noteAt : x_blk bM_noteAt 0 = some (false, iM_noteAt_0) := rfl
theorem kM_noteAt : x_chkB zM_noteAt bM_noteAt = true := by decide +kernel
theorem vM_noteAt : zC zM_noteAt = 0 ∧ zS zM_noteAt = 0 ∧ x_rtc (zR zM_noteAt) = 1 := ⟨rfl, rfl, rfl⟩
def iM_noteFor_0 : List xPI := [(.iconst 0, [], []), (.istore_n 3, [], []), (.nop, [2], [])]
def iM_noteFor_2 : List xPI := [(.iload_n 3, [], []), (.aload_n 0, [], []), (.getfield 7, [8, 1, 2, 1243], []), (.sipush 365, [], []), (.iload_n 1, [], []), (.iadd, [], []), (.iaload, [], []), (.if_icmp .ge 36, [49], []), (.aload_n 0, [], []), (.getfield 7, [8, 1, 2, 1243], []), (.iload_n 1, [], []), (.iload_n 3, [], []), (.invokestatic 317, [2, 0, 0, 1697, 1698, 115, 1699], [zM_noteAt]), (.iaload, [], []), (.iload_n 2, [], []), (.if_icmp .ne 16, [43], []), (.aload_n 0, [], []), (.getfield 7, [8, 1, 2, 1243], []), (.iload_n 1, [], []), (.iload_n 3, [], []), (.invokestatic 317, [2, 0, 0, 1697, 1698, 115, 1699], [zM_noteAt]), (.iconst 1, [], []), (.iadd, [], []), (.iaload, [], []), (.ireturn, [], [])]
def iM_noteFor_43 : List xPI := [(.iinc 3 1, [], []), (.goto (-44), [2], [])]
def iM_noteFor_49 : List xPI := [(.iconst (-1), [], []), (.ireturn, [], [])]
def bM_noteFor : xB := [(0, false, iM_noteFor_0), (2, true, iM_noteFor_2), (43, false, iM_noteFor_43), (49, false, iM_noteFor_49)]
theorem eM_noteFor : x_blk bM_noteFor 0 = some (false, iM_noteFor_0) ∧ x_blk bM_noteFor 2 = some (true, iM_noteFor_2) ∧ x_blk bM_noteFor 43 = some (false, iM_noteFor_43) ∧ x_blk bM_noteFor 49 = some (false, iM_noteFor_49) := ⟨rfl, rfl, rfl, rfl⟩
theorem kM_noteFor : x_chkB zM_noteFor bM_noteFor = true := by decide +kernel
theorem vM_noteFor : zC zM_noteFor = 0 ∧ zS zM_noteFor = 0 ∧ x_rtc (zR zM_noteFor) = 1 := ⟨rfl, rfl, rfl⟩
def iM_noteNow_0 : List xPI := [(.aload_n 0, [], []), (.getfield 30, [8, 20, 2, 1262], []), (.iload_n 2, [], []), (.iaload, [], []), (.aload_n 0, [], []), (.getfield 36, [8, 22, 2, 1264], []), (.iload_n 2, [], []), (.iaload, [], []), (.aload_n 0, [], []), (.iload_n 2, [], []), (.invokevirtual 234, [1, 0, 0, 8, 1520, 1522, 70, 115, 1523], [zM_whatAt]), (.invokestatic 261, [1, 0, 0, 1539, 1540, 115, 1541], [zM_beatsIn]), (.aload_n 0, [], []), (.iload_n 1, [], []), (.iload_n 2, [], []), (.invokevirtual 293, [2, 0, 0, 8, 1622, 1624, 82, 115, 1625], [zM_contentAt]), (.invokestatic 320, [4, 0, 0, 1712, 1713, 115, 1714], [zM_noteOf]), (.ireturn, [], [])]
def bM_noteNow : xB := [(0, false, iM_noteNow_0)]
theorem eM_noteNow : x_blk bM_noteNow 0 = some (false, iM_noteNow_0) := rfl
theorem kM_noteNow : x_chkB zM_noteNow bM_noteNow = true := by decide +kernel
theorem vM_noteNow : zC zM_noteNow = 0 ∧ zS zM_noteNow = 0 ∧ x_rtc (zR zM_noteNow) = 1 := ⟨rfl, rfl, rfl⟩
def iM_isPrinted_0 : List xPI := [(.aload_n 0, [], []), (.aload_n 0, [], []), (.iload_n 1, [], []), (.invokevirtual 290, [1, 0, 0, 8, 1618, 1620, 81, 115, 1621], [zM_isPart]), (.ifCond .eq 7, [13], []), (.iconst 0, [], []), (.goto 4, [14], [])]
def iM_isPrinted_13 : List xPI := [(.iconst 1, [], []), (.nop, [14], [])]
def iM_isPrinted_14 : List xPI := [(.putfield 66, [8, 0, 0, 1242], []), (.aload_n 0, [], []), (.getfield 66, [8, 0, 0, 1242], []), (.ifCond .ne 20, [41], []), (.aload_n 0, [], []), (.getfield 7, [8, 1, 2, 1243], []), (.iconst 3, [], []), (.iaload, [], []), (.iload_n 1, [], []), (.invokestatic 86, [2, 0, 0, 1524, 1525, 115, 1526], [zM_has]), (.ifCond .eq 7, [41], []), (.iconst 1, [], []), (.goto 4, [42], [])]
def iM_isPrinted_41 : List xPI := [(.iconst 0, [], []), (.nop, [42], [])]
def iM_isPrinted_42 : List xPI := [(.ireturn, [], [])]
def bM_isPrinted : xB := [(0, false, iM_isPrinted_0), (13, false, iM_isPrinted_13), (14, false, iM_isPrinted_14), (41, false, iM_isPrinted_41), (42, false, iM_isPrinted_42)]
theorem eM_isPrinted : x_blk bM_isPrinted 0 = some (false, iM_isPrinted_0) ∧ x_blk bM_isPrinted 13 = some (false, iM_isPrinted_13) ∧ x_blk bM_isPrinted 14 = some (false, iM_isPrinted_14) ∧ x_blk bM_isPrinted 41 = some (false, iM_isPrinted_41) ∧ x_blk bM_isPrinted 42 = some (false, iM_isPrinted_42) := ⟨rfl, rfl, rfl, rfl, rfl⟩
theorem kM_isPrinted : x_chkB zM_isPrinted bM_isPrinted = true := by decide +kernel
theorem vM_isPrinted : zC zM_isPrinted = 0 ∧ zS zM_isPrinted = 0 ∧ x_rtc (zR zM_isPrinted) = 2 := ⟨rfl, rfl, rfl⟩
def iM_kindOf_0 : List xPI := [(.aload_n 0, [], []), (.iload_n 1, [], []), (.iload_n 2, [], []), (.invokevirtual 324, [2, 0, 0, 8, 1704, 1706, 92, 115, 1707], [zM_noteFor]), (.istore_n 3, [], []), (.aload_n 0, [], []), (.iload_n 2, [], []), (.invokevirtual 79, [1, 0, 0, 8, 1504, 1506, 66, 115, 1507], [zM_placeOf]), (.istore 4, [], []), (.iload 4, [], []), (.iconst (-1), [], []), (.if_icmp .eq 16, [33], []), (.aload_n 0, [], []), (.iload 4, [], []), (.invokevirtual 264, [1, 0, 0, 8, 1542, 1544, 74, 115, 1545], [zM_isPlayed]), (.ifCond .eq 7, [33], []), (.iconst 1, [], []), (.goto 4, [34], [])]
def iM_kindOf_33 : List xPI := [(.iconst 0, [], []), (.nop, [34], [])]
def iM_kindOf_34 : List xPI := [(.istore 5, [], []), (.iload_n 3, [], []), (.iconst (-1), [], []), (.if_icmp .eq 8, [46], []), (.iload 5, [], []), (.ifCond .ne 23, [66], []), (.nop, [46], [])]
def iM_kindOf_46 : List xPI := [(.iload 5, [], []), (.ifCond .eq 7, [55], []), (.iconst 1, [], []), (.goto 13, [65], [])]
def iM_kindOf_55 : List xPI := [(.iload_n 3, [], []), (.iconst (-1), [], []), (.if_icmp .eq 7, [64], []), (.iconst 2, [], []), (.goto 4, [65], [])]
def iM_kindOf_64 : List xPI := [(.iconst 0, [], []), (.nop, [65], [])]
def iM_kindOf_65 : List xPI := [(.ireturn, [], [])]
def iM_kindOf_66 : List xPI := [(.aload_n 0, [], []), (.iload_n 1, [], []), (.iload 4, [], []), (.invokevirtual 327, [2, 0, 0, 8, 1708, 1710, 93, 115, 1711], [zM_noteNow]), (.istore 6, [], []), (.iload_n 3, [], []), (.invokestatic 330, [1, 0, 0, 1715, 1716, 115, 1717], [zM_labelIn]), (.iload 6, [], []), (.invokestatic 330, [1, 0, 0, 1715, 1716, 115, 1717], [zM_labelIn]), (.if_icmp .eq 5, [89], []), (.iconst 3, [], []), (.ireturn, [], [])]
def iM_kindOf_89 : List xPI := [(.iload_n 3, [], []), (.invokestatic 333, [1, 0, 0, 1718, 1719, 115, 1720], [zM_letterIn]), (.iload 6, [], []), (.invokestatic 333, [1, 0, 0, 1718, 1719, 115, 1720], [zM_letterIn]), (.if_icmp .eq 5, [103], []), (.iconst 4, [], []), (.ireturn, [], [])]
def iM_kindOf_103 : List xPI := [(.iload_n 3, [], []), (.invokestatic 336, [1, 0, 0, 1721, 1722, 115, 1723], [zM_notedBeats]), (.iload 6, [], []), (.invokestatic 336, [1, 0, 0, 1721, 1722, 115, 1723], [zM_notedBeats]), (.if_icmp .eq 5, [117], []), (.iconst 5, [], []), (.ireturn, [], [])]
def iM_kindOf_117 : List xPI := [(.iload_n 3, [], []), (.iload 6, [], []), (.if_icmp .ne 7, [127], []), (.iconst 0, [], []), (.goto 5, [129], [])]
def iM_kindOf_127 : List xPI := [(.bipush 6, [], []), (.nop, [129], [])]
def iM_kindOf_129 : List xPI := [(.ireturn, [], [])]
def bM_kindOf : xB := [(0, false, iM_kindOf_0), (33, false, iM_kindOf_33), (34, false, iM_kindOf_34), (46, false, iM_kindOf_46), (55, false, iM_kindOf_55), (64, false, iM_kindOf_64), (65, false, iM_kindOf_65), (66, false, iM_kindOf_66), (89, false, iM_kindOf_89), (103, false, iM_kindOf_103), (117, false, iM_kindOf_117), (127, false, iM_kindOf_127), (129, false, iM_kindOf_129)]
theorem eM_kindOf : x_blk bM_kindOf 0 = some (false, iM_kindOf_0) ∧ x_blk bM_kindOf 33 = some (false, iM_kindOf_33) ∧ x_blk bM_kindOf 34 = some (false, iM_kindOf_34) ∧ x_blk bM_kindOf 46 = some (false, iM_kindOf_46) ∧ x_blk bM_kindOf 55 = some (false, iM_kindOf_55) ∧ x_blk bM_kindOf 64 = some (false, iM_kindOf_64) ∧ x_blk bM_kindOf 65 = some (false, iM_kindOf_65) ∧ x_blk bM_kindOf 66 = some (false, iM_kindOf_66) ∧ x_blk bM_kindOf 89 = some (false, iM_kindOf_89) ∧ x_blk bM_kindOf 103 = some (false, iM_kindOf_103) ∧ x_blk bM_kindOf 117 = some (false, iM_kindOf_117) ∧ x_blk bM_kindOf 127 = some (false, iM_kindOf_127) ∧ x_blk bM_kindOf 129 = some (false, iM_kindOf_129) := ⟨rfl, rfl, rfl, rfl, rfl, rfl, rfl, rfl, rfl, rfl, rfl, rfl, rfl⟩
theorem kM_kindOf : x_chkB zM_kindOf bM_kindOf = true := by decide +kernel
theorem vM_kindOf : zC zM_kindOf = 0 ∧ zS zM_kindOf = 0 ∧ x_rtc (zR zM_kindOf) = 1 := ⟨rfl, rfl, rfl⟩
def iM_idAbove_0 : List xPI := [(.iconst (-1), [], []), (.istore_n 3, [], []), (.iconst 0, [], []), (.istore 4, [], []), (.nop, [5], [])]
def iM_idAbove_5 : List xPI := [(.iload 4, [], []), (.aload_n 0, [], []), (.getfield 7, [8, 1, 2, 1243], []), (.iconst 0, [], []), (.iaload, [], []), (.if_icmp .ge 41, [54], []), (.aload_n 0, [], []), (.iload 4, [], []), (.invokevirtual 75, [1, 0, 0, 8, 1492, 1494, 64, 115, 1495], [zM_idAt]), (.iload_n 2, [], []), (.if_icmp .le 25, [48], []), (.iload_n 3, [], []), (.iconst (-1), [], []), (.if_icmp .eq 13, [41], []), (.aload_n 0, [], []), (.iload 4, [], []), (.invokevirtual 75, [1, 0, 0, 8, 1492, 1494, 64, 115, 1495], [zM_idAt]), (.iload_n 3, [], []), (.if_icmp .ge 10, [48], []), (.nop, [41], [])]
def iM_idAbove_41 : List xPI := [(.aload_n 0, [], []), (.iload 4, [], []), (.invokevirtual 75, [1, 0, 0, 8, 1492, 1494, 64, 115, 1495], [zM_idAt]), (.istore_n 3, [], []), (.nop, [48], [])]
def iM_idAbove_48 : List xPI := [(.iinc 4 1, [], []), (.goto (-46), [5], [])]
def iM_idAbove_54 : List xPI := [(.iconst 0, [], []), (.istore 4, [], []), (.nop, [57], [])]
def iM_idAbove_57 : List xPI := [(.iload 4, [], []), (.aload_n 0, [], []), (.getfield 7, [8, 1, 2, 1243], []), (.sipush 365, [], []), (.iload_n 1, [], []), (.iadd, [], []), (.iaload, [], []), (.if_icmp .ge 42, [111], []), (.aload_n 0, [], []), (.getfield 7, [8, 1, 2, 1243], []), (.iload_n 1, [], []), (.iload 4, [], []), (.invokestatic 317, [2, 0, 0, 1697, 1698, 115, 1699], [zM_noteAt]), (.iaload, [], []), (.istore 5, [], []), (.iload 5, [], []), (.iload_n 2, [], []), (.if_icmp .le 17, [105], []), (.iload_n 3, [], []), (.iconst (-1), [], []), (.if_icmp .eq 9, [102], []), (.iload 5, [], []), (.iload_n 3, [], []), (.if_icmp .ge 6, [105], []), (.nop, [102], [])]
def iM_idAbove_102 : List xPI := [(.iload 5, [], []), (.istore_n 3, [], []), (.nop, [105], [])]
def iM_idAbove_105 : List xPI := [(.iinc 4 1, [], []), (.goto (-51), [57], [])]
def iM_idAbove_111 : List xPI := [(.iload_n 3, [], []), (.ireturn, [], [])]
def bM_idAbove : xB := [(0, false, iM_idAbove_0), (5, true, iM_idAbove_5), (41, false, iM_idAbove_41), (48, false, iM_idAbove_48), (54, false, iM_idAbove_54), (57, true, iM_idAbove_57), (102, false, iM_idAbove_102), (105, false, iM_idAbove_105), (111, false, iM_idAbove_111)]
theorem eM_idAbove : x_blk bM_idAbove 0 = some (false, iM_idAbove_0) ∧ x_blk bM_idAbove 5 = some (true, iM_idAbove_5) ∧ x_blk bM_idAbove 41 = some (false, iM_idAbove_41) ∧ x_blk bM_idAbove 48 = some (false, iM_idAbove_48) ∧ x_blk bM_idAbove 54 = some (false, iM_idAbove_54) ∧ x_blk bM_idAbove 57 = some (true, iM_idAbove_57) ∧ x_blk bM_idAbove 102 = some (false, iM_idAbove_102) ∧ x_blk bM_idAbove 105 = some (false, iM_idAbove_105) ∧ x_blk bM_idAbove 111 = some (false, iM_idAbove_111) := ⟨rfl, rfl, rfl, rfl, rfl, rfl, rfl, rfl, rfl⟩
theorem kM_idAbove : x_chkB zM_idAbove bM_idAbove = true := by decide +kernel
theorem vM_idAbove : zC zM_idAbove = 0 ∧ zS zM_idAbove = 0 ∧ x_rtc (zR zM_idAbove) = 1 := ⟨rfl, rfl, rfl⟩
def iM_laysErrata_0 : List xPI := [(.aload_n 0, [], []), (.invokevirtual 258, [0, 0, 0, 8, 1508, 1510, 67, 115, 1511], [zM_looks]), (.aload_n 0, [], []), (.iconst 0, [], []), (.putfield 339, [8, 30, 0, 1272], []), (.aload_n 0, [], []), (.iload_n 1, [], []), (.iconst (-1), [], []), (.invokevirtual 342, [2, 0, 0, 8, 1693, 1695, 90, 115, 1696], [zM_idAbove]), (.istore_n 2, [], []), (.nop, [16], [])]
def iM_laysErrata_16 : List xPI := [(.iload_n 2, [], []), (.iconst (-1), [], []), (.if_icmp .eq 42, [60], []), (.aload_n 0, [], []), (.iload_n 1, [], []), (.iload_n 2, [], []), (.invokevirtual 345, [2, 0, 0, 8, 1700, 1702, 91, 115, 1703], [zM_kindOf]), (.ifCond .le 23, [50], []), (.aload_n 0, [], []), (.getfield 51, [8, 29, 2, 1271], []), (.aload_n 0, [], []), (.getfield 339, [8, 30, 0, 1272], []), (.iload_n 2, [], []), (.iastore, [], []), (.aload_n 0, [], []), (.aload_n 0, [], []), (.getfield 339, [8, 30, 0, 1272], []), (.iconst 1, [], []), (.iadd, [], []), (.putfield 339, [8, 30, 0, 1272], []), (.nop, [50], [])]
def iM_laysErrata_50 : List xPI := [(.aload_n 0, [], []), (.iload_n 1, [], []), (.iload_n 2, [], []), (.invokevirtual 342, [2, 0, 0, 8, 1693, 1695, 90, 115, 1696], [zM_idAbove]), (.istore_n 2, [], []), (.goto (-41), [16], [])]
def iM_laysErrata_60 : List xPI := [(.return_, [], [])]
def bM_laysErrata : xB := [(0, false, iM_laysErrata_0), (16, true, iM_laysErrata_16), (50, false, iM_laysErrata_50), (60, false, iM_laysErrata_60)]
theorem eM_laysErrata : x_blk bM_laysErrata 0 = some (false, iM_laysErrata_0) ∧ x_blk bM_laysErrata 16 = some (true, iM_laysErrata_16) ∧ x_blk bM_laysErrata 50 = some (false, iM_laysErrata_50) ∧ x_blk bM_laysErrata 60 = some (false, iM_laysErrata_60) := ⟨rfl, rfl, rfl, rfl⟩
theorem kM_laysErrata : x_chkB zM_laysErrata bM_laysErrata = true := by decide +kernel
theorem vM_laysErrata : zC zM_laysErrata = 0 ∧ zS zM_laysErrata = 0 ∧ x_rtc (zR zM_laysErrata) = 0 := ⟨rfl, rfl, rfl⟩
def iM_errata_0 : List xPI := [(.aload_n 0, [], []), (.aload_n 0, [], []), (.iload_n 1, [], []), (.invokevirtual 290, [1, 0, 0, 8, 1618, 1620, 81, 115, 1621], [zM_isPart]), (.ifCond .ne 7, [13], []), (.iconst 1, [], []), (.goto 21, [31], [])]
def iM_errata_13 : List xPI := [(.aload_n 0, [], []), (.getfield 7, [8, 1, 2, 1243], []), (.iconst 3, [], []), (.iaload, [], []), (.iload_n 1, [], []), (.invokestatic 86, [2, 0, 0, 1524, 1525, 115, 1526], [zM_has]), (.ifCond .ne 7, [30], []), (.iconst 2, [], []), (.goto 4, [31], [])]
def iM_errata_30 : List xPI := [(.iconst 0, [], []), (.nop, [31], [])]
def iM_errata_31 : List xPI := [(.invokevirtual 228, [1, 0, 0, 8, 1381, 1383, 44, 115, 1384], [zM_isRefused]), (.ifCond .eq 5, [39], []), (.iconst 0, [], []), (.ireturn, [], [])]
def iM_errata_39 : List xPI := [(.aload_n 0, [], []), (.iload_n 1, [], []), (.invokevirtual 348, [1, 0, 0, 8, 1689, 1691, 89, 115, 1692], [zM_laysErrata]), (.aload_n 0, [], []), (.getfield 339, [8, 30, 0, 1272], []), (.ireturn, [], [])]
def bM_errata : xB := [(0, false, iM_errata_0), (13, false, iM_errata_13), (30, false, iM_errata_30), (31, false, iM_errata_31), (39, false, iM_errata_39)]
theorem eM_errata : x_blk bM_errata 0 = some (false, iM_errata_0) ∧ x_blk bM_errata 13 = some (false, iM_errata_13) ∧ x_blk bM_errata 30 = some (false, iM_errata_30) ∧ x_blk bM_errata 31 = some (false, iM_errata_31) ∧ x_blk bM_errata 39 = some (false, iM_errata_39) := ⟨rfl, rfl, rfl, rfl, rfl⟩
theorem kM_errata : x_chkB zM_errata bM_errata = true := by decide +kernel
theorem vM_errata : zC zM_errata = 0 ∧ zS zM_errata = 0 ∧ x_rtc (zR zM_errata) = 1 := ⟨rfl, rfl, rfl⟩
def iM_notedFor_0 : List xPI := [(.iload_n 1, [], []), (.tableswitch 55 1 6 #[39, 55, 55, 41, 46, 51], [56, 40, 56, 56, 42, 47, 52], [])]
def iM_notedFor_40 : List xPI := [(.iconst (-1), [], []), (.ireturn, [], [])]
def iM_notedFor_42 : List xPI := [(.iload_n 2, [], []), (.invokestatic 333, [1, 0, 0, 1718, 1719, 115, 1720], [zM_letterIn]), (.ireturn, [], [])]
def iM_notedFor_47 : List xPI := [(.iload_n 2, [], []), (.invokestatic 336, [1, 0, 0, 1721, 1722, 115, 1723], [zM_notedBeats]), (.ireturn, [], [])]
def iM_notedFor_52 : List xPI := [(.iload_n 2, [], []), (.iconst 3, [], []), (.iand, [], []), (.ireturn, [], [])]
def iM_notedFor_56 : List xPI := [(.iload_n 2, [], []), (.invokestatic 330, [1, 0, 0, 1715, 1716, 115, 1717], [zM_labelIn]), (.ireturn, [], [])]
def bM_notedFor : xB := [(0, false, iM_notedFor_0), (40, false, iM_notedFor_40), (42, false, iM_notedFor_42), (47, false, iM_notedFor_47), (52, false, iM_notedFor_52), (56, false, iM_notedFor_56)]
theorem eM_notedFor : x_blk bM_notedFor 0 = some (false, iM_notedFor_0) ∧ x_blk bM_notedFor 40 = some (false, iM_notedFor_40) ∧ x_blk bM_notedFor 42 = some (false, iM_notedFor_42) ∧ x_blk bM_notedFor 47 = some (false, iM_notedFor_47) ∧ x_blk bM_notedFor 52 = some (false, iM_notedFor_52) ∧ x_blk bM_notedFor 56 = some (false, iM_notedFor_56) := ⟨rfl, rfl, rfl, rfl, rfl, rfl⟩
theorem kM_notedFor : x_chkB zM_notedFor bM_notedFor = true := by decide +kernel
theorem vM_notedFor : zC zM_notedFor = 0 ∧ zS zM_notedFor = 0 ∧ x_rtc (zR zM_notedFor) = 1 := ⟨rfl, rfl, rfl⟩
def iM_erratum_0 : List xPI := [(.aload_n 0, [], []), (.aload_n 0, [], []), (.iload_n 1, [], []), (.invokevirtual 290, [1, 0, 0, 8, 1618, 1620, 81, 115, 1621], [zM_isPart]), (.ifCond .ne 7, [13], []), (.iconst 1, [], []), (.goto 34, [44], [])]
def iM_erratum_13 : List xPI := [(.iload_n 3, [], []), (.iconst 0, [], []), (.iconst 2, [], []), (.invokestatic 82, [3, 0, 0, 1378, 1379, 115, 1380], [zM_in]), (.ifCond .ne 7, [26], []), (.iconst 2, [], []), (.goto 21, [44], [])]
def iM_erratum_26 : List xPI := [(.aload_n 0, [], []), (.getfield 7, [8, 1, 2, 1243], []), (.iconst 3, [], []), (.iaload, [], []), (.iload_n 1, [], []), (.invokestatic 86, [2, 0, 0, 1524, 1525, 115, 1526], [zM_has]), (.ifCond .ne 7, [43], []), (.iconst 3, [], []), (.goto 4, [44], [])]
def iM_erratum_43 : List xPI := [(.iconst 0, [], []), (.nop, [44], [])]
def iM_erratum_44 : List xPI := [(.invokevirtual 228, [1, 0, 0, 8, 1381, 1383, 44, 115, 1384], [zM_isRefused]), (.ifCond .eq 5, [52], []), (.iconst 0, [], []), (.ireturn, [], [])]
def iM_erratum_52 : List xPI := [(.aload_n 0, [], []), (.iload_n 1, [], []), (.invokevirtual 348, [1, 0, 0, 8, 1689, 1691, 89, 115, 1692], [zM_laysErrata]), (.aload_n 0, [], []), (.iload_n 2, [], []), (.iconst 0, [], []), (.aload_n 0, [], []), (.getfield 339, [8, 30, 0, 1272], []), (.iconst 1, [], []), (.isub, [], []), (.invokestatic 82, [3, 0, 0, 1378, 1379, 115, 1380], [zM_in]), (.ifCond .eq 7, [76], []), (.iconst 0, [], []), (.goto 4, [77], [])]
def iM_erratum_76 : List xPI := [(.iconst 4, [], []), (.nop, [77], [])]
def iM_erratum_77 : List xPI := [(.invokevirtual 228, [1, 0, 0, 8, 1381, 1383, 44, 115, 1384], [zM_isRefused]), (.ifCond .eq 5, [85], []), (.iconst 0, [], []), (.ireturn, [], [])]
def iM_erratum_85 : List xPI := [(.aload_n 0, [], []), (.getfield 51, [8, 29, 2, 1271], []), (.iload_n 2, [], []), (.iaload, [], []), (.istore 4, [], []), (.iload_n 3, [], []), (.ifCond .ne 6, [100], []), (.iload 4, [], []), (.ireturn, [], [])]
def iM_erratum_100 : List xPI := [(.aload_n 0, [], []), (.iload_n 1, [], []), (.iload 4, [], []), (.invokevirtual 345, [2, 0, 0, 8, 1700, 1702, 91, 115, 1703], [zM_kindOf]), (.istore 5, [], []), (.iload_n 3, [], []), (.iconst 1, [], []), (.if_icmp .ne 8, [119], []), (.iload 5, [], []), (.goto 16, [132], [])]
def iM_erratum_119 : List xPI := [(.aload_n 0, [], []), (.iload 5, [], []), (.aload_n 0, [], []), (.iload_n 1, [], []), (.iload 4, [], []), (.invokevirtual 324, [2, 0, 0, 8, 1704, 1706, 92, 115, 1707], [zM_noteFor]), (.invokevirtual 351, [2, 0, 0, 8, 1728, 1730, 94, 115, 1731], [zM_notedFor]), (.nop, [132], [])]
def iM_erratum_132 : List xPI := [(.ireturn, [], [])]
def bM_erratum : xB := [(0, false, iM_erratum_0), (13, false, iM_erratum_13), (26, false, iM_erratum_26), (43, false, iM_erratum_43), (44, false, iM_erratum_44), (52, false, iM_erratum_52), (76, false, iM_erratum_76), (77, false, iM_erratum_77), (85, false, iM_erratum_85), (100, false, iM_erratum_100), (119, false, iM_erratum_119), (132, false, iM_erratum_132)]
theorem eM_erratum : x_blk bM_erratum 0 = some (false, iM_erratum_0) ∧ x_blk bM_erratum 13 = some (false, iM_erratum_13) ∧ x_blk bM_erratum 26 = some (false, iM_erratum_26) ∧ x_blk bM_erratum 43 = some (false, iM_erratum_43) ∧ x_blk bM_erratum 44 = some (false, iM_erratum_44) ∧ x_blk bM_erratum 52 = some (false, iM_erratum_52) ∧ x_blk bM_erratum 76 = some (false, iM_erratum_76) ∧ x_blk bM_erratum 77 = some (false, iM_erratum_77) ∧ x_blk bM_erratum 85 = some (false, iM_erratum_85) ∧ x_blk bM_erratum 100 = some (false, iM_erratum_100) ∧ x_blk bM_erratum 119 = some (false, iM_erratum_119) ∧ x_blk bM_erratum 132 = some (false, iM_erratum_132) := ⟨rfl, rfl, rfl, rfl, rfl, rfl, rfl, rfl, rfl, rfl, rfl, rfl⟩
theorem kM_erratum : x_chkB zM_erratum bM_erratum = true := by decide +kernel
theorem vM_erratum : zC zM_erratum = 0 ∧ zS zM_erratum = 0 ∧ x_rtc (zR zM_erratum) = 1 := ⟨rfl, rfl, rfl⟩
def iM_notedBar_0 : List xPI := [(.iconst 0, [], []), (.istore_n 3, [], []), (.nop, [2], [])]
def iM_notedBar_2 : List xPI := [(.iload_n 3, [], []), (.aload_n 0, [], []), (.getfield 7, [8, 1, 2, 1243], []), (.sipush 365, [], []), (.iload_n 1, [], []), (.iadd, [], []), (.iaload, [], []), (.if_icmp .ge 39, [52], []), (.aload_n 0, [], []), (.getfield 7, [8, 1, 2, 1243], []), (.iload_n 1, [], []), (.iload_n 3, [], []), (.invokestatic 317, [2, 0, 0, 1697, 1698, 115, 1699], [zM_noteAt]), (.iconst 1, [], []), (.iadd, [], []), (.iaload, [], []), (.invokestatic 333, [1, 0, 0, 1718, 1719, 115, 1720], [zM_letterIn]), (.iload_n 2, [], []), (.if_icmp .ne 14, [46], []), (.aload_n 0, [], []), (.getfield 7, [8, 1, 2, 1243], []), (.iload_n 1, [], []), (.iload_n 3, [], []), (.invokestatic 317, [2, 0, 0, 1697, 1698, 115, 1699], [zM_noteAt]), (.iaload, [], []), (.ireturn, [], [])]
def iM_notedBar_46 : List xPI := [(.iinc 3 1, [], []), (.goto (-47), [2], [])]
def iM_notedBar_52 : List xPI := [(.iconst (-1), [], []), (.ireturn, [], [])]
def bM_notedBar : xB := [(0, false, iM_notedBar_0), (2, true, iM_notedBar_2), (46, false, iM_notedBar_46), (52, false, iM_notedBar_52)]
theorem eM_notedBar : x_blk bM_notedBar 0 = some (false, iM_notedBar_0) ∧ x_blk bM_notedBar 2 = some (true, iM_notedBar_2) ∧ x_blk bM_notedBar 46 = some (false, iM_notedBar_46) ∧ x_blk bM_notedBar 52 = some (false, iM_notedBar_52) := ⟨rfl, rfl, rfl, rfl⟩
theorem kM_notedBar : x_chkB zM_notedBar bM_notedBar = true := by decide +kernel
theorem vM_notedBar : zC zM_notedBar = 0 ∧ zS zM_notedBar = 0 ∧ x_rtc (zR zM_notedBar) = 1 := ⟨rfl, rfl, rfl⟩
def iM_misled_0 : List xPI := [(.aload_n 0, [], []), (.iload_n 1, [], []), (.iconst 1, [], []), (.bipush 40, [], []), (.invokestatic 82, [3, 0, 0, 1378, 1379, 115, 1380], [zM_in]), (.ifCond .eq 7, [15], []), (.iconst 0, [], []), (.goto 4, [16], [])]
def iM_misled_15 : List xPI := [(.iconst 1, [], []), (.nop, [16], [])]
def iM_misled_16 : List xPI := [(.invokevirtual 228, [1, 0, 0, 8, 1381, 1383, 44, 115, 1384], [zM_isRefused]), (.ifCond .eq 5, [24], []), (.iconst 0, [], []), (.ireturn, [], [])]
def iM_misled_24 : List xPI := [(.aload_n 0, [], []), (.invokevirtual 258, [0, 0, 0, 8, 1508, 1510, 67, 115, 1511], [zM_looks]), (.aload_n 0, [], []), (.iload_n 1, [], []), (.invokevirtual 276, [1, 0, 0, 8, 1590, 1592, 78, 115, 1593], [zM_isMark]), (.ifCond .eq 24, [57], []), (.aload_n 0, [], []), (.iload_n 1, [], []), (.invokevirtual 279, [1, 0, 0, 8, 1594, 1596, 79, 115, 1597], [zM_counts]), (.ifCond .eq 16, [57], []), (.aload_n 0, [], []), (.aload_n 0, [], []), (.getfield 39, [8, 23, 2, 1265], []), (.iload_n 1, [], []), (.iaload, [], []), (.invokevirtual 75, [1, 0, 0, 8, 1492, 1494, 64, 115, 1495], [zM_idAt]), (.goto 4, [58], [])]
def iM_misled_57 : List xPI := [(.iconst (-1), [], []), (.nop, [58], [])]
def iM_misled_58 : List xPI := [(.istore_n 2, [], []), (.iconst 0, [], []), (.istore_n 3, [], []), (.iconst 0, [], []), (.istore 4, [], []), (.nop, [64], [])]
def iM_misled_64 : List xPI := [(.iload 4, [], []), (.aload_n 0, [], []), (.getfield 7, [8, 1, 2, 1243], []), (.iconst 2, [], []), (.iaload, [], []), (.if_icmp .ge 41, [113], []), (.aload_n 0, [], []), (.getfield 7, [8, 1, 2, 1243], []), (.iconst 3, [], []), (.iaload, [], []), (.iload 4, [], []), (.invokestatic 86, [2, 0, 0, 1524, 1525, 115, 1526], [zM_has]), (.ifCond .eq 21, [107], []), (.aload_n 0, [], []), (.iload 4, [], []), (.iload_n 1, [], []), (.invokevirtual 354, [2, 0, 0, 8, 1736, 1738, 95, 115, 1739], [zM_notedBar]), (.iload_n 2, [], []), (.if_icmp .eq 10, [107], []), (.iload_n 3, [], []), (.iconst 1, [], []), (.iload 4, [], []), (.ishl, [], []), (.ior, [], []), (.istore_n 3, [], []), (.nop, [107], [])]
def iM_misled_107 : List xPI := [(.iinc 4 1, [], []), (.goto (-46), [64], [])]
def iM_misled_113 : List xPI := [(.iload_n 3, [], []), (.ireturn, [], [])]
def bM_misled : xB := [(0, false, iM_misled_0), (15, false, iM_misled_15), (16, false, iM_misled_16), (24, false, iM_misled_24), (57, false, iM_misled_57), (58, false, iM_misled_58), (64, true, iM_misled_64), (107, false, iM_misled_107), (113, false, iM_misled_113)]
theorem eM_misled : x_blk bM_misled 0 = some (false, iM_misled_0) ∧ x_blk bM_misled 15 = some (false, iM_misled_15) ∧ x_blk bM_misled 16 = some (false, iM_misled_16) ∧ x_blk bM_misled 24 = some (false, iM_misled_24) ∧ x_blk bM_misled 57 = some (false, iM_misled_57) ∧ x_blk bM_misled 58 = some (false, iM_misled_58) ∧ x_blk bM_misled 64 = some (true, iM_misled_64) ∧ x_blk bM_misled 107 = some (false, iM_misled_107) ∧ x_blk bM_misled 113 = some (false, iM_misled_113) := ⟨rfl, rfl, rfl, rfl, rfl, rfl, rfl, rfl, rfl⟩
theorem kM_misled : x_chkB zM_misled bM_misled = true := by decide +kernel
theorem vM_misled : zC zM_misled = 0 ∧ zS zM_misled = 0 ∧ x_rtc (zR zM_misled) = 1 := ⟨rfl, rfl, rfl⟩
def iM_remembers_0 : List xPI := [(.aload_n 0, [], []), (.getfield 72, [8, 5, 0, 1247], []), (.bipush 10, [], []), (.if_icmp .ne 46, [52], []), (.sipush 2171, [], []), (.istore_n 1, [], []), (.nop, [13], [])]
def iM_remembers_13 : List xPI := [(.iload_n 1, [], []), (.sipush 21710, [], []), (.if_icmp .ge 25, [42], []), (.aload_n 0, [], []), (.getfield 16, [8, 3, 2, 1245], []), (.iload_n 1, [], []), (.sipush 2171, [], []), (.isub, [], []), (.aload_n 0, [], []), (.getfield 16, [8, 3, 2, 1245], []), (.iload_n 1, [], []), (.iaload, [], []), (.iastore, [], []), (.iinc 1 1, [], []), (.goto (-26), [13], [])]
def iM_remembers_42 : List xPI := [(.aload_n 0, [], []), (.aload_n 0, [], []), (.getfield 72, [8, 5, 0, 1247], []), (.iconst 1, [], []), (.isub, [], []), (.putfield 72, [8, 5, 0, 1247], []), (.nop, [52], [])]
def iM_remembers_52 : List xPI := [(.iconst 0, [], []), (.istore_n 1, [], []), (.nop, [54], [])]
def iM_remembers_54 : List xPI := [(.iload_n 1, [], []), (.sipush 2171, [], []), (.if_icmp .ge 30, [88], []), (.aload_n 0, [], []), (.getfield 16, [8, 3, 2, 1245], []), (.sipush 2171, [], []), (.aload_n 0, [], []), (.getfield 72, [8, 5, 0, 1247], []), (.imul, [], []), (.iload_n 1, [], []), (.iadd, [], []), (.aload_n 0, [], []), (.getfield 7, [8, 1, 2, 1243], []), (.iload_n 1, [], []), (.iaload, [], []), (.iastore, [], []), (.iinc 1 1, [], []), (.goto (-31), [54], [])]
def iM_remembers_88 : List xPI := [(.aload_n 0, [], []), (.aload_n 0, [], []), (.getfield 72, [8, 5, 0, 1247], []), (.iconst 1, [], []), (.iadd, [], []), (.putfield 72, [8, 5, 0, 1247], []), (.return_, [], [])]
def bM_remembers : xB := [(0, false, iM_remembers_0), (13, true, iM_remembers_13), (42, false, iM_remembers_42), (52, false, iM_remembers_52), (54, true, iM_remembers_54), (88, false, iM_remembers_88)]
theorem eM_remembers : x_blk bM_remembers 0 = some (false, iM_remembers_0) ∧ x_blk bM_remembers 13 = some (true, iM_remembers_13) ∧ x_blk bM_remembers 42 = some (false, iM_remembers_42) ∧ x_blk bM_remembers 52 = some (false, iM_remembers_52) ∧ x_blk bM_remembers 54 = some (true, iM_remembers_54) ∧ x_blk bM_remembers 88 = some (false, iM_remembers_88) := ⟨rfl, rfl, rfl, rfl, rfl, rfl⟩
theorem kM_remembers : x_chkB zM_remembers bM_remembers = true := by decide +kernel
theorem vM_remembers : zC zM_remembers = 0 ∧ zS zM_remembers = 0 ∧ x_rtc (zR zM_remembers) = 0 := ⟨rfl, rfl, rfl⟩
def iM_insert_0 : List xPI := [(.iload_n 2, [], []), (.iconst 1, [], []), (.bipush 20, [], []), (.invokestatic 82, [3, 0, 0, 1378, 1379, 115, 1380], [zM_in]), (.ifCond .eq 17, [24], []), (.iload_n 3, [], []), (.iconst 1, [], []), (.bipush 12, [], []), (.invokestatic 82, [3, 0, 0, 1378, 1379, 115, 1380], [zM_in]), (.ifCond .eq 7, [24], []), (.iconst 1, [], []), (.goto 4, [25], [])]
def iM_insert_24 : List xPI := [(.iconst 0, [], []), (.nop, [25], [])]
def iM_insert_25 : List xPI := [(.istore 4, [], []), (.aload_n 0, [], []), (.iload_n 1, [], []), (.iconst (-1), [], []), (.if_icmp .eq 15, [45], []), (.aload_n 0, [], []), (.iload_n 1, [], []), (.invokevirtual 255, [1, 0, 0, 8, 1500, 1502, 65, 115, 1503], [zM_isBar]), (.ifCond .ne 7, [45], []), (.iconst 1, [], []), (.goto 31, [73], [])]
def iM_insert_45 : List xPI := [(.iload 4, [], []), (.ifCond .ne 7, [54], []), (.iconst 2, [], []), (.goto 22, [73], [])]
def iM_insert_54 : List xPI := [(.aload_n 0, [], []), (.getfield 7, [8, 1, 2, 1243], []), (.iconst 0, [], []), (.iaload, [], []), (.iload_n 2, [], []), (.iadd, [], []), (.sipush 150, [], []), (.if_icmp .le 7, [72], []), (.iconst 3, [], []), (.goto 4, [73], [])]
def iM_insert_72 : List xPI := [(.iconst 0, [], []), (.nop, [73], [])]
def iM_insert_73 : List xPI := [(.invokevirtual 228, [1, 0, 0, 8, 1381, 1383, 44, 115, 1384], [zM_isRefused]), (.ifCond .eq 5, [81], []), (.iconst 0, [], []), (.ireturn, [], [])]
def iM_insert_81 : List xPI := [(.aload_n 0, [], []), (.invokevirtual 357, [0, 0, 0, 8, 1744, 1746, 96, 115, 1747], [zM_remembers]), (.iload_n 1, [], []), (.iconst (-1), [], []), (.if_icmp .ne 7, [94], []), (.iconst 0, [], []), (.goto 10, [101], [])]
def iM_insert_94 : List xPI := [(.aload_n 0, [], []), (.iload_n 1, [], []), (.invokevirtual 79, [1, 0, 0, 8, 1504, 1506, 66, 115, 1507], [zM_placeOf]), (.iconst 1, [], []), (.iadd, [], []), (.nop, [101], [])]
def iM_insert_101 : List xPI := [(.istore 5, [], []), (.aload_n 0, [], []), (.getfield 7, [8, 1, 2, 1243], []), (.iconst 0, [], []), (.iaload, [], []), (.iconst 1, [], []), (.isub, [], []), (.istore 6, [], []), (.nop, [113], [])]
def iM_insert_113 : List xPI := [(.iload 6, [], []), (.iload 5, [], []), (.if_icmp .lt 53, [170], []), (.aload_n 0, [], []), (.getfield 7, [8, 1, 2, 1243], []), (.iconst 4, [], []), (.iload 6, [], []), (.iadd, [], []), (.iload_n 2, [], []), (.iadd, [], []), (.aload_n 0, [], []), (.getfield 7, [8, 1, 2, 1243], []), (.iconst 4, [], []), (.iload 6, [], []), (.iadd, [], []), (.iaload, [], []), (.iastore, [], []), (.aload_n 0, [], []), (.getfield 7, [8, 1, 2, 1243], []), (.sipush 154, [], []), (.iload 6, [], []), (.iadd, [], []), (.iload_n 2, [], []), (.iadd, [], []), (.aload_n 0, [], []), (.getfield 7, [8, 1, 2, 1243], []), (.sipush 154, [], []), (.iload 6, [], []), (.iadd, [], []), (.iaload, [], []), (.iastore, [], []), (.iinc 6 (-1), [], []), (.goto (-54), [113], [])]
def iM_insert_170 : List xPI := [(.iconst 0, [], []), (.istore 6, [], []), (.nop, [173], [])]
def iM_insert_173 : List xPI := [(.iload 6, [], []), (.iload_n 2, [], []), (.if_icmp .ge 48, [224], []), (.aload_n 0, [], []), (.getfield 7, [8, 1, 2, 1243], []), (.iconst 4, [], []), (.iload 5, [], []), (.iadd, [], []), (.iload 6, [], []), (.iadd, [], []), (.aload_n 0, [], []), (.getfield 69, [8, 6, 0, 1248], []), (.iload 6, [], []), (.iadd, [], []), (.iastore, [], []), (.aload_n 0, [], []), (.getfield 7, [8, 1, 2, 1243], []), (.sipush 154, [], []), (.iload 5, [], []), (.iadd, [], []), (.iload 6, [], []), (.iadd, [], []), (.iload_n 3, [], []), (.iconst 4, [], []), (.iconst 1, [], []), (.invokestatic 165, [3, 0, 0, 1449, 1450, 115, 1451], [zM_withBit]), (.iastore, [], []), (.iinc 6 1, [], []), (.goto (-48), [173], [])]
def iM_insert_224 : List xPI := [(.aload_n 0, [], []), (.getfield 7, [8, 1, 2, 1243], []), (.iconst 0, [], []), (.aload_n 0, [], []), (.getfield 7, [8, 1, 2, 1243], []), (.iconst 0, [], []), (.iaload, [], []), (.iload_n 2, [], []), (.iadd, [], []), (.iastore, [], []), (.aload_n 0, [], []), (.aload_n 0, [], []), (.getfield 69, [8, 6, 0, 1248], []), (.iload_n 2, [], []), (.iadd, [], []), (.putfield 69, [8, 6, 0, 1248], []), (.aload_n 0, [], []), (.getfield 69, [8, 6, 0, 1248], []), (.iload_n 2, [], []), (.isub, [], []), (.ireturn, [], [])]
def bM_insert : xB := [(0, false, iM_insert_0), (24, false, iM_insert_24), (25, false, iM_insert_25), (45, false, iM_insert_45), (54, false, iM_insert_54), (72, false, iM_insert_72), (73, false, iM_insert_73), (81, false, iM_insert_81), (94, false, iM_insert_94), (101, false, iM_insert_101), (113, true, iM_insert_113), (170, false, iM_insert_170), (173, true, iM_insert_173), (224, false, iM_insert_224)]
theorem eM_insert : x_blk bM_insert 0 = some (false, iM_insert_0) ∧ x_blk bM_insert 24 = some (false, iM_insert_24) ∧ x_blk bM_insert 25 = some (false, iM_insert_25) ∧ x_blk bM_insert 45 = some (false, iM_insert_45) ∧ x_blk bM_insert 54 = some (false, iM_insert_54) ∧ x_blk bM_insert 72 = some (false, iM_insert_72) ∧ x_blk bM_insert 73 = some (false, iM_insert_73) ∧ x_blk bM_insert 81 = some (false, iM_insert_81) ∧ x_blk bM_insert 94 = some (false, iM_insert_94) ∧ x_blk bM_insert 101 = some (false, iM_insert_101) ∧ x_blk bM_insert 113 = some (true, iM_insert_113) ∧ x_blk bM_insert 170 = some (false, iM_insert_170) ∧ x_blk bM_insert 173 = some (true, iM_insert_173) ∧ x_blk bM_insert 224 = some (false, iM_insert_224) := ⟨rfl, rfl, rfl, rfl, rfl, rfl, rfl, rfl, rfl, rfl, rfl, rfl, rfl, rfl⟩
theorem kM_insert : x_chkB zM_insert bM_insert = true := by decide +kernel
theorem vM_insert : zC zM_insert = 0 ∧ zS zM_insert = 0 ∧ x_rtc (zR zM_insert) = 1 := ⟨rfl, rfl, rfl⟩
def iM_isEndOfCut_0 : List xPI := [(.iconst 0, [], []), (.istore_n 2, [], []), (.nop, [2], [])]
def iM_isEndOfCut_2 : List xPI := [(.iload_n 2, [], []), (.bipush 10, [], []), (.if_icmp .ge 52, [57], []), (.aload_n 0, [], []), (.getfield 7, [8, 1, 2, 1243], []), (.iconst 1, [], []), (.iaload, [], []), (.iload_n 2, [], []), (.invokestatic 86, [2, 0, 0, 1524, 1525, 115, 1526], [zM_has]), (.ifCond .eq 33, [51], []), (.aload_n 0, [], []), (.getfield 7, [8, 1, 2, 1243], []), (.sipush 304, [], []), (.iload_n 2, [], []), (.iadd, [], []), (.iaload, [], []), (.iload_n 1, [], []), (.if_icmp .eq 17, [49], []), (.aload_n 0, [], []), (.getfield 7, [8, 1, 2, 1243], []), (.sipush 314, [], []), (.iload_n 2, [], []), (.iadd, [], []), (.iaload, [], []), (.iload_n 1, [], []), (.if_icmp .ne 5, [51], []), (.nop, [49], [])]
def iM_isEndOfCut_49 : List xPI := [(.iconst 1, [], []), (.ireturn, [], [])]
def iM_isEndOfCut_51 : List xPI := [(.iinc 2 1, [], []), (.goto (-52), [2], [])]
def iM_isEndOfCut_57 : List xPI := [(.iconst 0, [], []), (.ireturn, [], [])]
def bM_isEndOfCut : xB := [(0, false, iM_isEndOfCut_0), (2, true, iM_isEndOfCut_2), (49, false, iM_isEndOfCut_49), (51, false, iM_isEndOfCut_51), (57, false, iM_isEndOfCut_57)]
theorem eM_isEndOfCut : x_blk bM_isEndOfCut 0 = some (false, iM_isEndOfCut_0) ∧ x_blk bM_isEndOfCut 2 = some (true, iM_isEndOfCut_2) ∧ x_blk bM_isEndOfCut 49 = some (false, iM_isEndOfCut_49) ∧ x_blk bM_isEndOfCut 51 = some (false, iM_isEndOfCut_51) ∧ x_blk bM_isEndOfCut 57 = some (false, iM_isEndOfCut_57) := ⟨rfl, rfl, rfl, rfl, rfl⟩
theorem kM_isEndOfCut : x_chkB zM_isEndOfCut bM_isEndOfCut = true := by decide +kernel
theorem vM_isEndOfCut : zC zM_isEndOfCut = 0 ∧ zS zM_isEndOfCut = 0 ∧ x_rtc (zR zM_isEndOfCut) = 2 := ⟨rfl, rfl, rfl⟩
def iM_wrongErase_0 : List xPI := [(.aload_n 0, [], []), (.iload_n 1, [], []), (.invokevirtual 255, [1, 0, 0, 8, 1500, 1502, 65, 115, 1503], [zM_isBar]), (.ifCond .ne 5, [10], []), (.iconst 1, [], []), (.ireturn, [], [])]
def iM_wrongErase_10 : List xPI := [(.aload_n 0, [], []), (.aload_n 0, [], []), (.iload_n 1, [], []), (.invokevirtual 79, [1, 0, 0, 8, 1504, 1506, 66, 115, 1507], [zM_placeOf]), (.invokevirtual 237, [1, 0, 0, 8, 1516, 1518, 69, 115, 1519], [zM_isInserted]), (.ifCond .eq 19, [38], []), (.aload_n 0, [], []), (.iload_n 1, [], []), (.invokevirtual 267, [1, 0, 0, 8, 1546, 1548, 75, 115, 1549], [zM_letterOn]), (.ifCond .gt 11, [38], []), (.aload_n 0, [], []), (.iload_n 1, [], []), (.invokevirtual 360, [1, 0, 0, 8, 1756, 1758, 98, 115, 1759], [zM_isEndOfCut]), (.ifCond .eq 7, [42], []), (.nop, [38], [])]
def iM_wrongErase_38 : List xPI := [(.iconst 2, [], []), (.goto 4, [43], [])]
def iM_wrongErase_42 : List xPI := [(.iconst 0, [], []), (.nop, [43], [])]
def iM_wrongErase_43 : List xPI := [(.ireturn, [], [])]
def bM_wrongErase : xB := [(0, false, iM_wrongErase_0), (10, false, iM_wrongErase_10), (38, false, iM_wrongErase_38), (42, false, iM_wrongErase_42), (43, false, iM_wrongErase_43)]
theorem eM_wrongErase : x_blk bM_wrongErase 0 = some (false, iM_wrongErase_0) ∧ x_blk bM_wrongErase 10 = some (false, iM_wrongErase_10) ∧ x_blk bM_wrongErase 38 = some (false, iM_wrongErase_38) ∧ x_blk bM_wrongErase 42 = some (false, iM_wrongErase_42) ∧ x_blk bM_wrongErase 43 = some (false, iM_wrongErase_43) := ⟨rfl, rfl, rfl, rfl, rfl⟩
theorem kM_wrongErase : x_chkB zM_wrongErase bM_wrongErase = true := by decide +kernel
theorem vM_wrongErase : zC zM_wrongErase = 0 ∧ zS zM_wrongErase = 0 ∧ x_rtc (zR zM_wrongErase) = 1 := ⟨rfl, rfl, rfl⟩
def iM_erase_0 : List xPI := [(.aload_n 0, [], []), (.aload_n 0, [], []), (.iload_n 1, [], []), (.invokevirtual 363, [1, 0, 0, 8, 1752, 1754, 97, 115, 1755], [zM_wrongErase]), (.invokevirtual 228, [1, 0, 0, 8, 1381, 1383, 44, 115, 1384], [zM_isRefused]), (.ifCond .eq 5, [14], []), (.iconst 0, [], []), (.ireturn, [], [])]
def iM_erase_14 : List xPI := [(.aload_n 0, [], []), (.invokevirtual 357, [0, 0, 0, 8, 1744, 1746, 96, 115, 1747], [zM_remembers]), (.aload_n 0, [], []), (.iload_n 1, [], []), (.invokevirtual 79, [1, 0, 0, 8, 1504, 1506, 66, 115, 1507], [zM_placeOf]), (.istore_n 2, [], []), (.aload_n 0, [], []), (.getfield 7, [8, 1, 2, 1243], []), (.iconst 0, [], []), (.aload_n 0, [], []), (.getfield 7, [8, 1, 2, 1243], []), (.iconst 0, [], []), (.iaload, [], []), (.iconst 1, [], []), (.isub, [], []), (.iastore, [], []), (.iload_n 2, [], []), (.istore_n 3, [], []), (.nop, [40], [])]
def iM_erase_40 : List xPI := [(.iload_n 3, [], []), (.aload_n 0, [], []), (.getfield 7, [8, 1, 2, 1243], []), (.iconst 0, [], []), (.iaload, [], []), (.if_icmp .ge 49, [96], []), (.aload_n 0, [], []), (.getfield 7, [8, 1, 2, 1243], []), (.iconst 4, [], []), (.iload_n 3, [], []), (.iadd, [], []), (.aload_n 0, [], []), (.getfield 7, [8, 1, 2, 1243], []), (.iconst 4, [], []), (.iload_n 3, [], []), (.iadd, [], []), (.iconst 1, [], []), (.iadd, [], []), (.iaload, [], []), (.iastore, [], []), (.aload_n 0, [], []), (.getfield 7, [8, 1, 2, 1243], []), (.sipush 154, [], []), (.iload_n 3, [], []), (.iadd, [], []), (.aload_n 0, [], []), (.getfield 7, [8, 1, 2, 1243], []), (.sipush 154, [], []), (.iload_n 3, [], []), (.iadd, [], []), (.iconst 1, [], []), (.iadd, [], []), (.iaload, [], []), (.iastore, [], []), (.iinc 3 1, [], []), (.goto (-53), [40], [])]
def iM_erase_96 : List xPI := [(.aload_n 0, [], []), (.getfield 7, [8, 1, 2, 1243], []), (.iconst 0, [], []), (.iaload, [], []), (.ireturn, [], [])]
def bM_erase : xB := [(0, false, iM_erase_0), (14, false, iM_erase_14), (40, true, iM_erase_40), (96, false, iM_erase_96)]
theorem eM_erase : x_blk bM_erase 0 = some (false, iM_erase_0) ∧ x_blk bM_erase 14 = some (false, iM_erase_14) ∧ x_blk bM_erase 40 = some (true, iM_erase_40) ∧ x_blk bM_erase 96 = some (false, iM_erase_96) := ⟨rfl, rfl, rfl, rfl⟩
theorem kM_erase : x_chkB zM_erase bM_erase = true := by decide +kernel
theorem vM_erase : zC zM_erase = 0 ∧ zS zM_erase = 0 ∧ x_rtc (zR zM_erase) = 1 := ⟨rfl, rfl, rfl⟩
def iM_freeCut_0 : List xPI := [(.iconst 0, [], []), (.istore_n 1, [], []), (.nop, [2], [])]
def iM_freeCut_2 : List xPI := [(.iload_n 1, [], []), (.bipush 10, [], []), (.if_icmp .ge 23, [28], []), (.aload_n 0, [], []), (.getfield 7, [8, 1, 2, 1243], []), (.iconst 1, [], []), (.iaload, [], []), (.iload_n 1, [], []), (.invokestatic 86, [2, 0, 0, 1524, 1525, 115, 1526], [zM_has]), (.ifCond .eq 10, [28], []), (.iload_n 1, [], []), (.iconst 1, [], []), (.iadd, [], []), (.istore_n 1, [], []), (.goto (-23), [2], [])]
def iM_freeCut_28 : List xPI := [(.iload_n 1, [], []), (.ireturn, [], [])]
def bM_freeCut : xB := [(0, false, iM_freeCut_0), (2, true, iM_freeCut_2), (28, false, iM_freeCut_28)]
theorem eM_freeCut : x_blk bM_freeCut 0 = some (false, iM_freeCut_0) ∧ x_blk bM_freeCut 2 = some (true, iM_freeCut_2) ∧ x_blk bM_freeCut 28 = some (false, iM_freeCut_28) := ⟨rfl, rfl, rfl⟩
theorem kM_freeCut : x_chkB zM_freeCut bM_freeCut = true := by decide +kernel
theorem vM_freeCut : zC zM_freeCut = 0 ∧ zS zM_freeCut = 0 ∧ x_rtc (zR zM_freeCut) = 1 := ⟨rfl, rfl, rfl⟩
def iM_makeCut_0 : List xPI := [(.aload_n 0, [], []), (.invokevirtual 366, [0, 0, 0, 8, 1764, 1766, 99, 115, 1767], [zM_freeCut]), (.istore_n 3, [], []), (.aload_n 0, [], []), (.aload_n 0, [], []), (.iload_n 1, [], []), (.invokevirtual 255, [1, 0, 0, 8, 1500, 1502, 65, 115, 1503], [zM_isBar]), (.ifCond .eq 11, [22], []), (.aload_n 0, [], []), (.iload_n 2, [], []), (.invokevirtual 255, [1, 0, 0, 8, 1500, 1502, 65, 115, 1503], [zM_isBar]), (.ifCond .ne 7, [26], []), (.nop, [22], [])]
def iM_makeCut_22 : List xPI := [(.iconst 1, [], []), (.goto 31, [54], [])]
def iM_makeCut_26 : List xPI := [(.aload_n 0, [], []), (.iload_n 1, [], []), (.invokevirtual 79, [1, 0, 0, 8, 1504, 1506, 66, 115, 1507], [zM_placeOf]), (.aload_n 0, [], []), (.iload_n 2, [], []), (.invokevirtual 79, [1, 0, 0, 8, 1504, 1506, 66, 115, 1507], [zM_placeOf]), (.if_icmp .le 7, [43], []), (.iconst 2, [], []), (.goto 14, [54], [])]
def iM_makeCut_43 : List xPI := [(.iload_n 3, [], []), (.bipush 10, [], []), (.if_icmp .ne 7, [53], []), (.iconst 3, [], []), (.goto 4, [54], [])]
def iM_makeCut_53 : List xPI := [(.iconst 0, [], []), (.nop, [54], [])]
def iM_makeCut_54 : List xPI := [(.invokevirtual 228, [1, 0, 0, 8, 1381, 1383, 44, 115, 1384], [zM_isRefused]), (.ifCond .eq 5, [62], []), (.iconst 0, [], []), (.ireturn, [], [])]
def iM_makeCut_62 : List xPI := [(.aload_n 0, [], []), (.invokevirtual 357, [0, 0, 0, 8, 1744, 1746, 96, 115, 1747], [zM_remembers]), (.aload_n 0, [], []), (.getfield 7, [8, 1, 2, 1243], []), (.iconst 1, [], []), (.aload_n 0, [], []), (.getfield 7, [8, 1, 2, 1243], []), (.iconst 1, [], []), (.iaload, [], []), (.iconst 1, [], []), (.iload_n 3, [], []), (.ishl, [], []), (.ior, [], []), (.iastore, [], []), (.aload_n 0, [], []), (.getfield 7, [8, 1, 2, 1243], []), (.sipush 304, [], []), (.iload_n 3, [], []), (.iadd, [], []), (.iload_n 1, [], []), (.iastore, [], []), (.aload_n 0, [], []), (.getfield 7, [8, 1, 2, 1243], []), (.sipush 314, [], []), (.iload_n 3, [], []), (.iadd, [], []), (.iload_n 2, [], []), (.iastore, [], []), (.iload_n 3, [], []), (.ireturn, [], [])]
def bM_makeCut : xB := [(0, false, iM_makeCut_0), (22, false, iM_makeCut_22), (26, false, iM_makeCut_26), (43, false, iM_makeCut_43), (53, false, iM_makeCut_53), (54, false, iM_makeCut_54), (62, false, iM_makeCut_62)]
theorem eM_makeCut : x_blk bM_makeCut 0 = some (false, iM_makeCut_0) ∧ x_blk bM_makeCut 22 = some (false, iM_makeCut_22) ∧ x_blk bM_makeCut 26 = some (false, iM_makeCut_26) ∧ x_blk bM_makeCut 43 = some (false, iM_makeCut_43) ∧ x_blk bM_makeCut 53 = some (false, iM_makeCut_53) ∧ x_blk bM_makeCut 54 = some (false, iM_makeCut_54) ∧ x_blk bM_makeCut 62 = some (false, iM_makeCut_62) := ⟨rfl, rfl, rfl, rfl, rfl, rfl, rfl⟩
theorem kM_makeCut : x_chkB zM_makeCut bM_makeCut = true := by decide +kernel
theorem vM_makeCut : zC zM_makeCut = 0 ∧ zS zM_makeCut = 0 ∧ x_rtc (zR zM_makeCut) = 1 := ⟨rfl, rfl, rfl⟩
def iM_openCut_0 : List xPI := [(.aload_n 0, [], []), (.aload_n 0, [], []), (.iload_n 1, [], []), (.invokevirtual 270, [1, 0, 0, 8, 1570, 1572, 76, 115, 1573], [zM_isCut]), (.ifCond .eq 7, [13], []), (.iconst 0, [], []), (.goto 4, [14], [])]
def iM_openCut_13 : List xPI := [(.iconst 1, [], []), (.nop, [14], [])]
def iM_openCut_14 : List xPI := [(.invokevirtual 228, [1, 0, 0, 8, 1381, 1383, 44, 115, 1384], [zM_isRefused]), (.ifCond .eq 5, [22], []), (.iconst 0, [], []), (.ireturn, [], [])]
def iM_openCut_22 : List xPI := [(.aload_n 0, [], []), (.invokevirtual 357, [0, 0, 0, 8, 1744, 1746, 96, 115, 1747], [zM_remembers]), (.aload_n 0, [], []), (.getfield 7, [8, 1, 2, 1243], []), (.iconst 1, [], []), (.aload_n 0, [], []), (.getfield 7, [8, 1, 2, 1243], []), (.iconst 1, [], []), (.iaload, [], []), (.iconst 1, [], []), (.iload_n 1, [], []), (.ishl, [], []), (.iconst (-1), [], []), (.ixor, [], []), (.iand, [], []), (.iastore, [], []), (.aload_n 0, [], []), (.invokevirtual 258, [0, 0, 0, 8, 1508, 1510, 67, 115, 1511], [zM_looks]), (.aload_n 0, [], []), (.getfield 240, [8, 26, 0, 1268], []), (.ireturn, [], [])]
def bM_openCut : xB := [(0, false, iM_openCut_0), (13, false, iM_openCut_13), (14, false, iM_openCut_14), (22, false, iM_openCut_22)]
theorem eM_openCut : x_blk bM_openCut 0 = some (false, iM_openCut_0) ∧ x_blk bM_openCut 13 = some (false, iM_openCut_13) ∧ x_blk bM_openCut 14 = some (false, iM_openCut_14) ∧ x_blk bM_openCut 22 = some (false, iM_openCut_22) := ⟨rfl, rfl, rfl, rfl⟩
theorem kM_openCut : x_chkB zM_openCut bM_openCut = true := by decide +kernel
theorem vM_openCut : zC zM_openCut = 0 ∧ zS zM_openCut = 0 ∧ x_rtc (zR zM_openCut) = 1 := ⟨rfl, rfl, rfl⟩
def iM_wrongMark_0 : List xPI := [(.aload_n 0, [], []), (.iload_n 2, [], []), (.invokevirtual 255, [1, 0, 0, 8, 1500, 1502, 65, 115, 1503], [zM_isBar]), (.ifCond .ne 5, [10], []), (.iconst 1, [], []), (.ireturn, [], [])]
def iM_wrongMark_10 : List xPI := [(.iload_n 1, [], []), (.iconst 1, [], []), (.bipush 40, [], []), (.invokestatic 82, [3, 0, 0, 1378, 1379, 115, 1380], [zM_in]), (.ifCond .ne 5, [22], []), (.iconst 2, [], []), (.ireturn, [], [])]
def iM_wrongMark_22 : List xPI := [(.aload_n 0, [], []), (.iload_n 2, [], []), (.invokevirtual 267, [1, 0, 0, 8, 1546, 1548, 75, 115, 1549], [zM_letterOn]), (.istore_n 3, [], []), (.iload_n 3, [], []), (.ifCond .le 12, [41], []), (.iload_n 3, [], []), (.iload_n 1, [], []), (.if_icmp .eq 7, [41], []), (.iconst 1, [], []), (.goto 4, [42], [])]
def iM_wrongMark_41 : List xPI := [(.iconst 0, [], []), (.nop, [42], [])]
def iM_wrongMark_42 : List xPI := [(.istore 4, [], []), (.iload 4, [], []), (.ifCond .ne 20, [66], []), (.aload_n 0, [], []), (.iload_n 1, [], []), (.invokevirtual 276, [1, 0, 0, 8, 1590, 1592, 78, 115, 1593], [zM_isMark]), (.ifCond .ne 16, [70], []), (.aload_n 0, [], []), (.invokevirtual 273, [0, 0, 0, 8, 1582, 1584, 77, 115, 1585], [zM_marksNow]), (.bipush 20, [], []), (.if_icmp .ne 7, [70], []), (.nop, [66], [])]
def iM_wrongMark_66 : List xPI := [(.iconst 3, [], []), (.goto 4, [71], [])]
def iM_wrongMark_70 : List xPI := [(.iconst 0, [], []), (.nop, [71], [])]
def iM_wrongMark_71 : List xPI := [(.ireturn, [], [])]
def bM_wrongMark : xB := [(0, false, iM_wrongMark_0), (10, false, iM_wrongMark_10), (22, false, iM_wrongMark_22), (41, false, iM_wrongMark_41), (42, false, iM_wrongMark_42), (66, false, iM_wrongMark_66), (70, false, iM_wrongMark_70), (71, false, iM_wrongMark_71)]
theorem eM_wrongMark : x_blk bM_wrongMark 0 = some (false, iM_wrongMark_0) ∧ x_blk bM_wrongMark 10 = some (false, iM_wrongMark_10) ∧ x_blk bM_wrongMark 22 = some (false, iM_wrongMark_22) ∧ x_blk bM_wrongMark 41 = some (false, iM_wrongMark_41) ∧ x_blk bM_wrongMark 42 = some (false, iM_wrongMark_42) ∧ x_blk bM_wrongMark 66 = some (false, iM_wrongMark_66) ∧ x_blk bM_wrongMark 70 = some (false, iM_wrongMark_70) ∧ x_blk bM_wrongMark 71 = some (false, iM_wrongMark_71) := ⟨rfl, rfl, rfl, rfl, rfl, rfl, rfl, rfl⟩
theorem kM_wrongMark : x_chkB zM_wrongMark bM_wrongMark = true := by decide +kernel
theorem vM_wrongMark : zC zM_wrongMark = 0 ∧ zS zM_wrongMark = 0 ∧ x_rtc (zR zM_wrongMark) = 1 := ⟨rfl, rfl, rfl⟩
def iM_putMark_0 : List xPI := [(.aload_n 0, [], []), (.aload_n 0, [], []), (.iload_n 1, [], []), (.iload_n 2, [], []), (.invokevirtual 369, [2, 0, 0, 8, 1776, 1778, 100, 115, 1779], [zM_wrongMark]), (.invokevirtual 228, [1, 0, 0, 8, 1381, 1383, 44, 115, 1384], [zM_isRefused]), (.ifCond .eq 5, [15], []), (.iconst 0, [], []), (.ireturn, [], [])]
def iM_putMark_15 : List xPI := [(.aload_n 0, [], []), (.invokevirtual 357, [0, 0, 0, 8, 1744, 1746, 96, 115, 1747], [zM_remembers]), (.aload_n 0, [], []), (.getfield 7, [8, 1, 2, 1243], []), (.sipush 324, [], []), (.iload_n 1, [], []), (.iadd, [], []), (.iaload, [], []), (.istore_n 3, [], []), (.aload_n 0, [], []), (.getfield 7, [8, 1, 2, 1243], []), (.sipush 324, [], []), (.iload_n 1, [], []), (.iadd, [], []), (.iload_n 2, [], []), (.iastore, [], []), (.iload_n 3, [], []), (.ireturn, [], [])]
def bM_putMark : xB := [(0, false, iM_putMark_0), (15, false, iM_putMark_15)]
theorem eM_putMark : x_blk bM_putMark 0 = some (false, iM_putMark_0) ∧ x_blk bM_putMark 15 = some (false, iM_putMark_15) := ⟨rfl, rfl⟩
theorem kM_putMark : x_chkB zM_putMark bM_putMark = true := by decide +kernel
theorem vM_putMark : zC zM_putMark = 0 ∧ zS zM_putMark = 0 ∧ x_rtc (zR zM_putMark) = 1 := ⟨rfl, rfl, rfl⟩
def iM_removeMark_0 : List xPI := [(.aload_n 0, [], []), (.aload_n 0, [], []), (.iload_n 1, [], []), (.invokevirtual 276, [1, 0, 0, 8, 1590, 1592, 78, 115, 1593], [zM_isMark]), (.ifCond .eq 7, [13], []), (.iconst 0, [], []), (.goto 4, [14], [])]
def iM_removeMark_13 : List xPI := [(.iconst 1, [], []), (.nop, [14], [])]
def iM_removeMark_14 : List xPI := [(.invokevirtual 228, [1, 0, 0, 8, 1381, 1383, 44, 115, 1384], [zM_isRefused]), (.ifCond .eq 5, [22], []), (.iconst 0, [], []), (.ireturn, [], [])]
def iM_removeMark_22 : List xPI := [(.aload_n 0, [], []), (.invokevirtual 357, [0, 0, 0, 8, 1744, 1746, 96, 115, 1747], [zM_remembers]), (.aload_n 0, [], []), (.getfield 7, [8, 1, 2, 1243], []), (.sipush 324, [], []), (.iload_n 1, [], []), (.iadd, [], []), (.iconst (-1), [], []), (.iastore, [], []), (.aload_n 0, [], []), (.invokevirtual 273, [0, 0, 0, 8, 1582, 1584, 77, 115, 1585], [zM_marksNow]), (.ireturn, [], [])]
def bM_removeMark : xB := [(0, false, iM_removeMark_0), (13, false, iM_removeMark_13), (14, false, iM_removeMark_14), (22, false, iM_removeMark_22)]
theorem eM_removeMark : x_blk bM_removeMark 0 = some (false, iM_removeMark_0) ∧ x_blk bM_removeMark 13 = some (false, iM_removeMark_13) ∧ x_blk bM_removeMark 14 = some (false, iM_removeMark_14) ∧ x_blk bM_removeMark 22 = some (false, iM_removeMark_22) := ⟨rfl, rfl, rfl, rfl⟩
theorem kM_removeMark : x_chkB zM_removeMark bM_removeMark = true := by decide +kernel
theorem vM_removeMark : zC zM_removeMark = 0 ∧ zS zM_removeMark = 0 ∧ x_rtc (zR zM_removeMark) = 1 := ⟨rfl, rfl, rfl⟩
def iM_reletter_0 : List xPI := [(.aload_n 0, [], []), (.iconst 0, [], []), (.putfield 66, [8, 0, 0, 1242], []), (.aload_n 0, [], []), (.invokevirtual 357, [0, 0, 0, 8, 1744, 1746, 96, 115, 1747], [zM_remembers]), (.iconst 0, [], []), (.istore_n 1, [], []), (.iconst 0, [], []), (.istore_n 2, [], []), (.iconst 0, [], []), (.istore_n 3, [], []), (.nop, [15], [])]
def iM_reletter_15 : List xPI := [(.iload_n 3, [], []), (.aload_n 0, [], []), (.getfield 7, [8, 1, 2, 1243], []), (.iconst 0, [], []), (.iaload, [], []), (.if_icmp .ge 54, [76], []), (.aload_n 0, [], []), (.aload_n 0, [], []), (.iload_n 3, [], []), (.invokevirtual 75, [1, 0, 0, 8, 1492, 1494, 64, 115, 1495], [zM_idAt]), (.invokevirtual 267, [1, 0, 0, 8, 1546, 1548, 75, 115, 1549], [zM_letterOn]), (.istore 4, [], []), (.iload 4, [], []), (.ifCond .le 32, [70], []), (.iload_n 1, [], []), (.iconst 1, [], []), (.iadd, [], []), (.istore_n 1, [], []), (.aload_n 0, [], []), (.getfield 54, [8, 31, 2, 1273], []), (.iload_n 1, [], []), (.aload_n 0, [], []), (.iload_n 3, [], []), (.invokevirtual 75, [1, 0, 0, 8, 1492, 1494, 64, 115, 1495], [zM_idAt]), (.iastore, [], []), (.iload 4, [], []), (.iload_n 1, [], []), (.if_icmp .ne 7, [66], []), (.iload_n 2, [], []), (.goto 6, [69], [])]
def iM_reletter_66 : List xPI := [(.iload_n 2, [], []), (.iconst 1, [], []), (.iadd, [], []), (.nop, [69], [])]
def iM_reletter_69 : List xPI := [(.istore_n 2, [], []), (.nop, [70], [])]
def iM_reletter_70 : List xPI := [(.iinc 3 1, [], []), (.goto (-58), [15], [])]
def iM_reletter_76 : List xPI := [(.iconst 1, [], []), (.istore_n 3, [], []), (.nop, [78], [])]
def iM_reletter_78 : List xPI := [(.iload_n 3, [], []), (.bipush 40, [], []), (.if_icmp .gt 34, [115], []), (.aload_n 0, [], []), (.getfield 7, [8, 1, 2, 1243], []), (.sipush 324, [], []), (.iload_n 3, [], []), (.iadd, [], []), (.iload_n 3, [], []), (.iload_n 1, [], []), (.if_icmp .gt 12, [107], []), (.aload_n 0, [], []), (.getfield 54, [8, 31, 2, 1273], []), (.iload_n 3, [], []), (.iaload, [], []), (.goto 4, [108], [])]
def iM_reletter_107 : List xPI := [(.iconst (-1), [], []), (.nop, [108], [])]
def iM_reletter_108 : List xPI := [(.iastore, [], []), (.iinc 3 1, [], []), (.goto (-34), [78], [])]
def iM_reletter_115 : List xPI := [(.iload_n 2, [], []), (.ireturn, [], [])]
def bM_reletter : xB := [(0, false, iM_reletter_0), (15, true, iM_reletter_15), (66, false, iM_reletter_66), (69, false, iM_reletter_69), (70, false, iM_reletter_70), (76, false, iM_reletter_76), (78, true, iM_reletter_78), (107, false, iM_reletter_107), (108, false, iM_reletter_108), (115, false, iM_reletter_115)]
theorem eM_reletter : x_blk bM_reletter 0 = some (false, iM_reletter_0) ∧ x_blk bM_reletter 15 = some (true, iM_reletter_15) ∧ x_blk bM_reletter 66 = some (false, iM_reletter_66) ∧ x_blk bM_reletter 69 = some (false, iM_reletter_69) ∧ x_blk bM_reletter 70 = some (false, iM_reletter_70) ∧ x_blk bM_reletter 76 = some (false, iM_reletter_76) ∧ x_blk bM_reletter 78 = some (true, iM_reletter_78) ∧ x_blk bM_reletter 107 = some (false, iM_reletter_107) ∧ x_blk bM_reletter 108 = some (false, iM_reletter_108) ∧ x_blk bM_reletter 115 = some (false, iM_reletter_115) := ⟨rfl, rfl, rfl, rfl, rfl, rfl, rfl, rfl, rfl, rfl⟩
theorem kM_reletter : x_chkB zM_reletter bM_reletter = true := by decide +kernel
theorem vM_reletter : zC zM_reletter = 0 ∧ zS zM_reletter = 0 ∧ x_rtc (zR zM_reletter) = 1 := ⟨rfl, rfl, rfl⟩
def iM_renumber_0 : List xPI := [(.aload_n 0, [], []), (.iconst 0, [], []), (.putfield 66, [8, 0, 0, 1242], []), (.aload_n 0, [], []), (.invokevirtual 357, [0, 0, 0, 8, 1744, 1746, 96, 115, 1747], [zM_remembers]), (.aload_n 0, [], []), (.invokevirtual 246, [0, 0, 0, 8, 1512, 1514, 68, 115, 1515], [zM_laysLabels]), (.iconst 0, [], []), (.istore_n 1, [], []), (.iconst 0, [], []), (.istore_n 2, [], []), (.nop, [17], [])]
def iM_renumber_17 : List xPI := [(.iload_n 2, [], []), (.aload_n 0, [], []), (.getfield 7, [8, 1, 2, 1243], []), (.iconst 0, [], []), (.iaload, [], []), (.if_icmp .ge 49, [73], []), (.aload_n 0, [], []), (.getfield 7, [8, 1, 2, 1243], []), (.sipush 154, [], []), (.iload_n 2, [], []), (.iadd, [], []), (.aload_n 0, [], []), (.iload_n 2, [], []), (.invokevirtual 234, [1, 0, 0, 8, 1520, 1522, 70, 115, 1523], [zM_whatAt]), (.iconst 4, [], []), (.iconst 0, [], []), (.invokestatic 165, [3, 0, 0, 1449, 1450, 115, 1451], [zM_withBit]), (.iastore, [], []), (.aload_n 0, [], []), (.getfield 30, [8, 20, 2, 1262], []), (.iload_n 2, [], []), (.iaload, [], []), (.sipush 1000, [], []), (.iload_n 2, [], []), (.iconst 1, [], []), (.iadd, [], []), (.imul, [], []), (.if_icmp .eq 7, [67], []), (.iload_n 1, [], []), (.iconst 1, [], []), (.iadd, [], []), (.istore_n 1, [], []), (.nop, [67], [])]
def iM_renumber_67 : List xPI := [(.iinc 2 1, [], []), (.goto (-53), [17], [])]
def iM_renumber_73 : List xPI := [(.iload_n 1, [], []), (.ireturn, [], [])]
def bM_renumber : xB := [(0, false, iM_renumber_0), (17, true, iM_renumber_17), (67, false, iM_renumber_67), (73, false, iM_renumber_73)]
theorem eM_renumber : x_blk bM_renumber 0 = some (false, iM_renumber_0) ∧ x_blk bM_renumber 17 = some (true, iM_renumber_17) ∧ x_blk bM_renumber 67 = some (false, iM_renumber_67) ∧ x_blk bM_renumber 73 = some (false, iM_renumber_73) := ⟨rfl, rfl, rfl, rfl⟩
theorem kM_renumber : x_chkB zM_renumber bM_renumber = true := by decide +kernel
theorem vM_renumber : zC zM_renumber = 0 ∧ zS zM_renumber = 0 ∧ x_rtc (zR zM_renumber) = 1 := ⟨rfl, rfl, rfl⟩
def iM_maySet_0 : List xPI := [(.iload_n 0, [], []), (.iconst 2, [], []), (.if_icmp .ne 13, [15], []), (.iload_n 1, [], []), (.iconst 1, [], []), (.bipush 12, [], []), (.invokestatic 82, [3, 0, 0, 1378, 1379, 115, 1380], [zM_in]), (.goto 27, [39], [])]
def iM_maySet_15 : List xPI := [(.iload_n 0, [], []), (.iconst 4, [], []), (.if_icmp .eq 8, [25], []), (.iload_n 0, [], []), (.iconst 5, [], []), (.if_icmp .ne 16, [38], []), (.nop, [25], [])]
def iM_maySet_25 : List xPI := [(.iload_n 1, [], []), (.iconst 0, [], []), (.iconst 1, [], []), (.invokestatic 82, [3, 0, 0, 1378, 1379, 115, 1380], [zM_in]), (.ifCond .eq 7, [38], []), (.iconst 1, [], []), (.goto 4, [39], [])]
def iM_maySet_38 : List xPI := [(.iconst 0, [], []), (.nop, [39], [])]
def iM_maySet_39 : List xPI := [(.ireturn, [], [])]
def bM_maySet : xB := [(0, false, iM_maySet_0), (15, false, iM_maySet_15), (25, false, iM_maySet_25), (38, false, iM_maySet_38), (39, false, iM_maySet_39)]
theorem eM_maySet : x_blk bM_maySet 0 = some (false, iM_maySet_0) ∧ x_blk bM_maySet 15 = some (false, iM_maySet_15) ∧ x_blk bM_maySet 25 = some (false, iM_maySet_25) ∧ x_blk bM_maySet 38 = some (false, iM_maySet_38) ∧ x_blk bM_maySet 39 = some (false, iM_maySet_39) := ⟨rfl, rfl, rfl, rfl, rfl⟩
theorem kM_maySet : x_chkB zM_maySet bM_maySet = true := by decide +kernel
theorem vM_maySet : zC zM_maySet = 0 ∧ zS zM_maySet = 0 ∧ x_rtc (zR zM_maySet) = 2 := ⟨rfl, rfl, rfl⟩
def iM_setBar_0 : List xPI := [(.aload_n 0, [], []), (.aload_n 0, [], []), (.iload_n 1, [], []), (.invokevirtual 255, [1, 0, 0, 8, 1500, 1502, 65, 115, 1503], [zM_isBar]), (.ifCond .ne 7, [13], []), (.iconst 1, [], []), (.goto 16, [26], [])]
def iM_setBar_13 : List xPI := [(.iload_n 2, [], []), (.iload_n 3, [], []), (.invokestatic 372, [2, 0, 0, 1796, 1797, 115, 1798], [zM_maySet]), (.ifCond .ne 7, [25], []), (.iconst 2, [], []), (.goto 4, [26], [])]
def iM_setBar_25 : List xPI := [(.iconst 0, [], []), (.nop, [26], [])]
def iM_setBar_26 : List xPI := [(.invokevirtual 228, [1, 0, 0, 8, 1381, 1383, 44, 115, 1384], [zM_isRefused]), (.ifCond .eq 5, [34], []), (.iconst 0, [], []), (.ireturn, [], [])]
def iM_setBar_34 : List xPI := [(.aload_n 0, [], []), (.invokevirtual 357, [0, 0, 0, 8, 1744, 1746, 96, 115, 1747], [zM_remembers]), (.sipush 154, [], []), (.aload_n 0, [], []), (.iload_n 1, [], []), (.invokevirtual 79, [1, 0, 0, 8, 1504, 1506, 66, 115, 1507], [zM_placeOf]), (.iadd, [], []), (.istore 4, [], []), (.aload_n 0, [], []), (.getfield 7, [8, 1, 2, 1243], []), (.iload 4, [], []), (.iaload, [], []), (.istore 5, [], []), (.iload_n 2, [], []), (.iconst 2, [], []), (.if_icmp .ne 23, [83], []), (.aload_n 0, [], []), (.getfield 7, [8, 1, 2, 1243], []), (.iload 4, [], []), (.iload 5, [], []), (.bipush (-16), [], []), (.iand, [], []), (.iload_n 3, [], []), (.ior, [], []), (.iastore, [], []), (.iload 5, [], []), (.invokestatic 261, [1, 0, 0, 1539, 1540, 115, 1541], [zM_beatsIn]), (.ireturn, [], [])]
def iM_setBar_83 : List xPI := [(.iload_n 2, [], []), (.iconst 4, [], []), (.if_icmp .ne 7, [92], []), (.iconst 5, [], []), (.goto 5, [94], [])]
def iM_setBar_92 : List xPI := [(.bipush 6, [], []), (.nop, [94], [])]
def iM_setBar_94 : List xPI := [(.istore 6, [], []), (.aload_n 0, [], []), (.getfield 7, [8, 1, 2, 1243], []), (.iload 4, [], []), (.iload 5, [], []), (.iload 6, [], []), (.iload_n 3, [], []), (.iconst 1, [], []), (.if_icmp .ne 7, [115], []), (.iconst 1, [], []), (.goto 4, [116], [])]
def iM_setBar_115 : List xPI := [(.iconst 0, [], []), (.nop, [116], [])]
def iM_setBar_116 : List xPI := [(.invokestatic 165, [3, 0, 0, 1449, 1450, 115, 1451], [zM_withBit]), (.iastore, [], []), (.iload 5, [], []), (.iload 6, [], []), (.invokestatic 86, [2, 0, 0, 1524, 1525, 115, 1526], [zM_has]), (.ifCond .eq 7, [134], []), (.iconst 1, [], []), (.goto 4, [135], [])]
def iM_setBar_134 : List xPI := [(.iconst 0, [], []), (.nop, [135], [])]
def iM_setBar_135 : List xPI := [(.ireturn, [], [])]
def bM_setBar : xB := [(0, false, iM_setBar_0), (13, false, iM_setBar_13), (25, false, iM_setBar_25), (26, false, iM_setBar_26), (34, false, iM_setBar_34), (83, false, iM_setBar_83), (92, false, iM_setBar_92), (94, false, iM_setBar_94), (115, false, iM_setBar_115), (116, false, iM_setBar_116), (134, false, iM_setBar_134), (135, false, iM_setBar_135)]
theorem eM_setBar : x_blk bM_setBar 0 = some (false, iM_setBar_0) ∧ x_blk bM_setBar 13 = some (false, iM_setBar_13) ∧ x_blk bM_setBar 25 = some (false, iM_setBar_25) ∧ x_blk bM_setBar 26 = some (false, iM_setBar_26) ∧ x_blk bM_setBar 34 = some (false, iM_setBar_34) ∧ x_blk bM_setBar 83 = some (false, iM_setBar_83) ∧ x_blk bM_setBar 92 = some (false, iM_setBar_92) ∧ x_blk bM_setBar 94 = some (false, iM_setBar_94) ∧ x_blk bM_setBar 115 = some (false, iM_setBar_115) ∧ x_blk bM_setBar 116 = some (false, iM_setBar_116) ∧ x_blk bM_setBar 134 = some (false, iM_setBar_134) ∧ x_blk bM_setBar 135 = some (false, iM_setBar_135) := ⟨rfl, rfl, rfl, rfl, rfl, rfl, rfl, rfl, rfl, rfl, rfl, rfl⟩
theorem kM_setBar : x_chkB zM_setBar bM_setBar = true := by decide +kernel
theorem vM_setBar : zC zM_setBar = 0 ∧ zS zM_setBar = 0 ∧ x_rtc (zR zM_setBar) = 1 := ⟨rfl, rfl, rfl⟩
def iM_setContent_0 : List xPI := [(.aload_n 0, [], []), (.aload_n 0, [], []), (.iload_n 1, [], []), (.invokevirtual 290, [1, 0, 0, 8, 1618, 1620, 81, 115, 1621], [zM_isPart]), (.ifCond .eq 11, [17], []), (.aload_n 0, [], []), (.iload_n 2, [], []), (.invokevirtual 255, [1, 0, 0, 8, 1500, 1502, 65, 115, 1503], [zM_isBar]), (.ifCond .ne 7, [21], []), (.nop, [17], [])]
def iM_setContent_17 : List xPI := [(.iconst 1, [], []), (.goto 17, [35], [])]
def iM_setContent_21 : List xPI := [(.iload_n 3, [], []), (.iconst 0, [], []), (.iconst 2, [], []), (.invokestatic 82, [3, 0, 0, 1378, 1379, 115, 1380], [zM_in]), (.ifCond .ne 7, [34], []), (.iconst 2, [], []), (.goto 4, [35], [])]
def iM_setContent_34 : List xPI := [(.iconst 0, [], []), (.nop, [35], [])]
def iM_setContent_35 : List xPI := [(.invokevirtual 228, [1, 0, 0, 8, 1381, 1383, 44, 115, 1384], [zM_isRefused]), (.ifCond .eq 5, [43], []), (.iconst 0, [], []), (.ireturn, [], [])]
def iM_setContent_43 : List xPI := [(.aload_n 0, [], []), (.invokevirtual 357, [0, 0, 0, 8, 1744, 1746, 96, 115, 1747], [zM_remembers]), (.sipush 154, [], []), (.aload_n 0, [], []), (.iload_n 2, [], []), (.invokevirtual 79, [1, 0, 0, 8, 1504, 1506, 66, 115, 1507], [zM_placeOf]), (.iadd, [], []), (.istore 4, [], []), (.aload_n 0, [], []), (.getfield 7, [8, 1, 2, 1243], []), (.iload 4, [], []), (.iaload, [], []), (.iload_n 1, [], []), (.invokestatic 286, [2, 0, 0, 1626, 1627, 115, 1628], [zM_contentIn]), (.istore 5, [], []), (.aload_n 0, [], []), (.getfield 7, [8, 1, 2, 1243], []), (.iload 4, [], []), (.aload_n 0, [], []), (.getfield 7, [8, 1, 2, 1243], []), (.iload 4, [], []), (.iaload, [], []), (.iload_n 1, [], []), (.iload_n 3, [], []), (.invokestatic 184, [3, 0, 0, 1477, 1478, 115, 1479], [zM_withContent]), (.iastore, [], []), (.iload 5, [], []), (.ireturn, [], [])]
def bM_setContent : xB := [(0, false, iM_setContent_0), (17, false, iM_setContent_17), (21, false, iM_setContent_21), (34, false, iM_setContent_34), (35, false, iM_setContent_35), (43, false, iM_setContent_43)]
theorem eM_setContent : x_blk bM_setContent 0 = some (false, iM_setContent_0) ∧ x_blk bM_setContent 17 = some (false, iM_setContent_17) ∧ x_blk bM_setContent 21 = some (false, iM_setContent_21) ∧ x_blk bM_setContent 34 = some (false, iM_setContent_34) ∧ x_blk bM_setContent 35 = some (false, iM_setContent_35) ∧ x_blk bM_setContent 43 = some (false, iM_setContent_43) := ⟨rfl, rfl, rfl, rfl, rfl, rfl⟩
theorem kM_setContent : x_chkB zM_setContent bM_setContent = true := by decide +kernel
theorem vM_setContent : zC zM_setContent = 0 ∧ zS zM_setContent = 0 ∧ x_rtc (zR zM_setContent) = 1 := ⟨rfl, rfl, rfl⟩
def iM_print_0 : List xPI := [(.aload_n 0, [], []), (.aload_n 0, [], []), (.iload_n 1, [], []), (.invokevirtual 290, [1, 0, 0, 8, 1618, 1620, 81, 115, 1621], [zM_isPart]), (.ifCond .eq 7, [13], []), (.iconst 0, [], []), (.goto 4, [14], [])]
def iM_print_13 : List xPI := [(.iconst 1, [], []), (.nop, [14], [])]
def iM_print_14 : List xPI := [(.invokevirtual 228, [1, 0, 0, 8, 1381, 1383, 44, 115, 1384], [zM_isRefused]), (.ifCond .eq 5, [22], []), (.iconst 0, [], []), (.ireturn, [], [])]
def iM_print_22 : List xPI := [(.aload_n 0, [], []), (.invokevirtual 357, [0, 0, 0, 8, 1744, 1746, 96, 115, 1747], [zM_remembers]), (.aload_n 0, [], []), (.iload_n 1, [], []), (.invokevirtual 305, [1, 0, 0, 8, 1641, 1643, 84, 115, 1644], [zM_laysItems]), (.aload_n 0, [], []), (.getfield 7, [8, 1, 2, 1243], []), (.iconst 3, [], []), (.aload_n 0, [], []), (.getfield 7, [8, 1, 2, 1243], []), (.iconst 3, [], []), (.iaload, [], []), (.iconst 1, [], []), (.iload_n 1, [], []), (.ishl, [], []), (.ior, [], []), (.iastore, [], []), (.aload_n 0, [], []), (.getfield 7, [8, 1, 2, 1243], []), (.sipush 365, [], []), (.iload_n 1, [], []), (.iadd, [], []), (.aload_n 0, [], []), (.getfield 240, [8, 26, 0, 1268], []), (.iastore, [], []), (.iconst 0, [], []), (.istore_n 2, [], []), (.nop, [63], [])]
def iM_print_63 : List xPI := [(.iload_n 2, [], []), (.aload_n 0, [], []), (.getfield 240, [8, 26, 0, 1268], []), (.if_icmp .ge 52, [120], []), (.aload_n 0, [], []), (.getfield 7, [8, 1, 2, 1243], []), (.iload_n 1, [], []), (.iload_n 2, [], []), (.invokestatic 317, [2, 0, 0, 1697, 1698, 115, 1699], [zM_noteAt]), (.aload_n 0, [], []), (.aload_n 0, [], []), (.getfield 42, [8, 24, 2, 1266], []), (.iload_n 2, [], []), (.iaload, [], []), (.invokevirtual 75, [1, 0, 0, 8, 1492, 1494, 64, 115, 1495], [zM_idAt]), (.iastore, [], []), (.aload_n 0, [], []), (.getfield 7, [8, 1, 2, 1243], []), (.iload_n 1, [], []), (.iload_n 2, [], []), (.invokestatic 317, [2, 0, 0, 1697, 1698, 115, 1699], [zM_noteAt]), (.iconst 1, [], []), (.iadd, [], []), (.aload_n 0, [], []), (.iload_n 1, [], []), (.aload_n 0, [], []), (.getfield 42, [8, 24, 2, 1266], []), (.iload_n 2, [], []), (.iaload, [], []), (.invokevirtual 327, [2, 0, 0, 8, 1708, 1710, 93, 115, 1711], [zM_noteNow]), (.iastore, [], []), (.iinc 2 1, [], []), (.goto (-54), [63], [])]
def iM_print_120 : List xPI := [(.aload_n 0, [], []), (.getfield 299, [8, 28, 0, 1270], []), (.ireturn, [], [])]
def bM_print : xB := [(0, false, iM_print_0), (13, false, iM_print_13), (14, false, iM_print_14), (22, false, iM_print_22), (63, true, iM_print_63), (120, false, iM_print_120)]
theorem eM_print : x_blk bM_print 0 = some (false, iM_print_0) ∧ x_blk bM_print 13 = some (false, iM_print_13) ∧ x_blk bM_print 14 = some (false, iM_print_14) ∧ x_blk bM_print 22 = some (false, iM_print_22) ∧ x_blk bM_print 63 = some (true, iM_print_63) ∧ x_blk bM_print 120 = some (false, iM_print_120) := ⟨rfl, rfl, rfl, rfl, rfl, rfl⟩
theorem kM_print : x_chkB zM_print bM_print = true := by decide +kernel
theorem vM_print : zC zM_print = 0 ∧ zS zM_print = 0 ∧ x_rtc (zR zM_print) = 1 := ⟨rfl, rfl, rfl⟩
def iM_undo_0 : List xPI := [(.aload_n 0, [], []), (.aload_n 0, [], []), (.getfield 72, [8, 5, 0, 1247], []), (.ifCond .ne 7, [12], []), (.iconst 1, [], []), (.goto 4, [13], [])]
def iM_undo_12 : List xPI := [(.iconst 0, [], []), (.nop, [13], [])]
def iM_undo_13 : List xPI := [(.invokevirtual 228, [1, 0, 0, 8, 1381, 1383, 44, 115, 1384], [zM_isRefused]), (.ifCond .eq 5, [21], []), (.iconst 0, [], []), (.ireturn, [], [])]
def iM_undo_21 : List xPI := [(.aload_n 0, [], []), (.aload_n 0, [], []), (.getfield 72, [8, 5, 0, 1247], []), (.iconst 1, [], []), (.isub, [], []), (.putfield 72, [8, 5, 0, 1247], []), (.iconst 0, [], []), (.istore_n 1, [], []), (.nop, [33], [])]
def iM_undo_33 : List xPI := [(.iload_n 1, [], []), (.sipush 2171, [], []), (.if_icmp .ge 30, [67], []), (.aload_n 0, [], []), (.getfield 7, [8, 1, 2, 1243], []), (.iload_n 1, [], []), (.aload_n 0, [], []), (.getfield 16, [8, 3, 2, 1245], []), (.sipush 2171, [], []), (.aload_n 0, [], []), (.getfield 72, [8, 5, 0, 1247], []), (.imul, [], []), (.iload_n 1, [], []), (.iadd, [], []), (.iaload, [], []), (.iastore, [], []), (.iinc 1 1, [], []), (.goto (-31), [33], [])]
def iM_undo_67 : List xPI := [(.aload_n 0, [], []), (.getfield 72, [8, 5, 0, 1247], []), (.ireturn, [], [])]
def bM_undo : xB := [(0, false, iM_undo_0), (12, false, iM_undo_12), (13, false, iM_undo_13), (21, false, iM_undo_21), (33, true, iM_undo_33), (67, false, iM_undo_67)]
theorem eM_undo : x_blk bM_undo 0 = some (false, iM_undo_0) ∧ x_blk bM_undo 12 = some (false, iM_undo_12) ∧ x_blk bM_undo 13 = some (false, iM_undo_13) ∧ x_blk bM_undo 21 = some (false, iM_undo_21) ∧ x_blk bM_undo 33 = some (true, iM_undo_33) ∧ x_blk bM_undo 67 = some (false, iM_undo_67) := ⟨rfl, rfl, rfl, rfl, rfl, rfl⟩
theorem kM_undo : x_chkB zM_undo bM_undo = true := by decide +kernel
theorem vM_undo : zC zM_undo = 0 ∧ zS zM_undo = 0 ∧ x_rtc (zR zM_undo) = 1 := ⟨rfl, rfl, rfl⟩
def iM_undoCount_0 : List xPI := [(.aload_n 0, [], []), (.aload_n 0, [], []), (.getfield 72, [8, 5, 0, 1247], []), (.invokevirtual 103, [1, 0, 0, 8, 1366, 1368, 43, 115, 1369], [zM_told]), (.ireturn, [], [])]
def bM_undoCount : xB := [(0, false, iM_undoCount_0)]
theorem eM_undoCount : x_blk bM_undoCount 0 = some (false, iM_undoCount_0) := rfl
theorem kM_undoCount : x_chkB zM_undoCount bM_undoCount = true := by decide +kernel
theorem vM_undoCount : zC zM_undoCount = 0 ∧ zS zM_undoCount = 0 ∧ x_rtc (zR zM_undoCount) = 1 := ⟨rfl, rfl, rfl⟩
def iM_says_0 : List xPI := [(.aload_n 0, [], []), (.getfield 57, [8, 32, 2, 1274], []), (.aload_n 0, [], []), (.getfield 375, [8, 33, 0, 1275], []), (.iload_n 1, [], []), (.iastore, [], []), (.aload_n 0, [], []), (.aload_n 0, [], []), (.getfield 375, [8, 33, 0, 1275], []), (.iconst 1, [], []), (.iadd, [], []), (.putfield 375, [8, 33, 0, 1275], []), (.return_, [], [])]
def bM_says : xB := [(0, false, iM_says_0)]
theorem eM_says : x_blk bM_says 0 = some (false, iM_says_0) := rfl
theorem kM_says : x_chkB zM_says bM_says = true := by decide +kernel
theorem vM_says : zC zM_says = 0 ∧ zS zM_says = 0 ∧ x_rtc (zR zM_says) = 0 := ⟨rfl, rfl, rfl⟩
def iM_saysNumber_0 : List xPI := [(.iconst 1, [], []), (.istore_n 2, [], []), (.nop, [2], [])]
def iM_saysNumber_2 : List xPI := [(.iload_n 1, [], []), (.iload_n 2, [], []), (.idiv, [], []), (.bipush 10, [], []), (.if_icmp .lt 11, [18], []), (.iload_n 2, [], []), (.bipush 10, [], []), (.imul, [], []), (.istore_n 2, [], []), (.goto (-13), [2], [])]
def iM_saysNumber_18 : List xPI := [(.iload_n 2, [], []), (.ifCond .le 24, [43], []), (.aload_n 0, [], []), (.bipush 48, [], []), (.iload_n 1, [], []), (.iload_n 2, [], []), (.idiv, [], []), (.bipush 10, [], []), (.irem, [], []), (.iadd, [], []), (.invokevirtual 378, [1, 0, 0, 8, 1827, 1829, 103, 115, 1830], [zM_says]), (.iload_n 2, [], []), (.bipush 10, [], []), (.idiv, [], []), (.istore_n 2, [], []), (.goto (-22), [18], [])]
def iM_saysNumber_43 : List xPI := [(.return_, [], [])]
def bM_saysNumber : xB := [(0, false, iM_saysNumber_0), (2, true, iM_saysNumber_2), (18, true, iM_saysNumber_18), (43, false, iM_saysNumber_43)]
theorem eM_saysNumber : x_blk bM_saysNumber 0 = some (false, iM_saysNumber_0) ∧ x_blk bM_saysNumber 2 = some (true, iM_saysNumber_2) ∧ x_blk bM_saysNumber 18 = some (true, iM_saysNumber_18) ∧ x_blk bM_saysNumber 43 = some (false, iM_saysNumber_43) := ⟨rfl, rfl, rfl, rfl⟩
theorem kM_saysNumber : x_chkB zM_saysNumber bM_saysNumber = true := by decide +kernel
theorem vM_saysNumber : zC zM_saysNumber = 0 ∧ zS zM_saysNumber = 0 ∧ x_rtc (zR zM_saysNumber) = 0 := ⟨rfl, rfl, rfl⟩
def iM_saysWord_0 : List xPI := [(.bipush 25, [], []), (.istore_n 3, [], []), (.nop, [3], [])]
def iM_saysWord_3 : List xPI := [(.iload_n 3, [], []), (.ifCond .lt 34, [38], []), (.lload_n 1, [], []), (.iload_n 3, [], []), (.lshr, [], []), (.ldc2_w 381, [31, 1839], []), (.land, [], []), (.l2i, [], []), (.istore 4, [], []), (.iload 4, [], []), (.ifCond .le 12, [31], []), (.aload_n 0, [], []), (.bipush 96, [], []), (.iload 4, [], []), (.iadd, [], []), (.invokevirtual 378, [1, 0, 0, 8, 1827, 1829, 103, 115, 1830], [zM_says]), (.nop, [31], [])]
def iM_saysWord_31 : List xPI := [(.iload_n 3, [], []), (.iconst 5, [], []), (.isub, [], []), (.istore_n 3, [], []), (.goto (-32), [3], [])]
def iM_saysWord_38 : List xPI := [(.return_, [], [])]
def bM_saysWord : xB := [(0, false, iM_saysWord_0), (3, true, iM_saysWord_3), (31, false, iM_saysWord_31), (38, false, iM_saysWord_38)]
theorem eM_saysWord : x_blk bM_saysWord 0 = some (false, iM_saysWord_0) ∧ x_blk bM_saysWord 3 = some (true, iM_saysWord_3) ∧ x_blk bM_saysWord 31 = some (false, iM_saysWord_31) ∧ x_blk bM_saysWord 38 = some (false, iM_saysWord_38) := ⟨rfl, rfl, rfl, rfl⟩
theorem kM_saysWord : x_chkB zM_saysWord bM_saysWord = true := by decide +kernel
theorem vM_saysWord : zC zM_saysWord = 0 ∧ zS zM_saysWord = 0 ∧ x_rtc (zR zM_saysWord) = 0 := ⟨rfl, rfl, rfl⟩
def iM_saysLetter_0 : List xPI := [(.iload_n 1, [], []), (.bipush 26, [], []), (.if_icmp .le 28, [31], []), (.aload_n 0, [], []), (.bipush 64, [], []), (.iload_n 1, [], []), (.iadd, [], []), (.bipush 26, [], []), (.isub, [], []), (.invokevirtual 378, [1, 0, 0, 8, 1827, 1829, 103, 115, 1830], [zM_says]), (.aload_n 0, [], []), (.bipush 64, [], []), (.iload_n 1, [], []), (.iadd, [], []), (.bipush 26, [], []), (.isub, [], []), (.invokevirtual 378, [1, 0, 0, 8, 1827, 1829, 103, 115, 1830], [zM_says]), (.goto 11, [39], [])]
def iM_saysLetter_31 : List xPI := [(.aload_n 0, [], []), (.bipush 64, [], []), (.iload_n 1, [], []), (.iadd, [], []), (.invokevirtual 378, [1, 0, 0, 8, 1827, 1829, 103, 115, 1830], [zM_says]), (.nop, [39], [])]
def iM_saysLetter_39 : List xPI := [(.aload_n 0, [], []), (.bipush 32, [], []), (.invokevirtual 378, [1, 0, 0, 8, 1827, 1829, 103, 115, 1830], [zM_says]), (.return_, [], [])]
def bM_saysLetter : xB := [(0, false, iM_saysLetter_0), (31, false, iM_saysLetter_31), (39, false, iM_saysLetter_39)]
theorem eM_saysLetter : x_blk bM_saysLetter 0 = some (false, iM_saysLetter_0) ∧ x_blk bM_saysLetter 31 = some (false, iM_saysLetter_31) ∧ x_blk bM_saysLetter 39 = some (false, iM_saysLetter_39) := ⟨rfl, rfl, rfl⟩
theorem kM_saysLetter : x_chkB zM_saysLetter bM_saysLetter = true := by decide +kernel
theorem vM_saysLetter : zC zM_saysLetter = 0 ∧ zS zM_saysLetter = 0 ∧ x_rtc (zR zM_saysLetter) = 0 := ⟨rfl, rfl, rfl⟩
def iM_saysItem_0 : List xPI := [(.aload_n 0, [], []), (.iload_n 2, [], []), (.invokevirtual 308, [1, 0, 0, 8, 1653, 1655, 86, 115, 1656], [zM_firstPlace]), (.istore_n 3, [], []), (.aload_n 0, [], []), (.iload_n 1, [], []), (.iload_n 3, [], []), (.invokevirtual 293, [2, 0, 0, 8, 1622, 1624, 82, 115, 1625], [zM_contentAt]), (.istore 4, [], []), (.aload_n 0, [], []), (.getfield 36, [8, 22, 2, 1264], []), (.iload_n 3, [], []), (.iaload, [], []), (.ifCond .le 13, [33], []), (.aload_n 0, [], []), (.aload_n 0, [], []), (.getfield 36, [8, 22, 2, 1264], []), (.iload_n 3, [], []), (.iaload, [], []), (.invokevirtual 383, [1, 0, 0, 8, 1823, 1825, 102, 115, 1826], [zM_saysLetter]), (.nop, [33], [])]
def iM_saysItem_33 : List xPI := [(.aload_n 0, [], []), (.aload_n 0, [], []), (.getfield 30, [8, 20, 2, 1262], []), (.iload_n 3, [], []), (.iaload, [], []), (.sipush 1000, [], []), (.idiv, [], []), (.invokevirtual 386, [1, 0, 0, 8, 1831, 1833, 104, 115, 1834], [zM_saysNumber]), (.aload_n 0, [], []), (.getfield 30, [8, 20, 2, 1262], []), (.iload_n 3, [], []), (.iaload, [], []), (.sipush 1000, [], []), (.irem, [], []), (.istore 5, [], []), (.iload 5, [], []), (.ifCond .le 24, [85], []), (.aload_n 0, [], []), (.bipush 96, [], []), (.iload 5, [], []), (.bipush 26, [], []), (.if_icmp .le 8, [79], []), (.bipush 26, [], []), (.goto 5, [81], [])]
def iM_saysItem_79 : List xPI := [(.iload 5, [], []), (.nop, [81], [])]
def iM_saysItem_81 : List xPI := [(.iadd, [], []), (.invokevirtual 378, [1, 0, 0, 8, 1827, 1829, 103, 115, 1830], [zM_says]), (.nop, [85], [])]
def iM_saysItem_85 : List xPI := [(.aload_n 0, [], []), (.bipush 32, [], []), (.invokevirtual 378, [1, 0, 0, 8, 1827, 1829, 103, 115, 1830], [zM_says]), (.aload_n 0, [], []), (.iload 4, [], []), (.ifCond .ne 9, [103], []), (.ldc2_w 176, [595572, 1476], []), (.goto 18, [118], [])]
def iM_saysItem_103 : List xPI := [(.iload 4, [], []), (.iconst 1, [], []), (.if_icmp .ne 9, [115], []), (.ldc2_w 172, [536633, 1474], []), (.goto 6, [118], [])]
def iM_saysItem_115 : List xPI := [(.ldc2_w 174, [3749, 1475], []), (.nop, [118], [])]
def iM_saysItem_118 : List xPI := [(.invokevirtual 389, [1, 0, 0, 8, 1835, 1837, 105, 115, 1838], [zM_saysWord]), (.iload 4, [], []), (.ifCond .ne 18, [141], []), (.aload_n 0, [], []), (.bipush 32, [], []), (.invokevirtual 378, [1, 0, 0, 8, 1827, 1829, 103, 115, 1830], [zM_says]), (.aload_n 0, [], []), (.aload_n 0, [], []), (.iload_n 2, [], []), (.invokevirtual 311, [1, 0, 0, 8, 1657, 1659, 87, 115, 1660], [zM_sizeOf]), (.invokevirtual 386, [1, 0, 0, 8, 1831, 1833, 104, 115, 1834], [zM_saysNumber]), (.nop, [141], [])]
def iM_saysItem_141 : List xPI := [(.aload_n 0, [], []), (.bipush 10, [], []), (.invokevirtual 378, [1, 0, 0, 8, 1827, 1829, 103, 115, 1830], [zM_says]), (.return_, [], [])]
def bM_saysItem : xB := [(0, false, iM_saysItem_0), (33, false, iM_saysItem_33), (79, false, iM_saysItem_79), (81, false, iM_saysItem_81), (85, false, iM_saysItem_85), (103, false, iM_saysItem_103), (115, false, iM_saysItem_115), (118, false, iM_saysItem_118), (141, false, iM_saysItem_141)]
theorem eM_saysItem : x_blk bM_saysItem 0 = some (false, iM_saysItem_0) ∧ x_blk bM_saysItem 33 = some (false, iM_saysItem_33) ∧ x_blk bM_saysItem 79 = some (false, iM_saysItem_79) ∧ x_blk bM_saysItem 81 = some (false, iM_saysItem_81) ∧ x_blk bM_saysItem 85 = some (false, iM_saysItem_85) ∧ x_blk bM_saysItem 103 = some (false, iM_saysItem_103) ∧ x_blk bM_saysItem 115 = some (false, iM_saysItem_115) ∧ x_blk bM_saysItem 118 = some (false, iM_saysItem_118) ∧ x_blk bM_saysItem 141 = some (false, iM_saysItem_141) := ⟨rfl, rfl, rfl, rfl, rfl, rfl, rfl, rfl, rfl⟩
theorem kM_saysItem : x_chkB zM_saysItem bM_saysItem = true := by decide +kernel
theorem vM_saysItem : zC zM_saysItem = 0 ∧ zS zM_saysItem = 0 ∧ x_rtc (zR zM_saysItem) = 0 := ⟨rfl, rfl, rfl⟩
def iM_writePart_0 : List xPI := [(.aload_n 0, [], []), (.aload_n 0, [], []), (.iload_n 1, [], []), (.invokevirtual 290, [1, 0, 0, 8, 1618, 1620, 81, 115, 1621], [zM_isPart]), (.ifCond .eq 7, [13], []), (.iconst 0, [], []), (.goto 4, [14], [])]
def iM_writePart_13 : List xPI := [(.iconst 1, [], []), (.nop, [14], [])]
def iM_writePart_14 : List xPI := [(.invokevirtual 228, [1, 0, 0, 8, 1381, 1383, 44, 115, 1384], [zM_isRefused]), (.ifCond .eq 5, [22], []), (.iconst 0, [], []), (.ireturn, [], [])]
def iM_writePart_22 : List xPI := [(.aload_n 0, [], []), (.iload_n 1, [], []), (.invokevirtual 305, [1, 0, 0, 8, 1641, 1643, 84, 115, 1644], [zM_laysItems]), (.aload_n 0, [], []), (.iconst 0, [], []), (.putfield 375, [8, 33, 0, 1275], []), (.iconst 0, [], []), (.istore_n 2, [], []), (.nop, [34], [])]
def iM_writePart_34 : List xPI := [(.iload_n 2, [], []), (.aload_n 0, [], []), (.getfield 299, [8, 28, 0, 1270], []), (.if_icmp .ge 15, [54], []), (.aload_n 0, [], []), (.iload_n 1, [], []), (.iload_n 2, [], []), (.invokevirtual 393, [2, 0, 0, 8, 1819, 1821, 101, 115, 1822], [zM_saysItem]), (.iinc 2 1, [], []), (.goto (-17), [34], [])]
def iM_writePart_54 : List xPI := [(.aload_n 0, [], []), (.getfield 375, [8, 33, 0, 1275], []), (.ireturn, [], [])]
def bM_writePart : xB := [(0, false, iM_writePart_0), (13, false, iM_writePart_13), (14, false, iM_writePart_14), (22, false, iM_writePart_22), (34, true, iM_writePart_34), (54, false, iM_writePart_54)]
theorem eM_writePart : x_blk bM_writePart 0 = some (false, iM_writePart_0) ∧ x_blk bM_writePart 13 = some (false, iM_writePart_13) ∧ x_blk bM_writePart 14 = some (false, iM_writePart_14) ∧ x_blk bM_writePart 22 = some (false, iM_writePart_22) ∧ x_blk bM_writePart 34 = some (true, iM_writePart_34) ∧ x_blk bM_writePart 54 = some (false, iM_writePart_54) := ⟨rfl, rfl, rfl, rfl, rfl, rfl⟩
theorem kM_writePart : x_chkB zM_writePart bM_writePart = true := by decide +kernel
theorem vM_writePart : zC zM_writePart = 0 ∧ zS zM_writePart = 0 ∧ x_rtc (zR zM_writePart) = 1 := ⟨rfl, rfl, rfl⟩
def iM_outputByte_0 : List xPI := [(.aload_n 0, [], []), (.iload_n 1, [], []), (.iconst 0, [], []), (.aload_n 0, [], []), (.getfield 375, [8, 33, 0, 1275], []), (.iconst 1, [], []), (.isub, [], []), (.invokestatic 82, [3, 0, 0, 1378, 1379, 115, 1380], [zM_in]), (.ifCond .eq 7, [19], []), (.iconst 0, [], []), (.goto 4, [20], [])]
def iM_outputByte_19 : List xPI := [(.iconst 1, [], []), (.nop, [20], [])]
def iM_outputByte_20 : List xPI := [(.invokevirtual 228, [1, 0, 0, 8, 1381, 1383, 44, 115, 1384], [zM_isRefused]), (.ifCond .eq 5, [28], []), (.iconst 0, [], []), (.ireturn, [], [])]
def iM_outputByte_28 : List xPI := [(.aload_n 0, [], []), (.getfield 57, [8, 32, 2, 1274], []), (.iload_n 1, [], []), (.iaload, [], []), (.ireturn, [], [])]
def bM_outputByte : xB := [(0, false, iM_outputByte_0), (19, false, iM_outputByte_19), (20, false, iM_outputByte_20), (28, false, iM_outputByte_28)]
theorem eM_outputByte : x_blk bM_outputByte 0 = some (false, iM_outputByte_0) ∧ x_blk bM_outputByte 19 = some (false, iM_outputByte_19) ∧ x_blk bM_outputByte 20 = some (false, iM_outputByte_20) ∧ x_blk bM_outputByte 28 = some (false, iM_outputByte_28) := ⟨rfl, rfl, rfl, rfl⟩
theorem kM_outputByte : x_chkB zM_outputByte bM_outputByte = true := by decide +kernel
theorem vM_outputByte : zC zM_outputByte = 0 ∧ zS zM_outputByte = 0 ∧ x_rtc (zR zM_outputByte) = 1 := ⟨rfl, rfl, rfl⟩
