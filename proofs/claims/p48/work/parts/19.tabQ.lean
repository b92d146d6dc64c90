/-! tables by program (wip/p48/gen.py) -/
def iA_fill_0 : List xPI := [(.iconst 0, [], []), (.istore_n 2, [], []), (.aload_n 0, [], []), (.arraylength, [], []), (.istore_n 3, [], []), (.nop, [5], [])]
def iA_fill_5 : List xPI := [(.iload_n 2, [], []), (.iload_n 3, [], []), (.if_icmp .ge 13, [20], []), (.aload_n 0, [], []), (.iload_n 2, [], []), (.iload_n 1, [], []), (.iastore, [], []), (.iinc 2 1, [], []), (.goto (-12), [5], [])]
def iA_fill_20 : List xPI := [(.return_, [], [])]
def bA_fill : xB := [(0, false, iA_fill_0), (5, true, iA_fill_5), (20, false, iA_fill_20)]
theorem eA_fill : x_blk bA_fill 0 = some (false, iA_fill_0) ∧ x_blk bA_fill 5 = some (true, iA_fill_5) ∧ x_blk bA_fill 20 = some (false, iA_fill_20) := ⟨rfl, rfl, rfl⟩
theorem kA_fill : x_chkB zA_fill bA_fill = true := by decide +kernel
theorem vA_fill : zC zA_fill = 0 ∧ zS zA_fill = 0 ∧ x_rtc (zR zA_fill) = 0 := ⟨rfl, rfl, rfl⟩
def iA_checkLength_0 : List xPI := [(.iload_n 1, [], []), (.iload_n 0, [], []), (.if_icmp .ge 35, [37], [])]
def iA_checkLength_37 : List xPI := [(.return_, [], [])]
def bA_checkLength : xB := [(0, false, iA_checkLength_0), (37, false, iA_checkLength_37)]
theorem eA_checkLength : x_blk bA_checkLength 0 = some (false, iA_checkLength_0) ∧ x_blk bA_checkLength 37 = some (false, iA_checkLength_37) := ⟨rfl, rfl⟩
theorem kA_checkLength : x_chkB zA_checkLength bA_checkLength = true := by decide +kernel
theorem vA_checkLength : zC zA_checkLength = 0 ∧ zS zA_checkLength = 0 ∧ x_rtc (zR zA_checkLength) = 0 := ⟨rfl, rfl, rfl⟩
def iA_copyOfRangeByte_0 : List xPI := [(.iload_n 1, [], []), (.iload_n 2, [], []), (.invokestatic 343, [2, 0, 0, 996, 997, 41, 998], [zA_checkLength]), (.iload_n 2, [], []), (.iload_n 1, [], []), (.isub, [], []), (.istore_n 3, [], []), (.iload_n 3, [], []), (.newarray .byte, [21, 205], []), (.astore 4, [], []), (.aload_n 0, [], []), (.iload_n 1, [], []), (.aload 4, [], []), (.iconst 0, [], []), (.aload_n 0, [], []), (.arraylength, [], []), (.iload_n 1, [], []), (.isub, [], []), (.iload_n 3, [], []), (.invokestatic 304, [1001, 878, 522, 51, 523], []), (.invokestatic 150, [1005, 879, 520, 519, 52], []), (.aload 4, [], []), (.areturn, [], [])]
def bA_copyOfRangeByte : xB := [(0, false, iA_copyOfRangeByte_0)]
theorem eA_copyOfRangeByte : x_blk bA_copyOfRangeByte 0 = some (false, iA_copyOfRangeByte_0) := rfl
theorem kA_copyOfRangeByte : x_chkB zA_copyOfRangeByte bA_copyOfRangeByte = true := by decide +kernel
theorem vA_copyOfRangeByte : zC zA_copyOfRangeByte = 1 ∧ zS zA_copyOfRangeByte = 1000 ∧ x_rtc (zR zA_copyOfRangeByte) = 4 := ⟨rfl, rfl, rfl⟩
def iA_copyOf_0 : List xPI := [(.iload_n 1, [], []), (.aload_n 0, [], []), (.arraylength, [], []), (.if_icmp .ne 11, [14], [])]
def iA_copyOf_14 : List xPI := [(.iload_n 1, [], []), (.newarray .byte, [21, 205], []), (.astore_n 2, [], []), (.aload_n 0, [], []), (.iconst 0, [], []), (.aload_n 2, [], []), (.iconst 0, [], []), (.aload_n 0, [], []), (.arraylength, [], []), (.iload_n 1, [], []), (.invokestatic 304, [1001, 878, 522, 51, 523], []), (.invokestatic 150, [1005, 879, 520, 519, 52], []), (.aload_n 2, [], []), (.areturn, [], [])]
def bA_copyOf : xB := [(0, false, iA_copyOf_0), (14, false, iA_copyOf_14)]
theorem eA_copyOf : x_blk bA_copyOf 0 = some (false, iA_copyOf_0) ∧ x_blk bA_copyOf 14 = some (false, iA_copyOf_14) := ⟨rfl, rfl⟩
theorem kA_copyOf : x_chkB zA_copyOf bA_copyOf = true := by decide +kernel
theorem vA_copyOf : zC zA_copyOf = 1 ∧ zS zA_copyOf = 2000 ∧ x_rtc (zR zA_copyOf) = 4 := ⟨rfl, rfl, rfl⟩
def iZ_newLength_0 : List xPI := [(.iload_n 0, [], []), (.iload_n 1, [], []), (.iload_n 2, [], []), (.invokestatic 194, [1002, 860, 861, 51, 862], []), (.iadd, [], []), (.istore_n 3, [], []), (.iconst 0, [], []), (.iload_n 3, [], []), (.if_icmp .ge 11, [21], []), (.iload_n 3, [], []), (.ldc 200, [1, 2147483639, 863], []), (.if_icmp .gt 5, [21], []), (.iload_n 3, [], []), (.ireturn, [], [])]
def bZ_newLength : xB := [(0, false, iZ_newLength_0)]
theorem eZ_newLength : x_blk bZ_newLength 0 = some (false, iZ_newLength_0) := rfl
theorem kZ_newLength : x_chkB zZ_newLength bZ_newLength = true := by decide +kernel
theorem vZ_newLength : zC zZ_newLength = 0 ∧ zS zZ_newLength = 0 ∧ x_rtc (zR zZ_newLength) = 1 := ⟨rfl, rfl, rfl⟩
def iI_stringSize_0 : List xPI := [(.iconst 1, [], []), (.istore_n 1, [], []), (.iload_n 0, [], []), (.ifCond .lt 8, [11], []), (.iconst 0, [], []), (.istore_n 1, [], []), (.iload_n 0, [], []), (.ineg, [], []), (.istore_n 0, [], []), (.nop, [11], [])]
def iI_stringSize_11 : List xPI := [(.bipush (-10), [], []), (.istore_n 2, [], []), (.iconst 1, [], []), (.istore_n 3, [], []), (.nop, [16], [])]
def iI_stringSize_16 : List xPI := [(.iload_n 3, [], []), (.bipush 10, [], []), (.if_icmp .ge 23, [42], []), (.iload_n 0, [], []), (.iload_n 2, [], []), (.if_icmp .le 7, [31], []), (.iload_n 3, [], []), (.iload_n 1, [], []), (.iadd, [], []), (.ireturn, [], [])]
def iI_stringSize_31 : List xPI := [(.bipush 10, [], []), (.iload_n 2, [], []), (.imul, [], []), (.istore_n 2, [], []), (.iinc 3 1, [], []), (.goto (-23), [16], [])]
def bI_stringSize : xB := [(0, false, iI_stringSize_0), (11, false, iI_stringSize_11), (16, true, iI_stringSize_16), (31, false, iI_stringSize_31)]
theorem eI_stringSize : x_blk bI_stringSize 0 = some (false, iI_stringSize_0) ∧ x_blk bI_stringSize 11 = some (false, iI_stringSize_11) ∧ x_blk bI_stringSize 16 = some (true, iI_stringSize_16) ∧ x_blk bI_stringSize 31 = some (false, iI_stringSize_31) := ⟨rfl, rfl, rfl, rfl⟩
theorem kI_stringSize : x_chkB zI_stringSize bI_stringSize = true := by decide +kernel
theorem vI_stringSize : zC zI_stringSize = 0 ∧ zS zI_stringSize = 0 ∧ x_rtc (zR zI_stringSize) = 1 := ⟨rfl, rfl, rfl⟩
def iU_canEncode_0 : List xPI := [(.iload_n 0, [], []), (.sipush 255, [], []), (.if_icmp .gt 7, [11], []), (.iconst 1, [], []), (.goto 4, [12], [])]
def iU_canEncode_11 : List xPI := [(.iconst 0, [], []), (.nop, [12], [])]
def iU_canEncode_12 : List xPI := [(.ireturn, [], [])]
def bU_canEncode : xB := [(0, false, iU_canEncode_0), (11, false, iU_canEncode_11), (12, false, iU_canEncode_12)]
theorem eU_canEncode : x_blk bU_canEncode 0 = some (false, iU_canEncode_0) ∧ x_blk bU_canEncode 11 = some (false, iU_canEncode_11) ∧ x_blk bU_canEncode 12 = some (false, iU_canEncode_12) := ⟨rfl, rfl, rfl⟩
theorem kU_canEncode : x_chkB zU_canEncode bU_canEncode = true := by decide +kernel
theorem vU_canEncode : zC zU_canEncode = 0 ∧ zS zU_canEncode = 0 ∧ x_rtc (zR zU_canEncode) = 2 := ⟨rfl, rfl, rfl⟩
def iY_isLatin1_0 : List xPI := [(.getstatic 18, [1, 816], []), (.ifCond .eq 14, [17], []), (.aload_n 0, [], []), (.getfield 22, [9, 1, 3, 825], []), (.ifCond .ne 7, [17], []), (.iconst 1, [], []), (.goto 4, [18], [])]
def iY_isLatin1_18 : List xPI := [(.ireturn, [], [])]
def bY_isLatin1 : xB := [(0, false, iY_isLatin1_0), (18, false, iY_isLatin1_18)]
theorem eY_isLatin1 : x_blk bY_isLatin1 0 = some (false, iY_isLatin1_0) ∧ x_blk bY_isLatin1 18 = some (false, iY_isLatin1_18) := ⟨rfl, rfl⟩
theorem kY_isLatin1 : x_chkB zY_isLatin1 bY_isLatin1 = true := by decide +kernel
theorem vY_isLatin1 : zC zY_isLatin1 = 0 ∧ zS zY_isLatin1 = 0 ∧ x_rtc (zR zY_isLatin1) = 2 := ⟨rfl, rfl, rfl⟩
def iY_getValue_0 : List xPI := [(.aload_n 0, [], []), (.getfield 15, [9, 0, 2, 824], []), (.areturn, [], [])]
def bY_getValue : xB := [(0, false, iY_getValue_0)]
theorem eY_getValue : x_blk bY_getValue 0 = some (false, iY_getValue_0) := rfl
theorem kY_getValue : x_chkB zY_getValue bY_getValue = true := by decide +kernel
theorem vY_getValue : zC zY_getValue = 0 ∧ zS zY_getValue = 0 ∧ x_rtc (zR zY_getValue) = 4 := ⟨rfl, rfl, rfl⟩
def iY_length_0 : List xPI := [(.aload_n 0, [], []), (.getfield 79, [9, 3, 0, 827], []), (.ireturn, [], [])]
def bY_length : xB := [(0, false, iY_length_0)]
theorem eY_length : x_blk bY_length 0 = some (false, iY_length_0) := rfl
theorem kY_length : x_chkB zY_length bY_length = true := by decide +kernel
theorem vY_length : zC zY_length = 0 ∧ zS zY_length = 0 ∧ x_rtc (zR zY_length) = 1 := ⟨rfl, rfl, rfl⟩
def iY_newCapacity_0 : List xPI := [(.aload_n 0, [], []), (.getfield 15, [9, 0, 2, 824], []), (.arraylength, [], []), (.istore_n 2, [], []), (.iload_n 1, [], []), (.aload_n 0, [], []), (.getfield 22, [9, 1, 3, 825], []), (.ishl, [], []), (.istore_n 3, [], []), (.iload_n 3, [], []), (.iload_n 2, [], []), (.isub, [], []), (.istore 4, [], []), (.iload_n 2, [], []), (.iload 4, [], []), (.iload_n 2, [], []), (.iconst 2, [], []), (.aload_n 0, [], []), (.getfield 22, [9, 1, 3, 825], []), (.ishl, [], []), (.iadd, [], []), (.invokestatic 114, [3, 0, 0, 857, 858, 50, 859], [zZ_newLength]), (.istore 5, [], []), (.iload 5, [], []), (.ldc 39, [1, 2147483647, 867], []), (.if_icmp .ne 13, [51], [])]
def iY_newCapacity_51 : List xPI := [(.iload 5, [], []), (.aload_n 0, [], []), (.getfield 22, [9, 1, 3, 825], []), (.ishr, [], []), (.ireturn, [], [])]
def bY_newCapacity : xB := [(0, false, iY_newCapacity_0), (51, false, iY_newCapacity_51)]
theorem eY_newCapacity : x_blk bY_newCapacity 0 = some (false, iY_newCapacity_0) ∧ x_blk bY_newCapacity 51 = some (false, iY_newCapacity_51) := ⟨rfl, rfl⟩
theorem kY_newCapacity : x_chkB zY_newCapacity bY_newCapacity = true := by decide +kernel
theorem vY_newCapacity : zC zY_newCapacity = 0 ∧ zS zY_newCapacity = 0 ∧ x_rtc (zR zY_newCapacity) = 1 := ⟨rfl, rfl, rfl⟩
def iY_ensureCapacityInternal_0 : List xPI := [(.aload_n 0, [], []), (.getfield 15, [9, 0, 2, 824], []), (.arraylength, [], []), (.aload_n 0, [], []), (.getfield 22, [9, 1, 3, 825], []), (.ishr, [], []), (.istore_n 2, [], []), (.iload_n 1, [], []), (.iload_n 2, [], []), (.isub, [], []), (.ifCond .le 24, [38], []), (.aload_n 0, [], []), (.aload_n 0, [], []), (.getfield 15, [9, 0, 2, 824], []), (.aload_n 0, [], []), (.iload_n 1, [], []), (.invokevirtual 104, [1, 0, 0, 9, 853, 855, 1, 46, 856], [zY_newCapacity]), (.aload_n 0, [], []), (.getfield 22, [9, 1, 3, 825], []), (.ishl, [], []), (.invokestatic 108, [2, 1, 2000, 868, 869, 41, 870], [zA_copyOf]), (.putfield 15, [9, 0, 2, 824], []), (.nop, [38], [])]
def iY_ensureCapacityInternal_38 : List xPI := [(.return_, [], [])]
def bY_ensureCapacityInternal : xB := [(0, false, iY_ensureCapacityInternal_0), (38, false, iY_ensureCapacityInternal_38)]
theorem eY_ensureCapacityInternal : x_blk bY_ensureCapacityInternal 0 = some (false, iY_ensureCapacityInternal_0) ∧ x_blk bY_ensureCapacityInternal 38 = some (false, iY_ensureCapacityInternal_38) := ⟨rfl, rfl⟩
theorem kY_ensureCapacityInternal : x_chkB zY_ensureCapacityInternal bY_ensureCapacityInternal = true := by decide +kernel
theorem vY_ensureCapacityInternal : zC zY_ensureCapacityInternal = 1 ∧ zS zY_ensureCapacityInternal = 2000 ∧ x_rtc (zR zY_ensureCapacityInternal) = 0 := ⟨rfl, rfl, rfl⟩
def iY_inflateIfNeededFor_0 : List xPI := [(.getstatic 18, [1, 816], []), (.ifCond .eq 18, [21], []), (.aload_n 0, [], []), (.getfield 22, [9, 1, 3, 825], []), (.aload_n 1, [], []), (.invokevirtual 40, [0, 0, 0, 50, 909, 636, 637, 48, 638], [zT_coder]), (.if_icmp .eq 7, [21], [])]
def iY_inflateIfNeededFor_21 : List xPI := [(.return_, [], [])]
def bY_inflateIfNeededFor : xB := [(0, false, iY_inflateIfNeededFor_0), (21, false, iY_inflateIfNeededFor_21)]
theorem eY_inflateIfNeededFor : x_blk bY_inflateIfNeededFor 0 = some (false, iY_inflateIfNeededFor_0) ∧ x_blk bY_inflateIfNeededFor 21 = some (false, iY_inflateIfNeededFor_21) := ⟨rfl, rfl⟩
theorem kY_inflateIfNeededFor : x_chkB zY_inflateIfNeededFor bY_inflateIfNeededFor = true := by decide +kernel
theorem vY_inflateIfNeededFor : zC zY_inflateIfNeededFor = 0 ∧ zS zY_inflateIfNeededFor = 0 ∧ x_rtc (zR zY_inflateIfNeededFor) = 0 := ⟨rfl, rfl, rfl⟩
def iY_putStringAt_0 : List xPI := [(.aload_n 0, [], []), (.aload_n 2, [], []), (.invokevirtual 397, [1, 0, 0, 9, 905, 907, 3, 46, 908], [zY_inflateIfNeededFor]), (.aload_n 2, [], []), (.aload_n 0, [], []), (.getfield 15, [9, 0, 2, 824], []), (.iload_n 1, [], []), (.aload_n 0, [], []), (.getfield 22, [9, 1, 3, 825], []), (.invokevirtual 399, [3, 0, 0, 50, 929, 930, 931, 48, 932], [zT_getBytes]), (.return_, [], [])]
def bY_putStringAt : xB := [(0, false, iY_putStringAt_0)]
theorem eY_putStringAt : x_blk bY_putStringAt 0 = some (false, iY_putStringAt_0) := rfl
theorem kY_putStringAt : x_chkB zY_putStringAt bY_putStringAt = true := by decide +kernel
theorem vY_putStringAt : zC zY_putStringAt = 0 ∧ zS zY_putStringAt = 0 ∧ x_rtc (zR zY_putStringAt) = 0 := ⟨rfl, rfl, rfl⟩
def iY_initI_0 : List xPI := [(.aload_n 0, [], []), (.invokespecial 3, [1003, 815, 71, 72], []), (.getstatic 18, [1, 816], []), (.ifCond .eq 18, [25], []), (.aload_n 0, [], []), (.iload_n 1, [], []), (.newarray .byte, [21, 205], []), (.putfield 15, [9, 0, 2, 824], []), (.aload_n 0, [], []), (.iconst 0, [], []), (.putfield 22, [9, 1, 3, 825], []), (.goto 16, [38], [])]
def iY_initI_38 : List xPI := [(.return_, [], [])]
def bY_initI : xB := [(0, false, iY_initI_0), (38, false, iY_initI_38)]
theorem eY_initI : x_blk bY_initI 0 = some (false, iY_initI_0) ∧ x_blk bY_initI 38 = some (false, iY_initI_38) := ⟨rfl, rfl⟩
theorem kY_initI : x_chkB zY_initI bY_initI = true := by decide +kernel
theorem vY_initI : zC zY_initI = 1 ∧ zS zY_initI = 16 ∧ x_rtc (zR zY_initI) = 0 := ⟨rfl, rfl, rfl⟩
def iY_appendC_0 : List xPI := [(.aload_n 0, [], []), (.aload_n 0, [], []), (.getfield 79, [9, 3, 0, 827], []), (.iconst 1, [], []), (.iadd, [], []), (.invokevirtual 100, [1, 1, 2000, 9, 849, 851, 0, 46, 852], [zY_ensureCapacityInternal]), (.aload_n 0, [], []), (.invokevirtual 83, [0, 0, 0, 9, 880, 881, 883, 46, 884], [zY_isLatin1]), (.ifCond .eq 31, [45], []), (.iload_n 1, [], []), (.invokestatic 191, [1, 0, 0, 1058, 1059, 54, 1060], [zU_canEncode]), (.ifCond .eq 24, [45], []), (.aload_n 0, [], []), (.getfield 15, [9, 0, 2, 824], []), (.aload_n 0, [], []), (.dup, [], []), (.getfield 79, [9, 3, 0, 827], []), (.dup_x1, [], []), (.iconst 1, [], []), (.iadd, [], []), (.putfield 79, [9, 3, 0, 827], []), (.iload_n 1, [], []), (.i2b, [], []), (.bastore, [], []), (.goto 33, [75], [])]
def iY_appendC_75 : List xPI := [(.aload_n 0, [], []), (.areturn, [], [])]
def bY_appendC : xB := [(0, false, iY_appendC_0), (75, false, iY_appendC_75)]
theorem eY_appendC : x_blk bY_appendC 0 = some (false, iY_appendC_0) ∧ x_blk bY_appendC 75 = some (false, iY_appendC_75) := ⟨rfl, rfl⟩
theorem kY_appendC : x_chkB zY_appendC bY_appendC = true := by decide +kernel
theorem vY_appendC : zC zY_appendC = 1 ∧ zS zY_appendC = 2000 ∧ x_rtc (zR zY_appendC) = 4 := ⟨rfl, rfl, rfl⟩
def iY_appendI_0 : List xPI := [(.aload_n 0, [], []), (.getfield 79, [9, 3, 0, 827], []), (.istore_n 2, [], []), (.iload_n 2, [], []), (.iload_n 1, [], []), (.invokestatic 245, [1, 0, 0, 942, 943, 56, 944], [zI_stringSize]), (.iadd, [], []), (.istore_n 3, [], []), (.aload_n 0, [], []), (.iload_n 3, [], []), (.invokevirtual 100, [1, 1, 2000, 9, 849, 851, 0, 46, 852], [zY_ensureCapacityInternal]), (.aload_n 0, [], []), (.invokevirtual 83, [0, 0, 0, 9, 880, 881, 883, 46, 884], [zY_isLatin1]), (.ifCond .eq 16, [37], []), (.iload_n 1, [], []), (.iload_n 3, [], []), (.aload_n 0, [], []), (.getfield 15, [9, 0, 2, 824], []), (.invokestatic 248, [3, 0, 0, 945, 946, 56, 947], [zI_getChars]), (.pop, [], []), (.goto 14, [48], [])]
def iY_appendI_48 : List xPI := [(.aload_n 0, [], []), (.iload_n 3, [], []), (.putfield 79, [9, 3, 0, 827], []), (.aload_n 0, [], []), (.areturn, [], [])]
def bY_appendI : xB := [(0, false, iY_appendI_0), (48, false, iY_appendI_48)]
theorem eY_appendI : x_blk bY_appendI 0 = some (false, iY_appendI_0) ∧ x_blk bY_appendI 48 = some (false, iY_appendI_48) := ⟨rfl, rfl⟩
theorem kY_appendI : x_chkB zY_appendI bY_appendI = true := by decide +kernel
theorem vY_appendI : zC zY_appendI = 1 ∧ zS zY_appendI = 2000 ∧ x_rtc (zR zY_appendI) = 4 := ⟨rfl, rfl, rfl⟩
def iY_appendS_0 : List xPI := [(.aload_n 1, [], []), (.ifnonnull 8, [9], [])]
def iY_appendS_9 : List xPI := [(.aload_n 1, [], []), (.invokevirtual 32, [0, 0, 0, 50, 900, 632, 633, 48, 634], [zT_length]), (.istore_n 2, [], []), (.aload_n 0, [], []), (.aload_n 0, [], []), (.getfield 79, [9, 3, 0, 827], []), (.iload_n 2, [], []), (.iadd, [], []), (.invokevirtual 100, [1, 1, 2000, 9, 849, 851, 0, 46, 852], [zY_ensureCapacityInternal]), (.aload_n 0, [], []), (.aload_n 0, [], []), (.getfield 79, [9, 3, 0, 827], []), (.aload_n 1, [], []), (.invokevirtual 208, [2, 0, 0, 9, 901, 903, 2, 46, 904], [zY_putStringAt]), (.aload_n 0, [], []), (.dup, [], []), (.getfield 79, [9, 3, 0, 827], []), (.iload_n 2, [], []), (.iadd, [], []), (.putfield 79, [9, 3, 0, 827], []), (.aload_n 0, [], []), (.areturn, [], [])]
def bY_appendS : xB := [(0, false, iY_appendS_0), (9, false, iY_appendS_9)]
theorem eY_appendS : x_blk bY_appendS 0 = some (false, iY_appendS_0) ∧ x_blk bY_appendS 9 = some (false, iY_appendS_9) := ⟨rfl, rfl⟩
theorem kY_appendS : x_chkB zY_appendS bY_appendS = true := by decide +kernel
theorem vY_appendS : zC zY_appendS = 1 ∧ zS zY_appendS = 2000 ∧ x_rtc (zR zY_appendS) = 4 := ⟨rfl, rfl, rfl⟩
def iQ_appendC_0 : List xPI := [(.aload_n 0, [], []), (.iload_n 1, [], []), (.invokespecial 50, [1, 1, 2000, 9, 1055, 1056, 1304, 836, 46, 1057], [zY_appendC, zY_appendC]), (.pop, [], []), (.aload_n 0, [], []), (.areturn, [], [])]
def bQ_appendC : xB := [(0, false, iQ_appendC_0)]
theorem eQ_appendC : x_blk bQ_appendC 0 = some (false, iQ_appendC_0) := rfl
theorem kQ_appendC : x_chkB zQ_appendC bQ_appendC = true := by decide +kernel
theorem vQ_appendC : zC zQ_appendC = 1 ∧ zS zQ_appendC = 2000 ∧ x_rtc (zR zQ_appendC) = 4 := ⟨rfl, rfl, rfl⟩
def iQ_appendI_0 : List xPI := [(.aload_n 0, [], []), (.iload_n 1, [], []), (.invokespecial 53, [1, 1, 2000, 9, 939, 940, 1302, 836, 46, 941], [zY_appendI, zY_appendI]), (.pop, [], []), (.aload_n 0, [], []), (.areturn, [], [])]
def bQ_appendI : xB := [(0, false, iQ_appendI_0)]
theorem eQ_appendI : x_blk bQ_appendI 0 = some (false, iQ_appendI_0) := rfl
theorem kQ_appendI : x_chkB zQ_appendI bQ_appendI = true := by decide +kernel
theorem vQ_appendI : zC zQ_appendI = 1 ∧ zS zQ_appendI = 2000 ∧ x_rtc (zR zQ_appendI) = 4 := ⟨rfl, rfl, rfl⟩
def iQ_appendS_0 : List xPI := [(.aload_n 0, [], []), (.aload_n 1, [], []), (.invokespecial 29, [1, 1, 2000, 9, 842, 843, 1295, 836, 46, 844], [zY_appendS, zY_appendS]), (.pop, [], []), (.aload_n 0, [], []), (.areturn, [], [])]
def bQ_appendS : xB := [(0, false, iQ_appendS_0)]
theorem eQ_appendS : x_blk bQ_appendS 0 = some (false, iQ_appendS_0) := rfl
theorem kQ_appendS : x_chkB zQ_appendS bQ_appendS = true := by decide +kernel
theorem vQ_appendS : zC zQ_appendS = 1 ∧ zS zQ_appendS = 2000 ∧ x_rtc (zR zQ_appendS) = 4 := ⟨rfl, rfl, rfl⟩
def iQ_init_0 : List xPI := [(.aload_n 0, [], []), (.bipush 16, [], []), (.invokespecial 1, [1, 1, 16, 9, 0, 812, 813, 46, 814], [zY_initI]), (.return_, [], [])]
def bQ_init : xB := [(0, false, iQ_init_0)]
theorem eQ_init : x_blk bQ_init 0 = some (false, iQ_init_0) := rfl
theorem kQ_init : x_chkB zQ_init bQ_init = true := by decide +kernel
theorem vQ_init : zC zQ_init = 1 ∧ zS zQ_init = 16 ∧ x_rtc (zR zQ_init) = 0 := ⟨rfl, rfl, rfl⟩
def iQ_appendB_0 : List xPI := [(.aload_n 0, [], []), (.aload_n 1, [], []), (.invokevirtual 23, [1, 1, 2000, 9, 1049, 839, 840, 47, 841], [zQ_appendS]), (.areturn, [], [])]
def bQ_appendB : xB := [(0, false, iQ_appendB_0)]
theorem eQ_appendB : x_blk bQ_appendB 0 = some (false, iQ_appendB_0) := rfl
theorem kQ_appendB : x_chkB zQ_appendB bQ_appendB = true := by decide +kernel
theorem vQ_appendB : zC zQ_appendB = 1 ∧ zS zQ_appendB = 2000 ∧ x_rtc (zR zQ_appendB) = 4 := ⟨rfl, rfl, rfl⟩
def iQ_length_0 : List xPI := [(.aload_n 0, [], []), (.invokespecial 343, [0, 0, 0, 9, 987, 982, 983, 836, 46, 988], [zY_length, zY_length]), (.ireturn, [], [])]
def bQ_length : xB := [(0, false, iQ_length_0)]
theorem eQ_length : x_blk bQ_length 0 = some (false, iQ_length_0) := rfl
theorem kQ_length : x_chkB zQ_length bQ_length = true := by decide +kernel
theorem vQ_length : zC zQ_length = 0 ∧ zS zQ_length = 0 ∧ x_rtc (zR zQ_length) = 1 := ⟨rfl, rfl, rfl⟩
def iY_initS_0 : List xPI := [(.aload_n 0, [], []), (.invokespecial 3, [1003, 815, 71, 72], []), (.aload_n 1, [], []), (.invokevirtual 32, [0, 0, 0, 8, 900, 632, 633, 48, 634], [zT_length]), (.istore_n 2, [], []), (.iload_n 2, [], []), (.ldc 38, [1, 2147483631, 1045], []), (.if_icmp .ge 10, [22], []), (.iload_n 2, [], []), (.bipush 16, [], []), (.iadd, [], []), (.goto 5, [24], [])]
def iY_initS_24 : List xPI := [(.istore_n 3, [], []), (.aload_n 1, [], []), (.invokevirtual 40, [0, 0, 0, 8, 909, 636, 637, 48, 638], [zT_coder]), (.istore 4, [], []), (.aload_n 0, [], []), (.iload 4, [], []), (.putfield 22, [9, 1, 3, 825], []), (.aload_n 0, [], []), (.iload 4, [], []), (.ifCond .ne 9, [49], []), (.iload_n 3, [], []), (.newarray .byte, [21, 205], []), (.goto 7, [53], [])]
def iY_initS_53 : List xPI := [(.putfield 15, [9, 0, 2, 824], []), (.aload_n 0, [], []), (.aload_n 1, [], []), (.invokevirtual 43, [1, 1, 2000, 9, 1046, 1047, 1303, 47, 1048, 1295, 843, 844], [zQ_appendB, zY_appendS]), (.pop, [], []), (.return_, [], [])]
def bY_initS : xB := [(0, false, iY_initS_0), (24, false, iY_initS_24), (53, false, iY_initS_53)]
theorem eY_initS : x_blk bY_initS 0 = some (false, iY_initS_0) ∧ x_blk bY_initS 24 = some (false, iY_initS_24) ∧ x_blk bY_initS 53 = some (false, iY_initS_53) := ⟨rfl, rfl, rfl⟩
theorem kY_initS : x_chkB zY_initS bY_initS = true := by decide +kernel
theorem vY_initS : zC zY_initS = 2 ∧ zS zY_initS = 2040 ∧ x_rtc (zR zY_initS) = 0 := ⟨rfl, rfl, rfl⟩
def iQ_initS_0 : List xPI := [(.aload_n 0, [], []), (.aload_n 1, [], []), (.invokespecial 7, [1, 2, 2040, 9, 0, 1042, 1043, 46, 1044], [zY_initS]), (.return_, [], [])]
def bQ_initS : xB := [(0, false, iQ_initS_0)]
theorem eQ_initS : x_blk bQ_initS 0 = some (false, iQ_initS_0) := rfl
theorem kQ_initS : x_chkB zQ_initS bQ_initS = true := by decide +kernel
theorem vQ_initS : zC zQ_initS = 2 ∧ zS zQ_initS = 2040 ∧ x_rtc (zR zQ_initS) = 0 := ⟨rfl, rfl, rfl⟩
def iT_initY_0 : List xPI := [(.aload_n 0, [], []), (.invokespecial 1, [1003, 975, 71, 72], []), (.aload_n 1, [], []), (.invokevirtual 552, [0, 0, 0, 9, 976, 977, 979, 46, 980], [zY_getValue]), (.astore_n 3, [], []), (.aload_n 1, [], []), (.invokevirtual 549, [0, 0, 0, 9, 981, 985, 984, 47, 986, 983, 982, 988], [zQ_length, zY_length]), (.istore 4, [], []), (.aload_n 1, [], []), (.invokevirtual 1047, [0, 0, 0, 9, 989, 881, 883, 46, 884], [zY_isLatin1]), (.ifCond .eq 22, [41], []), (.aload_n 0, [], []), (.iconst 0, [], []), (.putfield 15, [8, 1, 3, 1029], []), (.aload_n 0, [], []), (.aload_n 3, [], []), (.iconst 0, [], []), (.iload 4, [], []), (.invokestatic 54, [3, 1, 1000, 990, 991, 41, 992], [zA_copyOfRange]), (.putfield 9, [8, 0, 2, 1028], []), (.goto 59, [97], [])]
def iT_initY_97 : List xPI := [(.return_, [], [])]
def bT_initY : xB := [(0, false, iT_initY_0), (97, false, iT_initY_97)]
theorem eT_initY : x_blk bT_initY 0 = some (false, iT_initY_0) ∧ x_blk bT_initY 97 = some (false, iT_initY_97) := ⟨rfl, rfl⟩
theorem kT_initY : x_chkB zT_initY bT_initY = true := by decide +kernel
theorem vT_initY : zC zT_initY = 1 ∧ zS zT_initY = 1000 ∧ x_rtc (zR zT_initY) = 0 := ⟨rfl, rfl, rfl⟩
def iT_initQ_0 : List xPI := [(.aload_n 0, [], []), (.aload_n 1, [], []), (.aconst_null, [], []), (.invokespecial 489, [2, 1, 1000, 8, 0, 972, 973, 48, 974], [zT_initY]), (.return_, [], [])]
def bT_initQ : xB := [(0, false, iT_initQ_0)]
theorem eT_initQ : x_blk bT_initQ 0 = some (false, iT_initQ_0) := rfl
theorem kT_initQ : x_chkB zT_initQ bT_initQ = true := by decide +kernel
theorem vT_initQ : zC zT_initQ = 1 ∧ zS zT_initQ = 1000 ∧ x_rtc (zR zT_initQ) = 0 := ⟨rfl, rfl, rfl⟩
def iQ_toString_0 : List xPI := [(.new 18, [8, 967, 968, 48], []), (.dup, [], []), (.aload_n 0, [], []), (.invokespecial 137, [1, 1, 1000, 8, 0, 969, 970, 48, 971], [zT_initQ]), (.areturn, [], [])]
def bQ_toString : xB := [(0, false, iQ_toString_0)]
theorem eQ_toString : x_blk bQ_toString 0 = some (false, iQ_toString_0) := rfl
theorem kQ_toString : x_chkB zQ_toString bQ_toString = true := by decide +kernel
theorem vQ_toString : zC zQ_toString = 2 ∧ zS zQ_toString = 1004 ∧ x_rtc (zR zQ_toString) = 4 := ⟨rfl, rfl, rfl⟩
def iY_inflateIfNeededForh_0 : List xPI := [(.getstatic 18, [1, 816], []), (.ifCond .eq 18, [21], []), (.aload_n 0, [], []), (.getfield 22, [9, 1, 3, 825], []), (.aload_n 1, [], []), (.invokevirtual 40, [0, 0, 0, 8, 909, 636, 637, 48, 638], [zT_coder]), (.if_icmp .eq 7, [21], [])]
def iY_inflateIfNeededForh_21 : List xPI := [(.return_, [], [])]
def bY_inflateIfNeededForh : xB := [(0, false, iY_inflateIfNeededForh_0), (21, false, iY_inflateIfNeededForh_21)]
theorem eY_inflateIfNeededForh : x_blk bY_inflateIfNeededForh 0 = some (false, iY_inflateIfNeededForh_0) ∧ x_blk bY_inflateIfNeededForh 21 = some (false, iY_inflateIfNeededForh_21) := ⟨rfl, rfl⟩
theorem kY_inflateIfNeededForh : x_chkB zY_inflateIfNeededFor bY_inflateIfNeededForh = true := by decide +kernel
def iY_putStringAth_0 : List xPI := [(.aload_n 0, [], []), (.aload_n 2, [], []), (.invokevirtual 397, [1, 0, 0, 9, 905, 907, 3, 46, 908], [zY_inflateIfNeededFor]), (.aload_n 2, [], []), (.aload_n 0, [], []), (.getfield 15, [9, 0, 2, 824], []), (.iload_n 1, [], []), (.aload_n 0, [], []), (.getfield 22, [9, 1, 3, 825], []), (.invokevirtual 399, [3, 0, 0, 8, 929, 930, 931, 48, 932], [zT_getBytes]), (.return_, [], [])]
def bY_putStringAth : xB := [(0, false, iY_putStringAth_0)]
theorem eY_putStringAth : x_blk bY_putStringAth 0 = some (false, iY_putStringAth_0) := rfl
theorem kY_putStringAth : x_chkB zY_putStringAt bY_putStringAth = true := by decide +kernel
def iY_appendSh_0 : List xPI := [(.aload_n 1, [], []), (.ifnonnull 8, [9], [])]
def iY_appendSh_9 : List xPI := [(.aload_n 1, [], []), (.invokevirtual 32, [0, 0, 0, 8, 900, 632, 633, 48, 634], [zT_length]), (.istore_n 2, [], []), (.aload_n 0, [], []), (.aload_n 0, [], []), (.getfield 79, [9, 3, 0, 827], []), (.iload_n 2, [], []), (.iadd, [], []), (.invokevirtual 100, [1, 1, 2000, 9, 849, 851, 0, 46, 852], [zY_ensureCapacityInternal]), (.aload_n 0, [], []), (.aload_n 0, [], []), (.getfield 79, [9, 3, 0, 827], []), (.aload_n 1, [], []), (.invokevirtual 208, [2, 0, 0, 9, 901, 903, 2, 46, 904], [zY_putStringAt]), (.aload_n 0, [], []), (.dup, [], []), (.getfield 79, [9, 3, 0, 827], []), (.iload_n 2, [], []), (.iadd, [], []), (.putfield 79, [9, 3, 0, 827], []), (.aload_n 0, [], []), (.areturn, [], [])]
def bY_appendSh : xB := [(0, false, iY_appendSh_0), (9, false, iY_appendSh_9)]
theorem eY_appendSh : x_blk bY_appendSh 0 = some (false, iY_appendSh_0) ∧ x_blk bY_appendSh 9 = some (false, iY_appendSh_9) := ⟨rfl, rfl⟩
theorem kY_appendSh : x_chkB zY_appendS bY_appendSh = true := by decide +kernel
def iT_length_0 : List xPI := [(.aload_n 0, [], []), (.getfield 9, [8, 0, 2, 1028], []), (.arraylength, [], []), (.aload_n 0, [], []), (.invokevirtual 335, [0, 0, 0, 8, 635, 636, 637, 48, 638], [zT_coder]), (.ishr, [], []), (.ireturn, [], [])]
def bT_length : xB := [(0, false, iT_length_0)]
theorem eT_length : x_blk bT_length 0 = some (false, iT_length_0) := rfl
theorem kT_length : x_chkB zT_length bT_length = true := by decide +kernel
theorem vT_length : zC zT_length = 0 ∧ zS zT_length = 0 ∧ x_rtc (zR zT_length) = 1 := ⟨rfl, rfl, rfl⟩
def iT_coder_0 : List xPI := [(.getstatic 38, [1, 639], []), (.ifCond .eq 10, [13], []), (.aload_n 0, [], []), (.getfield 15, [8, 1, 3, 1029], []), (.goto 4, [14], [])]
def iT_coder_14 : List xPI := [(.ireturn, [], [])]
def bT_coder : xB := [(0, false, iT_coder_0), (14, false, iT_coder_14)]
theorem eT_coder : x_blk bT_coder 0 = some (false, iT_coder_0) ∧ x_blk bT_coder 14 = some (false, iT_coder_14) := ⟨rfl, rfl⟩
theorem kT_coder : x_chkB zT_coder bT_coder = true := by decide +kernel
theorem vT_coder : zC zT_coder = 0 ∧ zS zT_coder = 0 ∧ x_rtc (zR zT_coder) = 5 := ⟨rfl, rfl, rfl⟩
def iT_isLatin1_0 : List xPI := [(.getstatic 38, [1, 639], []), (.ifCond .eq 14, [17], []), (.aload_n 0, [], []), (.getfield 15, [8, 1, 3, 1029], []), (.ifCond .ne 7, [17], []), (.iconst 1, [], []), (.goto 4, [18], [])]
def iT_isLatin1_18 : List xPI := [(.ireturn, [], [])]
def bT_isLatin1 : xB := [(0, false, iT_isLatin1_0), (18, false, iT_isLatin1_18)]
theorem eT_isLatin1 : x_blk bT_isLatin1 0 = some (false, iT_isLatin1_0) ∧ x_blk bT_isLatin1 18 = some (false, iT_isLatin1_18) := ⟨rfl, rfl⟩
theorem kT_isLatin1 : x_chkB zT_isLatin1 bT_isLatin1 = true := by decide +kernel
theorem vT_isLatin1 : zC zT_isLatin1 = 0 ∧ zS zT_isLatin1 = 0 ∧ x_rtc (zR zT_isLatin1) = 2 := ⟨rfl, rfl, rfl⟩
def iT_charAt_0 : List xPI := [(.aload_n 0, [], []), (.invokevirtual 492, [0, 0, 0, 8, 645, 646, 647, 48, 648], [zT_isLatin1]), (.ifCond .eq 12, [16], []), (.aload_n 0, [], []), (.getfield 9, [8, 0, 2, 1028], []), (.iload_n 1, [], []), (.invokestatic 495, [2, 0, 0, 649, 650, 54, 651], [zU_charAt]), (.ireturn, [], [])]
def bT_charAt : xB := [(0, false, iT_charAt_0)]
theorem eT_charAt : x_blk bT_charAt 0 = some (false, iT_charAt_0) := rfl
theorem kT_charAt : x_chkB zT_charAt bT_charAt = true := by decide +kernel
theorem vT_charAt : zC zT_charAt = 0 ∧ zS zT_charAt = 0 ∧ x_rtc (zR zT_charAt) = 6 := ⟨rfl, rfl, rfl⟩
def iU_charAt_0 : List xPI := [(.iload_n 1, [], []), (.aload_n 0, [], []), (.arraylength, [], []), (.invokestatic 9, [2, 0, 0, 652, 653, 48, 654], [zT_checkIndex]), (.aload_n 0, [], []), (.iload_n 1, [], []), (.baload, [], []), (.sipush 255, [], []), (.iand, [], []), (.i2c, [], []), (.ireturn, [], [])]
def bU_charAt : xB := [(0, false, iU_charAt_0)]
theorem eU_charAt : x_blk bU_charAt 0 = some (false, iU_charAt_0) := rfl
theorem kU_charAt : x_chkB zU_charAt bU_charAt = true := by decide +kernel
theorem vU_charAt : zC zU_charAt = 0 ∧ zS zU_charAt = 0 ∧ x_rtc (zR zU_charAt) = 6 := ⟨rfl, rfl, rfl⟩
def iT_getBytes_0 : List xPI := [(.aload_n 0, [], []), (.invokevirtual 335, [0, 0, 0, 8, 635, 636, 637, 48, 638], [zT_coder]), (.iload_n 3, [], []), (.if_icmp .ne 23, [28], []), (.aload_n 0, [], []), (.getfield 9, [8, 0, 2, 1028], []), (.iconst 0, [], []), (.aload_n 1, [], []), (.iload_n 2, [], []), (.iload_n 3, [], []), (.ishl, [], []), (.aload_n 0, [], []), (.getfield 9, [8, 0, 2, 1028], []), (.arraylength, [], []), (.invokestatic 212, [1005, 933, 520, 519, 52], []), (.goto 18, [43], [])]
def iT_getBytes_43 : List xPI := [(.return_, [], [])]
def bT_getBytes : xB := [(0, false, iT_getBytes_0), (43, false, iT_getBytes_43)]
theorem eT_getBytes : x_blk bT_getBytes 0 = some (false, iT_getBytes_0) ∧ x_blk bT_getBytes 43 = some (false, iT_getBytes_43) := ⟨rfl, rfl⟩
theorem kT_getBytes : x_chkB zT_getBytes bT_getBytes = true := by decide +kernel
theorem vT_getBytes : zC zT_getBytes = 0 ∧ zS zT_getBytes = 0 ∧ x_rtc (zR zT_getBytes) = 0 := ⟨rfl, rfl, rfl⟩
