/-! the law's blocks (wip/p48/genlaw.py) -/
def iL_law_0 : List xPI := [(.new 19, [7, 65, 66, 38], []), (.dup, [], []), (.invokespecial 228, [0, 39, 8056, 7, 0, 67, 68, 38, 69], [zP_init]), (.astore_n 1, [], []), (.iconst 1, [], []), (.newarray .int, [20, 165], []), (.dup, [], []), (.iconst 0, [], []), (.aload_n 0, [], []), (.arraylength, [], []), (.ifCond .ne 9, [24], []), (.sipush 5252, [], []), (.goto 6, [27], [])]
theorem kL_law_0 : x_chk zL_law 0 iL_law_0 = true := by decide +kernel
def iL_law_24 : List xPI := [(.aload_n 0, [], []), (.iconst 0, [], []), (.iaload, [], []), (.nop, [27], [])]
theorem kL_law_24 : x_chk zL_law 24 iL_law_24 = true := by decide +kernel
def iL_law_27 : List xPI := [(.iastore, [], []), (.astore_n 2, [], []), (.iconst 1, [], []), (.istore_n 3, [], []), (.iconst 0, [], []), (.istore 4, [], []), (.nop, [34], [])]
theorem kL_law_27 : x_chk zL_law 27 iL_law_27 = true := by decide +kernel
def iL_law_34 : List xPI := [(.iload 4, [], []), (.iconst 4, [], []), (.if_icmp .ge 412, [449], []), (.iload_n 3, [], []), (.ifCond .eq 408, [449], []), (.aload_n 2, [], []), (.iconst 0, [], []), (.dup2, [], []), (.iaload, [], []), (.iload 4, [], []), (.aload_n 0, [], []), (.arraylength, [], []), (.if_icmp .ge 10, [62], []), (.aload_n 0, [], []), (.iload 4, [], []), (.iaload, [], []), (.goto 4, [63], [])]
theorem kL_law_34 : x_chk zL_law 34 iL_law_34 = true := by decide +kernel
def iL_law_62 : List xPI := [(.iconst 0, [], []), (.nop, [63], [])]
theorem kL_law_62 : x_chk zL_law 62 iL_law_62 = true := by decide +kernel
def iL_law_63 : List xPI := [(.ixor, [], []), (.iastore, [], []), (.bipush 6, [], []), (.aload_n 2, [], []), (.invokestatic 50, [1, 0, 0, 620, 621, 37, 622], [zL_next]), (.bipush 12, [], []), (.irem, [], []), (.iadd, [], []), (.istore 5, [], []), (.aload_n 1, [], []), (.aload_n 2, [], []), (.iload 5, [], []), (.invokestatic 229, [2, 200, 310000, 804, 805, 37, 806], [zL_score]), (.invokestatic 233, [2, 101, 606, 624, 625, 37, 626], [zL_load]), (.iload 5, [], []), (.if_icmp .le 15, [104], []), (.aload_n 1, [], []), (.invokevirtual 153, [0, 0, 0, 7, 438, 439, 440, 38, 441], [zP_parts]), (.iconst 3, [], []), (.if_icmp .ne 7, [104], []), (.iconst 1, [], []), (.goto 4, [105], [])]
theorem kL_law_63 : x_chk zL_law 63 iL_law_63 = true := by decide +kernel
def iL_law_104 : List xPI := [(.iconst 0, [], []), (.nop, [105], [])]
theorem kL_law_104 : x_chk zL_law 104 iL_law_104 = true := by decide +kernel
def iL_law_105 : List xPI := [(.istore_n 3, [], []), (.aload_n 1, [], []), (.invokevirtual 90, [0, 0, 0, 7, 334, 335, 336, 38, 337], [zP_bars]), (.iconst 1, [], []), (.isub, [], []), (.istore 6, [], []), (.iconst 0, [], []), (.istore 7, [], []), (.nop, [117], [])]
theorem kL_law_105 : x_chk zL_law 105 iL_law_105 = true := by decide +kernel
def iL_law_117 : List xPI := [(.iload 7, [], []), (.bipush 14, [], []), (.if_icmp .ge 322, [443], []), (.iload_n 3, [], []), (.ifCond .eq 318, [443], []), (.aload_n 1, [], []), (.invokestatic 236, [1, 1000, 6000, 1165, 1166, 37, 1167], [zL_sum]), (.lstore 8, [], []), (.aload_n 1, [], []), (.invokevirtual 240, [0, 0, 0, 7, 616, 617, 618, 38, 619], [zP_undoCount]), (.istore 10, [], []), (.aload_n 1, [], []), (.aload_n 2, [], []), (.invokestatic 243, [2, 18, 2492, 1080, 1081, 37, 1082], [zL_change]), (.istore 11, [], []), (.iload 11, [], []), (.ifCond .eq 27, [176], []), (.aload_n 1, [], []), (.invokevirtual 240, [0, 0, 0, 7, 616, 617, 618, 38, 619], [zP_undoCount]), (.bipush 10, [], []), (.iload 10, [], []), (.iconst 1, [], []), (.iadd, [], []), (.invokestatic 76, [1001, 1067, 522, 51, 523], []), (.if_icmp .ne 7, [172], []), (.iconst 1, [], []), (.goto 31, [200], [])]
theorem kL_law_117 : x_chk zL_law 117 iL_law_117 = true := by decide +kernel
def iL_law_172 : List xPI := [(.iconst 0, [], []), (.goto 27, [200], [])]
theorem kL_law_172 : x_chk zL_law 172 iL_law_172 = true := by decide +kernel
def iL_law_176 : List xPI := [(.aload_n 1, [], []), (.invokevirtual 240, [0, 0, 0, 7, 616, 617, 618, 38, 619], [zP_undoCount]), (.iload 10, [], []), (.if_icmp .ne 17, [199], []), (.aload_n 1, [], []), (.invokestatic 236, [1, 1000, 6000, 1165, 1166, 37, 1167], [zL_sum]), (.lload 8, [], []), (.lcmp, [], []), (.ifCond .ne 7, [199], []), (.iconst 1, [], []), (.goto 4, [200], [])]
theorem kL_law_176 : x_chk zL_law 176 iL_law_176 = true := by decide +kernel
def iL_law_199 : List xPI := [(.iconst 0, [], []), (.nop, [200], [])]
theorem kL_law_199 : x_chk zL_law 199 iL_law_199 = true := by decide +kernel
def iL_law_200 : List xPI := [(.istore_n 3, [], []), (.iload 11, [], []), (.ifCond .eq 50, [253], []), (.aload_n 2, [], []), (.invokestatic 50, [1, 0, 0, 620, 621, 37, 622], [zL_next]), (.iconst 4, [], []), (.irem, [], []), (.ifCond .ne 41, [253], []), (.iload_n 3, [], []), (.ifCond .eq 37, [253], []), (.aload_n 1, [], []), (.invokestatic 247, [1, 1, 6, 1154, 1155, 37, 1156], [zL_undone]), (.bipush 10, [], []), (.iload 10, [], []), (.iconst 1, [], []), (.iadd, [], []), (.invokestatic 76, [1001, 1067, 522, 51, 523], []), (.iconst 1, [], []), (.isub, [], []), (.if_icmp .ne 17, [251], []), (.aload_n 1, [], []), (.invokestatic 236, [1, 1000, 6000, 1165, 1166, 37, 1167], [zL_sum]), (.lload 8, [], []), (.lcmp, [], []), (.ifCond .ne 7, [251], []), (.iconst 1, [], []), (.goto 4, [252], [])]
theorem kL_law_200 : x_chk zL_law 200 iL_law_200 = true := by decide +kernel
def iL_law_251 : List xPI := [(.iconst 0, [], []), (.nop, [252], [])]
theorem kL_law_251 : x_chk zL_law 251 iL_law_251 = true := by decide +kernel
def iL_law_252 : List xPI := [(.istore_n 3, [], []), (.nop, [253], [])]
theorem kL_law_252 : x_chk zL_law 252 iL_law_252 = true := by decide +kernel
def iL_law_253 : List xPI := [(.iload_n 3, [], []), (.ifCond .eq 14, [268], []), (.aload_n 1, [], []), (.invokestatic 251, [1, 1100, 6600, 1185, 1186, 37, 1187], [zL_bars]), (.ifCond .eq 7, [268], []), (.iconst 1, [], []), (.goto 4, [269], [])]
theorem kL_law_253 : x_chk zL_law 253 iL_law_253 = true := by decide +kernel
def iL_law_268 : List xPI := [(.iconst 0, [], []), (.nop, [269], [])]
theorem kL_law_268 : x_chk zL_law 268 iL_law_268 = true := by decide +kernel
def iL_law_269 : List xPI := [(.istore_n 3, [], []), (.iconst 0, [], []), (.istore 12, [], []), (.nop, [273], [])]
theorem kL_law_269 : x_chk zL_law 269 iL_law_269 = true := by decide +kernel
def iL_law_273 : List xPI := [(.iload 12, [], []), (.iconst 3, [], []), (.if_icmp .ge 37, [313], []), (.iload_n 3, [], []), (.ifCond .eq 33, [313], []), (.aload_n 1, [], []), (.iload 12, [], []), (.invokestatic 254, [2, 1300, 7800, 1239, 1240, 37, 1241], [zL_items]), (.ifCond .eq 16, [305], []), (.aload_n 1, [], []), (.iload 12, [], []), (.invokestatic 257, [2, 720, 4320, 1287, 1288, 37, 1289], [zL_errata]), (.ifCond .eq 7, [305], []), (.iconst 1, [], []), (.goto 4, [306], [])]
theorem kL_law_273 : x_chk zL_law 273 iL_law_273 = true := by decide +kernel
def iL_law_305 : List xPI := [(.iconst 0, [], []), (.nop, [306], [])]
theorem kL_law_305 : x_chk zL_law 305 iL_law_305 = true := by decide +kernel
def iL_law_306 : List xPI := [(.istore_n 3, [], []), (.iinc 12 1, [], []), (.goto (-37), [273], [])]
theorem kL_law_306 : x_chk zL_law 306 iL_law_306 = true := by decide +kernel
def iL_law_313 : List xPI := [(.iload_n 3, [], []), (.ifCond .eq 72, [386], []), (.aload_n 2, [], []), (.invokestatic 50, [1, 0, 0, 620, 621, 37, 622], [zL_next]), (.iconst 4, [], []), (.irem, [], []), (.ifCond .ne 63, [386], []), (.aload_n 1, [], []), (.iconst (-1), [], []), (.iconst 1, [], []), (.iconst 4, [], []), (.invokestatic 123, [4, 12, 1736, 1072, 1073, 37, 1074], [zL_inserted]), (.istore 12, [], []), (.iload 12, [], []), (.iload 6, [], []), (.if_icmp .le 41, [380], []), (.aload_n 1, [], []), (.iconst 0, [], []), (.invokevirtual 93, [1, 1, 6, 7, 338, 339, 340, 38, 341], [zP_barAt]), (.iload 12, [], []), (.if_icmp .ne 31, [380], []), (.aload_n 1, [], []), (.iload 12, [], []), (.iconst 1, [], []), (.invokevirtual 179, [2, 1, 6, 7, 407, 408, 409, 38, 410], [zP_barN]), (.iconst 1, [], []), (.if_icmp .ne 20, [380], []), (.aload_n 1, [], []), (.iload 12, [], []), (.invokevirtual 100, [1, 12, 1736, 7, 497, 498, 499, 38, 500], [zP_erase]), (.aload_n 1, [], []), (.invokevirtual 90, [0, 0, 0, 7, 334, 335, 336, 38, 337], [zP_bars]), (.if_icmp .ne 7, [380], []), (.iconst 1, [], []), (.goto 4, [381], [])]
theorem kL_law_313 : x_chk zL_law 313 iL_law_313 = true := by decide +kernel
def iL_law_380 : List xPI := [(.iconst 0, [], []), (.nop, [381], [])]
theorem kL_law_380 : x_chk zL_law 380 iL_law_380 = true := by decide +kernel
def iL_law_381 : List xPI := [(.istore_n 3, [], []), (.iload 12, [], []), (.istore 6, [], []), (.nop, [386], [])]
theorem kL_law_381 : x_chk zL_law 381 iL_law_381 = true := by decide +kernel
def iL_law_386 : List xPI := [(.aload_n 2, [], []), (.invokestatic 50, [1, 0, 0, 620, 621, 37, 622], [zL_next]), (.iconst 3, [], []), (.irem, [], []), (.istore 12, [], []), (.iload_n 3, [], []), (.ifCond .eq 40, [435], []), (.aload_n 2, [], []), (.invokestatic 50, [1, 0, 0, 620, 621, 37, 622], [zL_next]), (.iconst 3, [], []), (.irem, [], []), (.ifCond .gt 27, [431], []), (.aload_n 1, [], []), (.iload 12, [], []), (.invokevirtual 156, [1, 18, 2492, 7, 579, 580, 581, 38, 582], [zP_print]), (.aload_n 1, [], []), (.iload 12, [], []), (.invokevirtual 204, [1, 1, 6, 7, 442, 443, 444, 38, 445], [zP_items]), (.if_icmp .ne 16, [435], []), (.aload_n 1, [], []), (.iload 12, [], []), (.invokevirtual 222, [1, 2, 12, 7, 462, 463, 464, 38, 465], [zP_errata]), (.ifCond .ne 7, [435], []), (.nop, [431], [])]
theorem kL_law_386 : x_chk zL_law 386 iL_law_386 = true := by decide +kernel
def iL_law_431 : List xPI := [(.iconst 1, [], []), (.goto 4, [436], [])]
theorem kL_law_431 : x_chk zL_law 431 iL_law_431 = true := by decide +kernel
def iL_law_435 : List xPI := [(.iconst 0, [], []), (.nop, [436], [])]
theorem kL_law_435 : x_chk zL_law 435 iL_law_435 = true := by decide +kernel
def iL_law_436 : List xPI := [(.istore_n 3, [], []), (.iinc 7 1, [], []), (.goto (-323), [117], [])]
theorem kL_law_436 : x_chk zL_law 436 iL_law_436 = true := by decide +kernel
def iL_law_443 : List xPI := [(.iinc 4 1, [], []), (.goto (-412), [34], [])]
theorem kL_law_443 : x_chk zL_law 443 iL_law_443 = true := by decide +kernel
def iL_law_449 : List xPI := [(.iload_n 3, [], []), (.ireturn, [], [])]
theorem kL_law_449 : x_chk zL_law 449 iL_law_449 = true := by decide +kernel
