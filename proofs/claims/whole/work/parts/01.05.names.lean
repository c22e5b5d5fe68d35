theorem dX5_works_391 : decode cX5_works 391 = .ok (.iload_n 2, 1) := by decide +kernel
theorem dX5_works_392 : decode cX5_works 392 = .ok (.laload, 1) := by decide +kernel
theorem dX5_works_393 : decode cX5_works 393 = .ok (.aload_n 0, 1) := by decide +kernel
theorem dX5_works_394 : decode cX5_works 394 = .ok (.getfield 69, 3) := by decide +kernel
theorem dX5_works_397 : decode cX5_works 397 = .ok (.iload_n 2, 1) := by decide +kernel
theorem dX5_works_398 : decode cX5_works 398 = .ok (.laload, 1) := by decide +kernel
theorem dX5_works_399 : decode cX5_works 399 = .ok (.lcmp, 1) := by decide +kernel
theorem dX5_works_400 : decode cX5_works 400 = .ok (.ifCond .lt 19, 3) := by decide +kernel
theorem dX5_works_403 : decode cX5_works 403 = .ok (.aload_n 0, 1) := by decide +kernel
theorem dX5_works_404 : decode cX5_works 404 = .ok (.getfield 66, 3) := by decide +kernel
theorem dX5_works_407 : decode cX5_works 407 = .ok (.iload_n 2, 1) := by decide +kernel
theorem dX5_works_408 : decode cX5_works 408 = .ok (.laload, 1) := by decide +kernel
theorem dX5_works_409 : decode cX5_works 409 = .ok (.aload_n 0, 1) := by decide +kernel
theorem dX5_works_410 : decode cX5_works 410 = .ok (.getfield 72, 3) := by decide +kernel
theorem dX5_works_413 : decode cX5_works 413 = .ok (.iload_n 2, 1) := by decide +kernel
theorem dX5_works_414 : decode cX5_works 414 = .ok (.laload, 1) := by decide +kernel
theorem dX5_works_415 : decode cX5_works 415 = .ok (.lcmp, 1) := by decide +kernel
theorem dX5_works_416 : decode cX5_works 416 = .ok (.ifCond .le 5, 3) := by decide +kernel
theorem dX5_works_419 : decode cX5_works 419 = .ok (.iconst 0, 1) := by decide +kernel
theorem dX5_works_420 : decode cX5_works 420 = .ok (.istore_n 1, 1) := by decide +kernel
theorem dX5_works_421 : decode cX5_works 421 = .ok (.iinc 2 1, 3) := by decide +kernel
theorem dX5_works_424 : decode cX5_works 424 = .ok (.goto (-79), 3) := by decide +kernel
theorem dX5_works_427 : decode cX5_works 427 = .ok (.iconst 0, 1) := by decide +kernel
theorem dX5_works_428 : decode cX5_works 428 = .ok (.istore_n 2, 1) := by decide +kernel
theorem dX5_works_429 : decode cX5_works 429 = .ok (.iload_n 2, 1) := by decide +kernel
theorem dX5_works_430 : decode cX5_works 430 = .ok (.aload_n 0, 1) := by decide +kernel
theorem dX5_works_431 : decode cX5_works 431 = .ok (.getfield 108, 3) := by decide +kernel
theorem dX5_works_434 : decode cX5_works 434 = .ok (.if_icmp .ge 27, 3) := by decide +kernel
theorem dX5_works_437 : decode cX5_works 437 = .ok (.iload_n 1, 1) := by decide +kernel
theorem dX5_works_438 : decode cX5_works 438 = .ok (.ifCond .eq 15, 3) := by decide +kernel
theorem dX5_works_441 : decode cX5_works 441 = .ok (.aload_n 0, 1) := by decide +kernel
theorem dX5_works_442 : decode cX5_works 442 = .ok (.iload_n 2, 1) := by decide +kernel
theorem dX5_works_443 : decode cX5_works 443 = .ok (.invokevirtual 111, 3) := by decide +kernel
theorem dX5_works_446 : decode cX5_works 446 = .ok (.ifCond .eq 7, 3) := by decide +kernel
theorem dX5_works_449 : decode cX5_works 449 = .ok (.iconst 1, 1) := by decide +kernel
theorem dX5_works_450 : decode cX5_works 450 = .ok (.goto 4, 3) := by decide +kernel
theorem dX5_works_453 : decode cX5_works 453 = .ok (.iconst 0, 1) := by decide +kernel
theorem dX5_works_454 : decode cX5_works 454 = .ok (.istore_n 1, 1) := by decide +kernel
theorem dX5_works_455 : decode cX5_works 455 = .ok (.iinc 2 1, 3) := by decide +kernel
theorem dX5_works_458 : decode cX5_works 458 = .ok (.goto (-29), 3) := by decide +kernel
theorem dX5_works_461 : decode cX5_works 461 = .ok (.iload_n 1, 1) := by decide +kernel
theorem dX5_works_462 : decode cX5_works 462 = .ok (.ireturn, 1) := by decide +kernel
theorem dX5_isKnown_0 : decode cX5_isKnown 0 = .ok (.aload_n 0, 1) := by decide +kernel
theorem dX5_isKnown_1 : decode cX5_isKnown 1 = .ok (.getfield 59, 3) := by decide +kernel
theorem dX5_isKnown_4 : decode cX5_isKnown 4 = .ok (.aload_n 0, 1) := by decide +kernel
theorem dX5_isKnown_5 : decode cX5_isKnown 5 = .ok (.getfield 56, 3) := by decide +kernel
theorem dX5_isKnown_8 : decode cX5_isKnown 8 = .ok (.iload_n 1, 1) := by decide +kernel
theorem dX5_isKnown_9 : decode cX5_isKnown 9 = .ok (.iaload, 1) := by decide +kernel
theorem dX5_isKnown_10 : decode cX5_isKnown 10 = .ok (.baload, 1) := by decide +kernel
theorem dX5_isKnown_11 : decode cX5_isKnown 11 = .ok (.ifCond .ne 17, 3) := by decide +kernel
theorem dX5_isKnown_14 : decode cX5_isKnown 14 = .ok (.aload_n 0, 1) := by decide +kernel
theorem dX5_isKnown_15 : decode cX5_isKnown 15 = .ok (.getfield 75, 3) := by decide +kernel
theorem dX5_isKnown_18 : decode cX5_isKnown 18 = .ok (.aload_n 0, 1) := by decide +kernel
theorem dX5_isKnown_19 : decode cX5_isKnown 19 = .ok (.getfield 56, 3) := by decide +kernel
theorem dX5_isKnown_22 : decode cX5_isKnown 22 = .ok (.iload_n 1, 1) := by decide +kernel
theorem dX5_isKnown_23 : decode cX5_isKnown 23 = .ok (.iaload, 1) := by decide +kernel
theorem dX5_isKnown_24 : decode cX5_isKnown 24 = .ok (.baload, 1) := by decide +kernel
theorem dX5_isKnown_25 : decode cX5_isKnown 25 = .ok (.ifCond .eq 7, 3) := by decide +kernel
theorem dX5_isKnown_28 : decode cX5_isKnown 28 = .ok (.iconst 1, 1) := by decide +kernel
theorem dX5_isKnown_29 : decode cX5_isKnown 29 = .ok (.goto 4, 3) := by decide +kernel
theorem dX5_isKnown_32 : decode cX5_isKnown 32 = .ok (.iconst 0, 1) := by decide +kernel
theorem dX5_isKnown_33 : decode cX5_isKnown 33 = .ok (.ireturn, 1) := by decide +kernel
theorem dX5_numberOf_0 : decode cX5_numberOf 0 = .ok (.aload_n 0, 1) := by decide +kernel
theorem dX5_numberOf_1 : decode cX5_numberOf 1 = .ok (.getfield 59, 3) := by decide +kernel
theorem dX5_numberOf_4 : decode cX5_numberOf 4 = .ok (.aload_n 0, 1) := by decide +kernel
theorem dX5_numberOf_5 : decode cX5_numberOf 5 = .ok (.getfield 56, 3) := by decide +kernel
theorem dX5_numberOf_8 : decode cX5_numberOf 8 = .ok (.iload_n 1, 1) := by decide +kernel
theorem dX5_numberOf_9 : decode cX5_numberOf 9 = .ok (.iaload, 1) := by decide +kernel
theorem dX5_numberOf_10 : decode cX5_numberOf 10 = .ok (.baload, 1) := by decide +kernel
theorem dX5_numberOf_11 : decode cX5_numberOf 11 = .ok (.ifCond .eq 17, 3) := by decide +kernel
theorem dX5_numberOf_14 : decode cX5_numberOf 14 = .ok (.aload_n 0, 1) := by decide +kernel
theorem dX5_numberOf_15 : decode cX5_numberOf 15 = .ok (.getfield 66, 3) := by decide +kernel
theorem dX5_numberOf_18 : decode cX5_numberOf 18 = .ok (.aload_n 0, 1) := by decide +kernel
theorem dX5_numberOf_19 : decode cX5_numberOf 19 = .ok (.getfield 56, 3) := by decide +kernel
theorem dX5_numberOf_22 : decode cX5_numberOf 22 = .ok (.iload_n 1, 1) := by decide +kernel
theorem dX5_numberOf_23 : decode cX5_numberOf 23 = .ok (.iaload, 1) := by decide +kernel
theorem dX5_numberOf_24 : decode cX5_numberOf 24 = .ok (.laload, 1) := by decide +kernel
theorem dX5_numberOf_25 : decode cX5_numberOf 25 = .ok (.goto 14, 3) := by decide +kernel
theorem dX5_numberOf_28 : decode cX5_numberOf 28 = .ok (.aload_n 0, 1) := by decide +kernel
theorem dX5_numberOf_29 : decode cX5_numberOf 29 = .ok (.getfield 78, 3) := by decide +kernel
theorem dX5_numberOf_32 : decode cX5_numberOf 32 = .ok (.aload_n 0, 1) := by decide +kernel
theorem dX5_numberOf_33 : decode cX5_numberOf 33 = .ok (.getfield 56, 3) := by decide +kernel
theorem dX5_numberOf_36 : decode cX5_numberOf 36 = .ok (.iload_n 1, 1) := by decide +kernel
theorem dX5_numberOf_37 : decode cX5_numberOf 37 = .ok (.iaload, 1) := by decide +kernel
theorem dX5_numberOf_38 : decode cX5_numberOf 38 = .ok (.laload, 1) := by decide +kernel
theorem dX5_numberOf_39 : decode cX5_numberOf 39 = .ok (.lreturn, 1) := by decide +kernel
set_option maxRecDepth 20000 in
theorem ggX5_holds_X5_isKnown : GoodIn wsX5_holds wsX5_isKnown := goodIn_r _ [10, 11, 12, 13, 20, 21, 22, 23, 24, 25, 26, 27, 28, 29, 30, 31, 32, 33, 34, 35, 36, 37, 38, 39, 40, 41, 42, 43, 44, 45, 46, 47, 48, 49, 50, 51, 52, 53] (by decide +kernel) (by decide +kernel)
set_option maxRecDepth 20000 in
theorem gX5_holds_X5_isKnown : GoodIn wsX5_holds (wsV RX5 115 RX5 yX5_isKnown wsX5_isKnown) := goodIn_app (goodIn_of _ (by decide +kernel)) ggX5_holds_X5_isKnown
set_option maxRecDepth 20000 in
theorem ggX5_holds_X5_numberOf : GoodIn wsX5_holds wsX5_numberOf := goodIn_r _ [17, 11, 12, 18, 19, 20, 21, 22, 23, 24, 25, 26, 27, 28, 29, 30, 31, 32, 33, 34, 35, 36, 37, 38, 39, 40, 41, 42, 43, 44, 45, 46, 47, 48, 49, 50, 51, 52, 53] (by decide +kernel) (by decide +kernel)
set_option maxRecDepth 20000 in
theorem gX5_holds_X5_numberOf : GoodIn wsX5_holds (wsV RX5 118 RX5 yX5_numberOf wsX5_numberOf) := goodIn_app (goodIn_of _ (by decide +kernel)) ggX5_holds_X5_numberOf
theorem dX5_holds_0 : decode cX5_holds 0 = .ok (.lconst 0, 1) := by decide +kernel
theorem dX5_holds_1 : decode cX5_holds 1 = .ok (.lstore_n 2, 1) := by decide +kernel
theorem dX5_holds_2 : decode cX5_holds 2 = .ok (.iconst 0, 1) := by decide +kernel
theorem dX5_holds_3 : decode cX5_holds 3 = .ok (.istore 4, 2) := by decide +kernel
theorem dX5_holds_5 : decode cX5_holds 5 = .ok (.iload 4, 2) := by decide +kernel
theorem dX5_holds_7 : decode cX5_holds 7 = .ok (.aload_n 0, 1) := by decide +kernel
theorem dX5_holds_8 : decode cX5_holds 8 = .ok (.getfield 35, 3) := by decide +kernel
theorem dX5_holds_11 : decode cX5_holds 11 = .ok (.iload_n 1, 1) := by decide +kernel
theorem dX5_holds_12 : decode cX5_holds 12 = .ok (.iaload, 1) := by decide +kernel
theorem dX5_holds_13 : decode cX5_holds 13 = .ok (.if_icmp .ge 56, 3) := by decide +kernel
theorem dX5_holds_16 : decode cX5_holds 16 = .ok (.aload_n 0, 1) := by decide +kernel
theorem dX5_holds_17 : decode cX5_holds 17 = .ok (.getfield 38, 3) := by decide +kernel
theorem dX5_holds_20 : decode cX5_holds 20 = .ok (.bipush 32, 2) := by decide +kernel
theorem dX5_holds_22 : decode cX5_holds 22 = .ok (.iload_n 1, 1) := by decide +kernel
theorem dX5_holds_23 : decode cX5_holds 23 = .ok (.imul, 1) := by decide +kernel
theorem dX5_holds_24 : decode cX5_holds 24 = .ok (.iload 4, 2) := by decide +kernel
theorem dX5_holds_26 : decode cX5_holds 26 = .ok (.iadd, 1) := by decide +kernel
theorem dX5_holds_27 : decode cX5_holds 27 = .ok (.iaload, 1) := by decide +kernel
theorem dX5_holds_28 : decode cX5_holds 28 = .ok (.istore 5, 2) := by decide +kernel
theorem dX5_holds_30 : decode cX5_holds 30 = .ok (.aload_n 0, 1) := by decide +kernel
theorem dX5_holds_31 : decode cX5_holds 31 = .ok (.iload 5, 2) := by decide +kernel
theorem dX5_holds_33 : decode cX5_holds 33 = .ok (.invokevirtual 115, 3) := by decide +kernel
theorem dX5_holds_36 : decode cX5_holds 36 = .ok (.ifCond .ne 5, 3) := by decide +kernel
theorem dX5_holds_39 : decode cX5_holds 39 = .ok (.iconst 1, 1) := by decide +kernel
theorem dX5_holds_40 : decode cX5_holds 40 = .ok (.ireturn, 1) := by decide +kernel
theorem dX5_holds_41 : decode cX5_holds 41 = .ok (.lload_n 2, 1) := by decide +kernel
theorem dX5_holds_42 : decode cX5_holds 42 = .ok (.aload_n 0, 1) := by decide +kernel
theorem dX5_holds_43 : decode cX5_holds 43 = .ok (.getfield 41, 3) := by decide +kernel
theorem dX5_holds_46 : decode cX5_holds 46 = .ok (.bipush 32, 2) := by decide +kernel
theorem dX5_holds_48 : decode cX5_holds 48 = .ok (.iload_n 1, 1) := by decide +kernel
theorem dX5_holds_49 : decode cX5_holds 49 = .ok (.imul, 1) := by decide +kernel
theorem dX5_holds_50 : decode cX5_holds 50 = .ok (.iload 4, 2) := by decide +kernel
theorem dX5_holds_52 : decode cX5_holds 52 = .ok (.iadd, 1) := by decide +kernel
theorem dX5_holds_53 : decode cX5_holds 53 = .ok (.laload, 1) := by decide +kernel
theorem dX5_holds_54 : decode cX5_holds 54 = .ok (.aload_n 0, 1) := by decide +kernel
theorem dX5_holds_55 : decode cX5_holds 55 = .ok (.iload 5, 2) := by decide +kernel
theorem dX5_holds_57 : decode cX5_holds 57 = .ok (.invokevirtual 118, 3) := by decide +kernel
theorem dX5_holds_60 : decode cX5_holds 60 = .ok (.lmul, 1) := by decide +kernel
theorem dX5_holds_61 : decode cX5_holds 61 = .ok (.ladd, 1) := by decide +kernel
theorem dX5_holds_62 : decode cX5_holds 62 = .ok (.lstore_n 2, 1) := by decide +kernel
theorem dX5_holds_63 : decode cX5_holds 63 = .ok (.iinc 4 1, 3) := by decide +kernel
theorem dX5_holds_66 : decode cX5_holds 66 = .ok (.goto (-61), 3) := by decide +kernel
theorem dX5_holds_69 : decode cX5_holds 69 = .ok (.aload_n 0, 1) := by decide +kernel
theorem dX5_holds_70 : decode cX5_holds 70 = .ok (.getfield 32, 3) := by decide +kernel
theorem dX5_holds_73 : decode cX5_holds 73 = .ok (.iload_n 1, 1) := by decide +kernel
theorem dX5_holds_74 : decode cX5_holds 74 = .ok (.iaload, 1) := by decide +kernel
theorem dX5_holds_75 : decode cX5_holds 75 = .ok (.ifCond .ne 20, 3) := by decide +kernel
theorem dX5_holds_78 : decode cX5_holds 78 = .ok (.lload_n 2, 1) := by decide +kernel
theorem dX5_holds_79 : decode cX5_holds 79 = .ok (.aload_n 0, 1) := by decide +kernel
theorem dX5_holds_80 : decode cX5_holds 80 = .ok (.getfield 44, 3) := by decide +kernel
theorem dX5_holds_83 : decode cX5_holds 83 = .ok (.iload_n 1, 1) := by decide +kernel
theorem dX5_holds_84 : decode cX5_holds 84 = .ok (.laload, 1) := by decide +kernel
theorem dX5_holds_85 : decode cX5_holds 85 = .ok (.lcmp, 1) := by decide +kernel
theorem dX5_holds_86 : decode cX5_holds 86 = .ok (.ifCond .gt 7, 3) := by decide +kernel
theorem dX5_holds_89 : decode cX5_holds 89 = .ok (.iconst 1, 1) := by decide +kernel
theorem dX5_holds_90 : decode cX5_holds 90 = .ok (.goto 4, 3) := by decide +kernel
theorem dX5_holds_93 : decode cX5_holds 93 = .ok (.iconst 0, 1) := by decide +kernel
theorem dX5_holds_94 : decode cX5_holds 94 = .ok (.ireturn, 1) := by decide +kernel
theorem dX5_holds_95 : decode cX5_holds 95 = .ok (.aload_n 0, 1) := by decide +kernel
theorem dX5_holds_96 : decode cX5_holds 96 = .ok (.getfield 32, 3) := by decide +kernel
theorem dX5_holds_99 : decode cX5_holds 99 = .ok (.iload_n 1, 1) := by decide +kernel
theorem dX5_holds_100 : decode cX5_holds 100 = .ok (.iaload, 1) := by decide +kernel
theorem dX5_holds_101 : decode cX5_holds 101 = .ok (.iconst 1, 1) := by decide +kernel
theorem dX5_holds_102 : decode cX5_holds 102 = .ok (.if_icmp .ne 20, 3) := by decide +kernel
theorem dX5_holds_105 : decode cX5_holds 105 = .ok (.lload_n 2, 1) := by decide +kernel
theorem dX5_holds_106 : decode cX5_holds 106 = .ok (.aload_n 0, 1) := by decide +kernel
theorem dX5_holds_107 : decode cX5_holds 107 = .ok (.getfield 44, 3) := by decide +kernel
theorem dX5_holds_110 : decode cX5_holds 110 = .ok (.iload_n 1, 1) := by decide +kernel
theorem dX5_holds_111 : decode cX5_holds 111 = .ok (.laload, 1) := by decide +kernel
theorem dX5_holds_112 : decode cX5_holds 112 = .ok (.lcmp, 1) := by decide +kernel
theorem dX5_holds_113 : decode cX5_holds 113 = .ok (.ifCond .ne 7, 3) := by decide +kernel
theorem dX5_holds_116 : decode cX5_holds 116 = .ok (.iconst 1, 1) := by decide +kernel
theorem dX5_holds_117 : decode cX5_holds 117 = .ok (.goto 4, 3) := by decide +kernel
theorem dX5_holds_120 : decode cX5_holds 120 = .ok (.iconst 0, 1) := by decide +kernel
theorem dX5_holds_121 : decode cX5_holds 121 = .ok (.ireturn, 1) := by decide +kernel
theorem dX5_holds_122 : decode cX5_holds 122 = .ok (.iconst 0, 1) := by decide +kernel
theorem dX5_holds_123 : decode cX5_holds 123 = .ok (.istore 4, 2) := by decide +kernel
theorem dX5_holds_125 : decode cX5_holds 125 = .ok (.iload 4, 2) := by decide +kernel
theorem dX5_holds_127 : decode cX5_holds 127 = .ok (.aload_n 0, 1) := by decide +kernel
theorem dX5_holds_128 : decode cX5_holds 128 = .ok (.getfield 35, 3) := by decide +kernel
theorem dX5_holds_131 : decode cX5_holds 131 = .ok (.iload_n 1, 1) := by decide +kernel
theorem dX5_holds_132 : decode cX5_holds 132 = .ok (.iaload, 1) := by decide +kernel
theorem dX5_holds_133 : decode cX5_holds 133 = .ok (.if_icmp .ge 63, 3) := by decide +kernel
theorem dX5_holds_136 : decode cX5_holds 136 = .ok (.iconst 0, 1) := by decide +kernel
theorem dX5_holds_137 : decode cX5_holds 137 = .ok (.istore 5, 2) := by decide +kernel
theorem dX5_holds_139 : decode cX5_holds 139 = .ok (.iload 5, 2) := by decide +kernel
theorem dX5_holds_141 : decode cX5_holds 141 = .ok (.iload 4, 2) := by decide +kernel
theorem dX5_holds_143 : decode cX5_holds 143 = .ok (.if_icmp .ge 47, 3) := by decide +kernel
theorem dX5_holds_146 : decode cX5_holds 146 = .ok (.aload_n 0, 1) := by decide +kernel
theorem dX5_holds_147 : decode cX5_holds 147 = .ok (.aload_n 0, 1) := by decide +kernel
theorem dX5_holds_148 : decode cX5_holds 148 = .ok (.getfield 38, 3) := by decide +kernel
theorem dX5_holds_151 : decode cX5_holds 151 = .ok (.bipush 32, 2) := by decide +kernel
theorem dX5_holds_153 : decode cX5_holds 153 = .ok (.iload_n 1, 1) := by decide +kernel
theorem dX5_holds_154 : decode cX5_holds 154 = .ok (.imul, 1) := by decide +kernel
theorem dX5_holds_155 : decode cX5_holds 155 = .ok (.iload 4, 2) := by decide +kernel
theorem dX5_holds_157 : decode cX5_holds 157 = .ok (.iadd, 1) := by decide +kernel
theorem dX5_holds_158 : decode cX5_holds 158 = .ok (.iaload, 1) := by decide +kernel
theorem dX5_holds_159 : decode cX5_holds 159 = .ok (.invokevirtual 118, 3) := by decide +kernel
theorem dX5_holds_162 : decode cX5_holds 162 = .ok (.aload_n 0, 1) := by decide +kernel
theorem dX5_holds_163 : decode cX5_holds 163 = .ok (.aload_n 0, 1) := by decide +kernel
theorem dX5_holds_164 : decode cX5_holds 164 = .ok (.getfield 38, 3) := by decide +kernel
theorem dX5_holds_167 : decode cX5_holds 167 = .ok (.bipush 32, 2) := by decide +kernel
theorem dX5_holds_169 : decode cX5_holds 169 = .ok (.iload_n 1, 1) := by decide +kernel
theorem dX5_holds_170 : decode cX5_holds 170 = .ok (.imul, 1) := by decide +kernel
theorem dX5_holds_171 : decode cX5_holds 171 = .ok (.iload 5, 2) := by decide +kernel
theorem dX5_holds_173 : decode cX5_holds 173 = .ok (.iadd, 1) := by decide +kernel
theorem dX5_holds_174 : decode cX5_holds 174 = .ok (.iaload, 1) := by decide +kernel
theorem dX5_holds_175 : decode cX5_holds 175 = .ok (.invokevirtual 118, 3) := by decide +kernel
theorem dX5_holds_178 : decode cX5_holds 178 = .ok (.lcmp, 1) := by decide +kernel
theorem dX5_holds_179 : decode cX5_holds 179 = .ok (.ifCond .ne 5, 3) := by decide +kernel
theorem dX5_holds_182 : decode cX5_holds 182 = .ok (.iconst 0, 1) := by decide +kernel
theorem dX5_holds_183 : decode cX5_holds 183 = .ok (.ireturn, 1) := by decide +kernel
theorem dX5_holds_184 : decode cX5_holds 184 = .ok (.iinc 5 1, 3) := by decide +kernel
theorem dX5_holds_187 : decode cX5_holds 187 = .ok (.goto (-48), 3) := by decide +kernel
theorem dX5_holds_190 : decode cX5_holds 190 = .ok (.iinc 4 1, 3) := by decide +kernel
theorem dX5_holds_193 : decode cX5_holds 193 = .ok (.goto (-68), 3) := by decide +kernel
theorem dX5_holds_196 : decode cX5_holds 196 = .ok (.iconst 1, 1) := by decide +kernel
theorem dX5_holds_197 : decode cX5_holds 197 = .ok (.ireturn, 1) := by decide +kernel
set_option maxRecDepth 20000 in
theorem ggX5_tells_X5_works : GoodIn wsX5_tells wsX5_works := goodIn_r _ [11, 12, 13, 14, 15, 2, 1, 3, 4, 16, 17, 18, 19, 20, 21, 22, 23, 5, 24, 25, 26, 27, 28, 6, 29, 30, 31, 32, 33, 34, 35, 10, 36, 37, 38, 39, 40, 41, 42, 43, 44, 45, 46, 47, 48, 49, 50, 51, 59, 60, 61, 62, 63, 64, 65, 66, 67, 68, 69, 70, 71, 72, 73, 74, 75, 76, 77, 78, 79, 80, 81, 82, 83, 84, 85, 86, 87, 88, 89, 90, 91, 92] (by decide +kernel) (by decide +kernel)
set_option maxRecDepth 20000 in
theorem gX5_tells_X5_works : GoodIn wsX5_tells (wsV RX5 122 RX5 yX5_works wsX5_works) := goodIn_app (goodIn_of _ (by decide +kernel)) ggX5_tells_X5_works
set_option maxRecDepth 20000 in
theorem ggX5_tells_X5_forget : GoodIn wsX5_tells wsX5_forget := goodIn_r _ [55, 56, 57, 58, 59, 60, 61, 62, 63, 64, 65, 66, 67, 68, 69, 70, 71, 72, 73, 74, 75, 76, 77, 78, 79, 80, 81, 82, 83, 84, 85, 86, 87, 88, 89, 90, 91, 92] (by decide +kernel) (by decide +kernel)
set_option maxRecDepth 20000 in
theorem gX5_tells_X5_forget : GoodIn wsX5_tells (wsV RX5 126 RX5 yX5_forget wsX5_forget) := goodIn_app (goodIn_of _ (by decide +kernel)) ggX5_tells_X5_forget
theorem dX5_tells_0 : decode cX5_tells 0 = .ok (.aload_n 0, 1) := by decide +kernel
theorem dX5_tells_1 : decode cX5_tells 1 = .ok (.getfield 9, 3) := by decide +kernel
theorem dX5_tells_4 : decode cX5_tells 4 = .ok (.aload_n 0, 1) := by decide +kernel
theorem dX5_tells_5 : decode cX5_tells 5 = .ok (.getfield 91, 3) := by decide +kernel
theorem dX5_tells_8 : decode cX5_tells 8 = .ok (.iload_n 1, 1) := by decide +kernel
theorem dX5_tells_9 : decode cX5_tells 9 = .ok (.iastore, 1) := by decide +kernel
theorem dX5_tells_10 : decode cX5_tells 10 = .ok (.aload_n 0, 1) := by decide +kernel
theorem dX5_tells_11 : decode cX5_tells 11 = .ok (.getfield 13, 3) := by decide +kernel
theorem dX5_tells_14 : decode cX5_tells 14 = .ok (.aload_n 0, 1) := by decide +kernel
theorem dX5_tells_15 : decode cX5_tells 15 = .ok (.getfield 91, 3) := by decide +kernel
theorem dX5_tells_18 : decode cX5_tells 18 = .ok (.iload_n 2, 1) := by decide +kernel
theorem dX5_tells_19 : decode cX5_tells 19 = .ok (.iastore, 1) := by decide +kernel
theorem dX5_tells_20 : decode cX5_tells 20 = .ok (.aload_n 0, 1) := by decide +kernel
theorem dX5_tells_21 : decode cX5_tells 21 = .ok (.getfield 16, 3) := by decide +kernel
theorem dX5_tells_24 : decode cX5_tells 24 = .ok (.aload_n 0, 1) := by decide +kernel
theorem dX5_tells_25 : decode cX5_tells 25 = .ok (.getfield 91, 3) := by decide +kernel
theorem dX5_tells_28 : decode cX5_tells 28 = .ok (.iload_n 3, 1) := by decide +kernel
theorem dX5_tells_29 : decode cX5_tells 29 = .ok (.iastore, 1) := by decide +kernel
theorem dX5_tells_30 : decode cX5_tells 30 = .ok (.aload_n 0, 1) := by decide +kernel
theorem dX5_tells_31 : decode cX5_tells 31 = .ok (.getfield 19, 3) := by decide +kernel
theorem dX5_tells_34 : decode cX5_tells 34 = .ok (.aload_n 0, 1) := by decide +kernel
theorem dX5_tells_35 : decode cX5_tells 35 = .ok (.getfield 91, 3) := by decide +kernel
theorem dX5_tells_38 : decode cX5_tells 38 = .ok (.lload 4, 2) := by decide +kernel
theorem dX5_tells_40 : decode cX5_tells 40 = .ok (.lastore, 1) := by decide +kernel
theorem dX5_tells_41 : decode cX5_tells 41 = .ok (.aload_n 0, 1) := by decide +kernel
theorem dX5_tells_42 : decode cX5_tells 42 = .ok (.getfield 23, 3) := by decide +kernel
theorem dX5_tells_45 : decode cX5_tells 45 = .ok (.aload_n 0, 1) := by decide +kernel
theorem dX5_tells_46 : decode cX5_tells 46 = .ok (.getfield 91, 3) := by decide +kernel
theorem dX5_tells_49 : decode cX5_tells 49 = .ok (.lload 6, 2) := by decide +kernel
theorem dX5_tells_51 : decode cX5_tells 51 = .ok (.lastore, 1) := by decide +kernel
theorem dX5_tells_52 : decode cX5_tells 52 = .ok (.aload_n 0, 1) := by decide +kernel
theorem dX5_tells_53 : decode cX5_tells 53 = .ok (.dup, 1) := by decide +kernel
theorem dX5_tells_54 : decode cX5_tells 54 = .ok (.getfield 91, 3) := by decide +kernel
theorem dX5_tells_57 : decode cX5_tells 57 = .ok (.iconst 1, 1) := by decide +kernel
theorem dX5_tells_58 : decode cX5_tells 58 = .ok (.iadd, 1) := by decide +kernel
theorem dX5_tells_59 : decode cX5_tells 59 = .ok (.putfield 91, 3) := by decide +kernel
theorem dX5_tells_62 : decode cX5_tells 62 = .ok (.aload_n 0, 1) := by decide +kernel
theorem dX5_tells_63 : decode cX5_tells 63 = .ok (.invokevirtual 122, 3) := by decide +kernel
theorem dX5_tells_66 : decode cX5_tells 66 = .ok (.ifCond .eq 9, 3) := by decide +kernel
theorem dX5_tells_69 : decode cX5_tells 69 = .ok (.aload_n 0, 1) := by decide +kernel
theorem dX5_tells_70 : decode cX5_tells 70 = .ok (.invokevirtual 126, 3) := by decide +kernel
theorem dX5_tells_73 : decode cX5_tells 73 = .ok (.iconst 1, 1) := by decide +kernel
theorem dX5_tells_74 : decode cX5_tells 74 = .ok (.ireturn, 1) := by decide +kernel
theorem dX5_tells_75 : decode cX5_tells 75 = .ok (.aload_n 0, 1) := by decide +kernel
theorem dX5_tells_76 : decode cX5_tells 76 = .ok (.dup, 1) := by decide +kernel
theorem dX5_tells_77 : decode cX5_tells 77 = .ok (.getfield 91, 3) := by decide +kernel
theorem dX5_tells_80 : decode cX5_tells 80 = .ok (.iconst 1, 1) := by decide +kernel
theorem dX5_tells_81 : decode cX5_tells 81 = .ok (.isub, 1) := by decide +kernel
theorem dX5_tells_82 : decode cX5_tells 82 = .ok (.putfield 91, 3) := by decide +kernel
theorem dX5_tells_85 : decode cX5_tells 85 = .ok (.aload_n 0, 1) := by decide +kernel
theorem dX5_tells_86 : decode cX5_tells 86 = .ok (.invokevirtual 122, 3) := by decide +kernel
theorem dX5_tells_89 : decode cX5_tells 89 = .ok (.istore 8, 2) := by decide +kernel
theorem dX5_tells_91 : decode cX5_tells 91 = .ok (.iconst 0, 1) := by decide +kernel
theorem dX5_tells_92 : decode cX5_tells 92 = .ok (.ireturn, 1) := by decide +kernel
set_option maxRecDepth 20000 in
theorem ggX5_name_X5_works : GoodIn wsX5_name wsX5_works := goodIn_r _ [6, 1, 7, 8, 9, 10, 11, 12, 13, 14, 15, 16, 17, 18, 19, 20, 21, 22, 23, 24, 25, 26, 27, 28, 29, 30, 31, 32, 33, 34, 35, 5, 36, 37, 38, 39, 40, 41, 42, 43, 44, 45, 46, 47, 48, 49, 50, 51, 59, 60, 61, 62, 63, 64, 65, 66, 67, 68, 69, 70, 71, 72, 73, 74, 75, 76, 77, 78, 79, 80, 81, 82, 83, 84, 85, 86, 87, 88, 89, 90, 91, 92] (by decide +kernel) (by decide +kernel)
set_option maxRecDepth 20000 in
theorem gX5_name_X5_works : GoodIn wsX5_name (wsV RX5 122 RX5 yX5_works wsX5_works) := goodIn_app (goodIn_of _ (by decide +kernel)) ggX5_name_X5_works
set_option maxRecDepth 20000 in
theorem ggX5_name_X5_forget : GoodIn wsX5_name wsX5_forget := goodIn_r _ [55, 56, 57, 58, 59, 60, 61, 62, 63, 64, 65, 66, 67, 68, 69, 70, 71, 72, 73, 74, 75, 76, 77, 78, 79, 80, 81, 82, 83, 84, 85, 86, 87, 88, 89, 90, 91, 92] (by decide +kernel) (by decide +kernel)
set_option maxRecDepth 20000 in
theorem gX5_name_X5_forget : GoodIn wsX5_name (wsV RX5 126 RX5 yX5_forget wsX5_forget) := goodIn_app (goodIn_of _ (by decide +kernel)) ggX5_name_X5_forget
theorem dX5_name_0 : decode cX5_name 0 = .ok (.aload_n 0, 1) := by decide +kernel
theorem dX5_name_1 : decode cX5_name 1 = .ok (.getfield 87, 3) := by decide +kernel
theorem dX5_name_4 : decode cX5_name 4 = .ok (.bipush 64, 2) := by decide +kernel
theorem dX5_name_6 : decode cX5_name 6 = .ok (.if_icmp .ne 5, 3) := by decide +kernel
theorem dX5_name_9 : decode cX5_name 9 = .ok (.iconst (-1), 1) := by decide +kernel
theorem dX5_name_10 : decode cX5_name 10 = .ok (.ireturn, 1) := by decide +kernel
theorem dX5_name_11 : decode cX5_name 11 = .ok (.aload_n 0, 1) := by decide +kernel
theorem dX5_name_12 : decode cX5_name 12 = .ok (.dup, 1) := by decide +kernel
theorem dX5_name_13 : decode cX5_name 13 = .ok (.getfield 87, 3) := by decide +kernel
theorem dX5_name_16 : decode cX5_name 16 = .ok (.iconst 1, 1) := by decide +kernel
theorem dX5_name_17 : decode cX5_name 17 = .ok (.iadd, 1) := by decide +kernel
theorem dX5_name_18 : decode cX5_name 18 = .ok (.putfield 87, 3) := by decide +kernel
theorem dX5_name_21 : decode cX5_name 21 = .ok (.aload_n 0, 1) := by decide +kernel
theorem dX5_name_22 : decode cX5_name 22 = .ok (.invokevirtual 122, 3) := by decide +kernel
theorem dX5_name_25 : decode cX5_name 25 = .ok (.istore_n 1, 1) := by decide +kernel
theorem dX5_name_26 : decode cX5_name 26 = .ok (.aload_n 0, 1) := by decide +kernel
theorem dX5_name_27 : decode cX5_name 27 = .ok (.invokevirtual 126, 3) := by decide +kernel
theorem dX5_name_30 : decode cX5_name 30 = .ok (.aload_n 0, 1) := by decide +kernel
theorem dX5_name_31 : decode cX5_name 31 = .ok (.getfield 87, 3) := by decide +kernel
theorem dX5_name_34 : decode cX5_name 34 = .ok (.iconst 1, 1) := by decide +kernel
theorem dX5_name_35 : decode cX5_name 35 = .ok (.isub, 1) := by decide +kernel
theorem dX5_name_36 : decode cX5_name 36 = .ok (.ireturn, 1) := by decide +kernel
set_option maxRecDepth 20000 in
theorem ggX5_span_X5_isName : GoodIn wsX5_span wsX5_isName := goodIn_r _ [5, 6, 67, 68, 69, 70, 71, 72, 73, 74, 75, 76, 77, 78, 79, 80, 81, 82, 83, 84, 85, 86, 87, 88, 89, 90, 91, 92, 93, 94, 95, 96, 97, 98, 99, 100] (by decide +kernel) (by decide +kernel)
set_option maxRecDepth 20000 in
theorem gX5_span_X5_isName : GoodIn wsX5_span (wsV RX5 129 RX5 yX5_isName wsX5_isName) := goodIn_app (goodIn_of _ (by decide +kernel)) ggX5_span_X5_isName
set_option maxRecDepth 20000 in
theorem ggX5_span_X5_tells : GoodIn wsX5_span wsX5_tells := goodIn_r _ [10, 11, 12, 13, 14, 15, 16, 17, 18, 19, 4, 20, 6, 21, 22, 23, 24, 25, 26, 27, 28, 29, 30, 31, 32, 33, 34, 35, 36, 37, 38, 39, 40, 41, 42, 43, 44, 45, 46, 47, 48, 49, 50, 51, 52, 53, 54, 55, 56, 57, 58, 59, 60, 61, 62, 63, 64, 65, 66, 67, 68, 69, 70, 71, 72, 73, 74, 75, 76, 77, 78, 79, 80, 81, 82, 83, 84, 85, 86, 87, 88, 89, 90, 91, 92, 93, 94, 95, 96, 97, 98, 99, 100] (by decide +kernel) (by decide +kernel)
set_option maxRecDepth 20000 in
theorem gX5_span_X5_tells : GoodIn wsX5_span (wsV RX5 132 RX5 yX5_tells wsX5_tells) := goodIn_app (goodIn_of _ (by decide +kernel)) ggX5_span_X5_tells
theorem dX5_span_0 : decode cX5_span 0 = .ok (.aload_n 0, 1) := by decide +kernel
theorem dX5_span_1 : decode cX5_span 1 = .ok (.iload_n 1, 1) := by decide +kernel
theorem dX5_span_2 : decode cX5_span 2 = .ok (.invokevirtual 129, 3) := by decide +kernel
theorem dX5_span_5 : decode cX5_span 5 = .ok (.ifCond .eq 20, 3) := by decide +kernel
theorem dX5_span_8 : decode cX5_span 8 = .ok (.aload_n 0, 1) := by decide +kernel
theorem dX5_span_9 : decode cX5_span 9 = .ok (.iconst 0, 1) := by decide +kernel
theorem dX5_span_10 : decode cX5_span 10 = .ok (.iload_n 1, 1) := by decide +kernel
theorem dX5_span_11 : decode cX5_span 11 = .ok (.iload_n 1, 1) := by decide +kernel
theorem dX5_span_12 : decode cX5_span 12 = .ok (.lload_n 2, 1) := by decide +kernel
theorem dX5_span_13 : decode cX5_span 13 = .ok (.lload 4, 2) := by decide +kernel
theorem dX5_span_15 : decode cX5_span 15 = .ok (.invokevirtual 132, 3) := by decide +kernel
theorem dX5_span_18 : decode cX5_span 18 = .ok (.ifCond .eq 7, 3) := by decide +kernel
theorem dX5_span_21 : decode cX5_span 21 = .ok (.iconst 1, 1) := by decide +kernel
theorem dX5_span_22 : decode cX5_span 22 = .ok (.goto 4, 3) := by decide +kernel
theorem dX5_span_25 : decode cX5_span 25 = .ok (.iconst 0, 1) := by decide +kernel
theorem dX5_span_26 : decode cX5_span 26 = .ok (.ireturn, 1) := by decide +kernel
set_option maxRecDepth 20000 in
theorem ggX5_give_X5_isName : GoodIn wsX5_give wsX5_isName := goodIn_r _ [5, 6, 67, 68, 69, 70, 71, 72, 73, 74, 75, 76, 77, 78, 79, 80, 81, 82, 83, 84, 85, 86, 87, 88, 89, 90, 91, 92, 93, 94, 95, 96, 97, 98, 99, 100] (by decide +kernel) (by decide +kernel)
set_option maxRecDepth 20000 in
theorem gX5_give_X5_isName : GoodIn wsX5_give (wsV RX5 129 RX5 yX5_isName wsX5_isName) := goodIn_app (goodIn_of _ (by decide +kernel)) ggX5_give_X5_isName
set_option maxRecDepth 20000 in
theorem ggX5_give_X5_tells : GoodIn wsX5_give wsX5_tells := goodIn_r _ [10, 11, 12, 13, 14, 15, 16, 17, 18, 19, 4, 20, 6, 21, 22, 23, 24, 25, 26, 27, 28, 29, 30, 31, 32, 33, 34, 35, 36, 37, 38, 39, 40, 41, 42, 43, 44, 45, 46, 47, 48, 49, 50, 51, 52, 53, 54, 55, 56, 57, 58, 59, 60, 61, 62, 63, 64, 65, 66, 67, 68, 69, 70, 71, 72, 73, 74, 75, 76, 77, 78, 79, 80, 81, 82, 83, 84, 85, 86, 87, 88, 89, 90, 91, 92, 93, 94, 95, 96, 97, 98, 99, 100] (by decide +kernel) (by decide +kernel)
set_option maxRecDepth 20000 in
theorem gX5_give_X5_tells : GoodIn wsX5_give (wsV RX5 132 RX5 yX5_tells wsX5_tells) := goodIn_app (goodIn_of _ (by decide +kernel)) ggX5_give_X5_tells
theorem dX5_give_0 : decode cX5_give 0 = .ok (.aload_n 0, 1) := by decide +kernel
theorem dX5_give_1 : decode cX5_give 1 = .ok (.iload_n 1, 1) := by decide +kernel
theorem dX5_give_2 : decode cX5_give 2 = .ok (.invokevirtual 129, 3) := by decide +kernel
theorem dX5_give_5 : decode cX5_give 5 = .ok (.ifCond .eq 19, 3) := by decide +kernel
theorem dX5_give_8 : decode cX5_give 8 = .ok (.aload_n 0, 1) := by decide +kernel
theorem dX5_give_9 : decode cX5_give 9 = .ok (.iconst 1, 1) := by decide +kernel
theorem dX5_give_10 : decode cX5_give 10 = .ok (.iload_n 1, 1) := by decide +kernel
theorem dX5_give_11 : decode cX5_give 11 = .ok (.iload_n 1, 1) := by decide +kernel
theorem dX5_give_12 : decode cX5_give 12 = .ok (.lload_n 2, 1) := by decide +kernel
theorem dX5_give_13 : decode cX5_give 13 = .ok (.lload_n 2, 1) := by decide +kernel
theorem dX5_give_14 : decode cX5_give 14 = .ok (.invokevirtual 132, 3) := by decide +kernel
theorem dX5_give_17 : decode cX5_give 17 = .ok (.ifCond .eq 7, 3) := by decide +kernel
theorem dX5_give_20 : decode cX5_give 20 = .ok (.iconst 1, 1) := by decide +kernel
theorem dX5_give_21 : decode cX5_give 21 = .ok (.goto 4, 3) := by decide +kernel
theorem dX5_give_24 : decode cX5_give 24 = .ok (.iconst 0, 1) := by decide +kernel
theorem dX5_give_25 : decode cX5_give 25 = .ok (.ireturn, 1) := by decide +kernel
set_option maxRecDepth 20000 in
theorem ggX5_equal_X5_isName : GoodIn wsX5_equal wsX5_isName := goodIn_r _ [5, 6, 67, 68, 69, 70, 71, 72, 73, 74, 75, 76, 77, 78, 79, 80, 81, 82, 83, 84, 85, 86, 87, 88, 89, 90, 91, 92, 93, 94, 95, 96, 97, 98, 99, 100] (by decide +kernel) (by decide +kernel)
set_option maxRecDepth 20000 in
theorem gX5_equal_X5_isName : GoodIn wsX5_equal (wsV RX5 129 RX5 yX5_isName wsX5_isName) := goodIn_app (goodIn_of _ (by decide +kernel)) ggX5_equal_X5_isName
set_option maxRecDepth 20000 in
theorem ggX5_equal_X5_tells : GoodIn wsX5_equal wsX5_tells := goodIn_r _ [10, 11, 12, 13, 14, 15, 16, 17, 18, 19, 4, 20, 6, 21, 22, 23, 24, 25, 26, 27, 28, 29, 30, 31, 32, 33, 34, 35, 36, 37, 38, 39, 40, 41, 42, 43, 44, 45, 46, 47, 48, 49, 50, 51, 52, 53, 54, 55, 56, 57, 58, 59, 60, 61, 62, 63, 64, 65, 66, 67, 68, 69, 70, 71, 72, 73, 74, 75, 76, 77, 78, 79, 80, 81, 82, 83, 84, 85, 86, 87, 88, 89, 90, 91, 92, 93, 94, 95, 96, 97, 98, 99, 100] (by decide +kernel) (by decide +kernel)
set_option maxRecDepth 20000 in
theorem gX5_equal_X5_tells : GoodIn wsX5_equal (wsV RX5 132 RX5 yX5_tells wsX5_tells) := goodIn_app (goodIn_of _ (by decide +kernel)) ggX5_equal_X5_tells
theorem dX5_equal_0 : decode cX5_equal 0 = .ok (.aload_n 0, 1) := by decide +kernel
theorem dX5_equal_1 : decode cX5_equal 1 = .ok (.iload_n 1, 1) := by decide +kernel
theorem dX5_equal_2 : decode cX5_equal 2 = .ok (.invokevirtual 129, 3) := by decide +kernel
theorem dX5_equal_5 : decode cX5_equal 5 = .ok (.ifCond .eq 27, 3) := by decide +kernel
theorem dX5_equal_8 : decode cX5_equal 8 = .ok (.aload_n 0, 1) := by decide +kernel
theorem dX5_equal_9 : decode cX5_equal 9 = .ok (.iload_n 2, 1) := by decide +kernel
theorem dX5_equal_10 : decode cX5_equal 10 = .ok (.invokevirtual 129, 3) := by decide +kernel
theorem dX5_equal_13 : decode cX5_equal 13 = .ok (.ifCond .eq 19, 3) := by decide +kernel
theorem dX5_equal_16 : decode cX5_equal 16 = .ok (.aload_n 0, 1) := by decide +kernel
theorem dX5_equal_17 : decode cX5_equal 17 = .ok (.iconst 2, 1) := by decide +kernel
theorem dX5_equal_18 : decode cX5_equal 18 = .ok (.iload_n 1, 1) := by decide +kernel
theorem dX5_equal_19 : decode cX5_equal 19 = .ok (.iload_n 2, 1) := by decide +kernel
theorem dX5_equal_20 : decode cX5_equal 20 = .ok (.lconst 0, 1) := by decide +kernel
theorem dX5_equal_21 : decode cX5_equal 21 = .ok (.lconst 0, 1) := by decide +kernel
theorem dX5_equal_22 : decode cX5_equal 22 = .ok (.invokevirtual 132, 3) := by decide +kernel
theorem dX5_equal_25 : decode cX5_equal 25 = .ok (.ifCond .eq 7, 3) := by decide +kernel
theorem dX5_equal_28 : decode cX5_equal 28 = .ok (.iconst 1, 1) := by decide +kernel
theorem dX5_equal_29 : decode cX5_equal 29 = .ok (.goto 4, 3) := by decide +kernel
theorem dX5_equal_32 : decode cX5_equal 32 = .ok (.iconst 0, 1) := by decide +kernel
theorem dX5_equal_33 : decode cX5_equal 33 = .ok (.ireturn, 1) := by decide +kernel
set_option maxRecDepth 20000 in
theorem ggX5_put_X5_isName : GoodIn wsX5_put wsX5_isName := goodIn_r _ [8, 9, 10, 11, 12, 13, 14, 15, 16, 17, 18, 19, 20, 21, 22, 23, 24, 25, 26, 27, 28, 29, 30, 31, 32, 33, 34, 35, 36, 37, 38, 39, 40, 41, 42, 43] (by decide +kernel) (by decide +kernel)
set_option maxRecDepth 20000 in
theorem gX5_put_X5_isName : GoodIn wsX5_put (wsV RX5 129 RX5 yX5_isName wsX5_isName) := goodIn_app (goodIn_of _ (by decide +kernel)) ggX5_put_X5_isName
theorem dX5_put_0 : decode cX5_put 0 = .ok (.aload_n 0, 1) := by decide +kernel
theorem dX5_put_1 : decode cX5_put 1 = .ok (.iload_n 1, 1) := by decide +kernel
theorem dX5_put_2 : decode cX5_put 2 = .ok (.invokevirtual 129, 3) := by decide +kernel
theorem dX5_put_5 : decode cX5_put 5 = .ok (.ifCond .eq 12, 3) := by decide +kernel
theorem dX5_put_8 : decode cX5_put 8 = .ok (.aload_n 0, 1) := by decide +kernel
theorem dX5_put_9 : decode cX5_put 9 = .ok (.getfield 136, 3) := by decide +kernel
theorem dX5_put_12 : decode cX5_put 12 = .ok (.bipush 32, 2) := by decide +kernel
theorem dX5_put_14 : decode cX5_put 14 = .ok (.if_icmp .ne 5, 3) := by decide +kernel
theorem dX5_put_17 : decode cX5_put 17 = .ok (.iconst (-1), 1) := by decide +kernel
theorem dX5_put_18 : decode cX5_put 18 = .ok (.ireturn, 1) := by decide +kernel
theorem dX5_put_19 : decode cX5_put 19 = .ok (.aload_n 0, 1) := by decide +kernel
theorem dX5_put_20 : decode cX5_put 20 = .ok (.getfield 26, 3) := by decide +kernel
theorem dX5_put_23 : decode cX5_put 23 = .ok (.aload_n 0, 1) := by decide +kernel
theorem dX5_put_24 : decode cX5_put 24 = .ok (.getfield 136, 3) := by decide +kernel
theorem dX5_put_27 : decode cX5_put 27 = .ok (.iload_n 1, 1) := by decide +kernel
theorem dX5_put_28 : decode cX5_put 28 = .ok (.iastore, 1) := by decide +kernel
theorem dX5_put_29 : decode cX5_put 29 = .ok (.aload_n 0, 1) := by decide +kernel
theorem dX5_put_30 : decode cX5_put 30 = .ok (.getfield 29, 3) := by decide +kernel
theorem dX5_put_33 : decode cX5_put 33 = .ok (.aload_n 0, 1) := by decide +kernel
theorem dX5_put_34 : decode cX5_put 34 = .ok (.getfield 136, 3) := by decide +kernel
theorem dX5_put_37 : decode cX5_put 37 = .ok (.lload_n 2, 1) := by decide +kernel
theorem dX5_put_38 : decode cX5_put 38 = .ok (.lastore, 1) := by decide +kernel
theorem dX5_put_39 : decode cX5_put 39 = .ok (.aload_n 0, 1) := by decide +kernel
theorem dX5_put_40 : decode cX5_put 40 = .ok (.dup, 1) := by decide +kernel
theorem dX5_put_41 : decode cX5_put 41 = .ok (.getfield 136, 3) := by decide +kernel
theorem dX5_put_44 : decode cX5_put 44 = .ok (.iconst 1, 1) := by decide +kernel
theorem dX5_put_45 : decode cX5_put 45 = .ok (.iadd, 1) := by decide +kernel
theorem dX5_put_46 : decode cX5_put 46 = .ok (.putfield 136, 3) := by decide +kernel
theorem dX5_put_49 : decode cX5_put 49 = .ok (.aload_n 0, 1) := by decide +kernel
theorem dX5_put_50 : decode cX5_put 50 = .ok (.getfield 136, 3) := by decide +kernel
theorem dX5_put_53 : decode cX5_put 53 = .ok (.ireturn, 1) := by decide +kernel
set_option maxRecDepth 20000 in
theorem ggX5_keep_X5_forget : GoodIn wsX5_keep wsX5_forget := goodIn_r _ [14, 15, 16, 17, 35, 36, 37, 38, 39, 40, 41, 42, 43, 44, 45, 46, 47, 48, 49, 50, 51, 52, 53, 54, 55, 56, 57, 58, 59, 60, 61, 62, 63, 64, 65, 66, 67, 68] (by decide +kernel) (by decide +kernel)
set_option maxRecDepth 20000 in
theorem gX5_keep_X5_forget : GoodIn wsX5_keep (wsV RX5 126 RX5 yX5_forget wsX5_forget) := goodIn_app (goodIn_of _ (by decide +kernel)) ggX5_keep_X5_forget
set_option maxRecDepth 20000 in
theorem ggX5_keep_X5_holds : GoodIn wsX5_keep wsX5_holds := goodIn_r _ [21, 4, 6, 8, 3, 5, 22, 23, 24, 13, 25, 26, 27, 28, 29, 30, 31, 32, 33, 34, 35, 36, 37, 38, 39, 40, 41, 42, 43, 44, 45, 46, 47, 48, 49, 50, 51, 52, 53, 54, 55, 56, 57, 58, 59, 60, 61, 62, 63, 64, 65, 66, 67, 68] (by decide +kernel) (by decide +kernel)
set_option maxRecDepth 20000 in
theorem gX5_keep_X5_holds : GoodIn wsX5_keep (wsV RX5 111 RX5 yX5_holds wsX5_holds) := goodIn_app (goodIn_of _ (by decide +kernel)) ggX5_keep_X5_holds
theorem dX5_keep_0 : decode cX5_keep 0 = .ok (.aload_n 0, 1) := by decide +kernel
theorem dX5_keep_1 : decode cX5_keep 1 = .ok (.invokevirtual 126, 3) := by decide +kernel
theorem dX5_keep_4 : decode cX5_keep 4 = .ok (.aload_n 0, 1) := by decide +kernel
theorem dX5_keep_5 : decode cX5_keep 5 = .ok (.getfield 136, 3) := by decide +kernel
theorem dX5_keep_8 : decode cX5_keep 8 = .ok (.istore 4, 2) := by decide +kernel
theorem dX5_keep_10 : decode cX5_keep 10 = .ok (.aload_n 0, 1) := by decide +kernel
theorem dX5_keep_11 : decode cX5_keep 11 = .ok (.iconst 0, 1) := by decide +kernel
theorem dX5_keep_12 : decode cX5_keep 12 = .ok (.putfield 136, 3) := by decide +kernel
theorem dX5_keep_15 : decode cX5_keep 15 = .ok (.iload_n 1, 1) := by decide +kernel
theorem dX5_keep_16 : decode cX5_keep 16 = .ok (.ifCond .lt 17, 3) := by decide +kernel
theorem dX5_keep_19 : decode cX5_keep 19 = .ok (.iload_n 1, 1) := by decide +kernel
theorem dX5_keep_20 : decode cX5_keep 20 = .ok (.iconst 2, 1) := by decide +kernel
theorem dX5_keep_21 : decode cX5_keep 21 = .ok (.if_icmp .gt 12, 3) := by decide +kernel
theorem dX5_keep_24 : decode cX5_keep 24 = .ok (.aload_n 0, 1) := by decide +kernel
theorem dX5_keep_25 : decode cX5_keep 25 = .ok (.getfield 108, 3) := by decide +kernel
theorem dX5_keep_28 : decode cX5_keep 28 = .ok (.bipush 60, 2) := by decide +kernel
theorem dX5_keep_30 : decode cX5_keep 30 = .ok (.if_icmp .ne 5, 3) := by decide +kernel
theorem dX5_keep_33 : decode cX5_keep 33 = .ok (.iconst (-1), 1) := by decide +kernel
theorem dX5_keep_34 : decode cX5_keep 34 = .ok (.ireturn, 1) := by decide +kernel
theorem dX5_keep_35 : decode cX5_keep 35 = .ok (.aload_n 0, 1) := by decide +kernel
theorem dX5_keep_36 : decode cX5_keep 36 = .ok (.getfield 32, 3) := by decide +kernel
theorem dX5_keep_39 : decode cX5_keep 39 = .ok (.aload_n 0, 1) := by decide +kernel
theorem dX5_keep_40 : decode cX5_keep 40 = .ok (.getfield 108, 3) := by decide +kernel
theorem dX5_keep_43 : decode cX5_keep 43 = .ok (.iload_n 1, 1) := by decide +kernel
theorem dX5_keep_44 : decode cX5_keep 44 = .ok (.iastore, 1) := by decide +kernel
theorem dX5_keep_45 : decode cX5_keep 45 = .ok (.aload_n 0, 1) := by decide +kernel
theorem dX5_keep_46 : decode cX5_keep 46 = .ok (.getfield 35, 3) := by decide +kernel
theorem dX5_keep_49 : decode cX5_keep 49 = .ok (.aload_n 0, 1) := by decide +kernel
theorem dX5_keep_50 : decode cX5_keep 50 = .ok (.getfield 108, 3) := by decide +kernel
theorem dX5_keep_53 : decode cX5_keep 53 = .ok (.iload 4, 2) := by decide +kernel
theorem dX5_keep_55 : decode cX5_keep 55 = .ok (.iastore, 1) := by decide +kernel
theorem dX5_keep_56 : decode cX5_keep 56 = .ok (.aload_n 0, 1) := by decide +kernel
theorem dX5_keep_57 : decode cX5_keep 57 = .ok (.getfield 44, 3) := by decide +kernel
theorem dX5_keep_60 : decode cX5_keep 60 = .ok (.aload_n 0, 1) := by decide +kernel
theorem dX5_keep_61 : decode cX5_keep 61 = .ok (.getfield 108, 3) := by decide +kernel
theorem dX5_keep_64 : decode cX5_keep 64 = .ok (.lload_n 2, 1) := by decide +kernel
theorem dX5_keep_65 : decode cX5_keep 65 = .ok (.lastore, 1) := by decide +kernel
theorem dX5_keep_66 : decode cX5_keep 66 = .ok (.iconst 0, 1) := by decide +kernel
theorem dX5_keep_67 : decode cX5_keep 67 = .ok (.istore 5, 2) := by decide +kernel
theorem dX5_keep_69 : decode cX5_keep 69 = .ok (.iload 5, 2) := by decide +kernel
theorem dX5_keep_71 : decode cX5_keep 71 = .ok (.iload 4, 2) := by decide +kernel
theorem dX5_keep_73 : decode cX5_keep 73 = .ok (.if_icmp .ge 53, 3) := by decide +kernel
theorem dX5_keep_76 : decode cX5_keep 76 = .ok (.aload_n 0, 1) := by decide +kernel
theorem dX5_keep_77 : decode cX5_keep 77 = .ok (.getfield 38, 3) := by decide +kernel
theorem dX5_keep_80 : decode cX5_keep 80 = .ok (.bipush 32, 2) := by decide +kernel
theorem dX5_keep_82 : decode cX5_keep 82 = .ok (.aload_n 0, 1) := by decide +kernel
theorem dX5_keep_83 : decode cX5_keep 83 = .ok (.getfield 108, 3) := by decide +kernel
theorem dX5_keep_86 : decode cX5_keep 86 = .ok (.imul, 1) := by decide +kernel
theorem dX5_keep_87 : decode cX5_keep 87 = .ok (.iload 5, 2) := by decide +kernel
theorem dX5_keep_89 : decode cX5_keep 89 = .ok (.iadd, 1) := by decide +kernel
theorem dX5_keep_90 : decode cX5_keep 90 = .ok (.aload_n 0, 1) := by decide +kernel
theorem dX5_keep_91 : decode cX5_keep 91 = .ok (.getfield 26, 3) := by decide +kernel
theorem dX5_keep_94 : decode cX5_keep 94 = .ok (.iload 5, 2) := by decide +kernel
theorem dX5_keep_96 : decode cX5_keep 96 = .ok (.iaload, 1) := by decide +kernel
theorem dX5_keep_97 : decode cX5_keep 97 = .ok (.iastore, 1) := by decide +kernel
theorem dX5_keep_98 : decode cX5_keep 98 = .ok (.aload_n 0, 1) := by decide +kernel
theorem dX5_keep_99 : decode cX5_keep 99 = .ok (.getfield 41, 3) := by decide +kernel
theorem dX5_keep_102 : decode cX5_keep 102 = .ok (.bipush 32, 2) := by decide +kernel
theorem dX5_keep_104 : decode cX5_keep 104 = .ok (.aload_n 0, 1) := by decide +kernel
theorem dX5_keep_105 : decode cX5_keep 105 = .ok (.getfield 108, 3) := by decide +kernel
theorem dX5_keep_108 : decode cX5_keep 108 = .ok (.imul, 1) := by decide +kernel
theorem dX5_keep_109 : decode cX5_keep 109 = .ok (.iload 5, 2) := by decide +kernel
theorem dX5_keep_111 : decode cX5_keep 111 = .ok (.iadd, 1) := by decide +kernel
theorem dX5_keep_112 : decode cX5_keep 112 = .ok (.aload_n 0, 1) := by decide +kernel
theorem dX5_keep_113 : decode cX5_keep 113 = .ok (.getfield 29, 3) := by decide +kernel
theorem dX5_keep_116 : decode cX5_keep 116 = .ok (.iload 5, 2) := by decide +kernel
theorem dX5_keep_118 : decode cX5_keep 118 = .ok (.laload, 1) := by decide +kernel
theorem dX5_keep_119 : decode cX5_keep 119 = .ok (.lastore, 1) := by decide +kernel
theorem dX5_keep_120 : decode cX5_keep 120 = .ok (.iinc 5 1, 3) := by decide +kernel
theorem dX5_keep_123 : decode cX5_keep 123 = .ok (.goto (-54), 3) := by decide +kernel
theorem dX5_keep_126 : decode cX5_keep 126 = .ok (.aload_n 0, 1) := by decide +kernel
theorem dX5_keep_127 : decode cX5_keep 127 = .ok (.aload_n 0, 1) := by decide +kernel
theorem dX5_keep_128 : decode cX5_keep 128 = .ok (.getfield 108, 3) := by decide +kernel
theorem dX5_keep_131 : decode cX5_keep 131 = .ok (.invokevirtual 111, 3) := by decide +kernel
theorem dX5_keep_134 : decode cX5_keep 134 = .ok (.ifCond .ne 5, 3) := by decide +kernel
theorem dX5_keep_137 : decode cX5_keep 137 = .ok (.iconst 0, 1) := by decide +kernel
theorem dX5_keep_138 : decode cX5_keep 138 = .ok (.ireturn, 1) := by decide +kernel
theorem dX5_keep_139 : decode cX5_keep 139 = .ok (.aload_n 0, 1) := by decide +kernel
theorem dX5_keep_140 : decode cX5_keep 140 = .ok (.dup, 1) := by decide +kernel
theorem dX5_keep_141 : decode cX5_keep 141 = .ok (.getfield 108, 3) := by decide +kernel
theorem dX5_keep_144 : decode cX5_keep 144 = .ok (.iconst 1, 1) := by decide +kernel
theorem dX5_keep_145 : decode cX5_keep 145 = .ok (.iadd, 1) := by decide +kernel
theorem dX5_keep_146 : decode cX5_keep 146 = .ok (.putfield 108, 3) := by decide +kernel
theorem dX5_keep_149 : decode cX5_keep 149 = .ok (.iconst 1, 1) := by decide +kernel
theorem dX5_keep_150 : decode cX5_keep 150 = .ok (.ireturn, 1) := by decide +kernel
theorem dX5_forget_0 : decode cX5_forget 0 = .ok (.aload_n 0, 1) := by decide +kernel
theorem dX5_forget_1 : decode cX5_forget 1 = .ok (.iconst 0, 1) := by decide +kernel
theorem dX5_forget_2 : decode cX5_forget 2 = .ok (.putfield 139, 3) := by decide +kernel
theorem dX5_forget_5 : decode cX5_forget 5 = .ok (.aload_n 0, 1) := by decide +kernel
theorem dX5_forget_6 : decode cX5_forget 6 = .ok (.iconst 0, 1) := by decide +kernel
theorem dX5_forget_7 : decode cX5_forget 7 = .ok (.putfield 143, 3) := by decide +kernel
theorem dX5_forget_10 : decode cX5_forget 10 = .ok (.aload_n 0, 1) := by decide +kernel
theorem dX5_forget_11 : decode cX5_forget 11 = .ok (.iconst 0, 1) := by decide +kernel
theorem dX5_forget_12 : decode cX5_forget 12 = .ok (.putfield 146, 3) := by decide +kernel
theorem dX5_forget_15 : decode cX5_forget 15 = .ok (.return_, 1) := by decide +kernel
theorem dX5_collect_0 : decode cX5_collect 0 = .ok (.iconst 0, 1) := by decide +kernel
theorem dX5_collect_1 : decode cX5_collect 1 = .ok (.istore_n 1, 1) := by decide +kernel
theorem dX5_collect_2 : decode cX5_collect 2 = .ok (.iconst 1, 1) := by decide +kernel
theorem dX5_collect_3 : decode cX5_collect 3 = .ok (.istore_n 2, 1) := by decide +kernel
theorem dX5_collect_4 : decode cX5_collect 4 = .ok (.iconst 0, 1) := by decide +kernel
theorem dX5_collect_5 : decode cX5_collect 5 = .ok (.istore_n 3, 1) := by decide +kernel
theorem dX5_collect_6 : decode cX5_collect 6 = .ok (.iload_n 3, 1) := by decide +kernel
theorem dX5_collect_7 : decode cX5_collect 7 = .ok (.aload_n 0, 1) := by decide +kernel
theorem dX5_collect_8 : decode cX5_collect 8 = .ok (.getfield 136, 3) := by decide +kernel
theorem dX5_collect_11 : decode cX5_collect 11 = .ok (.if_icmp .ge 109, 3) := by decide +kernel
theorem dX5_collect_14 : decode cX5_collect 14 = .ok (.aload_n 0, 1) := by decide +kernel
theorem dX5_collect_15 : decode cX5_collect 15 = .ok (.getfield 56, 3) := by decide +kernel
theorem dX5_collect_18 : decode cX5_collect 18 = .ok (.aload_n 0, 1) := by decide +kernel
theorem dX5_collect_19 : decode cX5_collect 19 = .ok (.getfield 26, 3) := by decide +kernel
theorem dX5_collect_22 : decode cX5_collect 22 = .ok (.iload_n 3, 1) := by decide +kernel
theorem dX5_collect_23 : decode cX5_collect 23 = .ok (.iaload, 1) := by decide +kernel
theorem dX5_collect_24 : decode cX5_collect 24 = .ok (.iaload, 1) := by decide +kernel
theorem dX5_collect_25 : decode cX5_collect 25 = .ok (.istore 4, 2) := by decide +kernel
theorem dX5_collect_27 : decode cX5_collect 27 = .ok (.aload_n 0, 1) := by decide +kernel
theorem dX5_collect_28 : decode cX5_collect 28 = .ok (.getfield 59, 3) := by decide +kernel
theorem dX5_collect_31 : decode cX5_collect 31 = .ok (.iload 4, 2) := by decide +kernel
theorem dX5_collect_33 : decode cX5_collect 33 = .ok (.baload, 1) := by decide +kernel
theorem dX5_collect_34 : decode cX5_collect 34 = .ok (.istore 5, 2) := by decide +kernel
theorem dX5_collect_36 : decode cX5_collect 36 = .ok (.iconst 0, 1) := by decide +kernel
theorem dX5_collect_37 : decode cX5_collect 37 = .ok (.istore 6, 2) := by decide +kernel
theorem dX5_collect_39 : decode cX5_collect 39 = .ok (.iload 6, 2) := by decide +kernel
theorem dX5_collect_41 : decode cX5_collect 41 = .ok (.iload_n 1, 1) := by decide +kernel
theorem dX5_collect_42 : decode cX5_collect 42 = .ok (.if_icmp .ge 33, 3) := by decide +kernel
theorem dX5_collect_45 : decode cX5_collect 45 = .ok (.iload 5, 2) := by decide +kernel
theorem dX5_collect_47 : decode cX5_collect 47 = .ok (.ifCond .ne 15, 3) := by decide +kernel
theorem dX5_collect_50 : decode cX5_collect 50 = .ok (.aload_n 0, 1) := by decide +kernel
theorem dX5_collect_51 : decode cX5_collect 51 = .ok (.getfield 81, 3) := by decide +kernel
theorem dX5_collect_54 : decode cX5_collect 54 = .ok (.iload 6, 2) := by decide +kernel
theorem dX5_collect_56 : decode cX5_collect 56 = .ok (.iaload, 1) := by decide +kernel
theorem dX5_collect_57 : decode cX5_collect 57 = .ok (.iload 4, 2) := by decide +kernel
theorem dX5_collect_59 : decode cX5_collect 59 = .ok (.if_icmp .ne 7, 3) := by decide +kernel
theorem dX5_collect_62 : decode cX5_collect 62 = .ok (.iconst 1, 1) := by decide +kernel
theorem dX5_collect_63 : decode cX5_collect 63 = .ok (.goto 4, 3) := by decide +kernel
theorem dX5_collect_66 : decode cX5_collect 66 = .ok (.iconst 0, 1) := by decide +kernel
theorem dX5_collect_67 : decode cX5_collect 67 = .ok (.istore 5, 2) := by decide +kernel
theorem dX5_collect_69 : decode cX5_collect 69 = .ok (.iinc 6 1, 3) := by decide +kernel
theorem dX5_collect_72 : decode cX5_collect 72 = .ok (.goto (-33), 3) := by decide +kernel
theorem dX5_collect_75 : decode cX5_collect 75 = .ok (.iload 5, 2) := by decide +kernel
theorem dX5_collect_77 : decode cX5_collect 77 = .ok (.ifCond .eq 6, 3) := by decide +kernel
theorem dX5_collect_80 : decode cX5_collect 80 = .ok (.goto 34, 3) := by decide +kernel
theorem dX5_collect_83 : decode cX5_collect 83 = .ok (.iload_n 2, 1) := by decide +kernel
theorem dX5_collect_84 : decode cX5_collect 84 = .ok (.ifCond .eq 17, 3) := by decide +kernel
theorem dX5_collect_87 : decode cX5_collect 87 = .ok (.aload_n 0, 1) := by decide +kernel
theorem dX5_collect_88 : decode cX5_collect 88 = .ok (.getfield 63, 3) := by decide +kernel
theorem dX5_collect_91 : decode cX5_collect 91 = .ok (.iload 4, 2) := by decide +kernel
theorem dX5_collect_93 : decode cX5_collect 93 = .ok (.baload, 1) := by decide +kernel
theorem dX5_collect_94 : decode cX5_collect 94 = .ok (.ifCond .eq 7, 3) := by decide +kernel
theorem dX5_collect_97 : decode cX5_collect 97 = .ok (.iconst 1, 1) := by decide +kernel
theorem dX5_collect_98 : decode cX5_collect 98 = .ok (.goto 4, 3) := by decide +kernel
theorem dX5_collect_101 : decode cX5_collect 101 = .ok (.iconst 0, 1) := by decide +kernel
theorem dX5_collect_102 : decode cX5_collect 102 = .ok (.istore_n 2, 1) := by decide +kernel
theorem dX5_collect_103 : decode cX5_collect 103 = .ok (.aload_n 0, 1) := by decide +kernel
theorem dX5_collect_104 : decode cX5_collect 104 = .ok (.getfield 81, 3) := by decide +kernel
theorem dX5_collect_107 : decode cX5_collect 107 = .ok (.iload_n 1, 1) := by decide +kernel
theorem dX5_collect_108 : decode cX5_collect 108 = .ok (.iload 4, 2) := by decide +kernel
theorem dX5_collect_110 : decode cX5_collect 110 = .ok (.iastore, 1) := by decide +kernel
theorem dX5_collect_111 : decode cX5_collect 111 = .ok (.iinc 1 1, 3) := by decide +kernel
theorem dX5_collect_114 : decode cX5_collect 114 = .ok (.iinc 3 1, 3) := by decide +kernel
theorem dX5_collect_117 : decode cX5_collect 117 = .ok (.goto (-111), 3) := by decide +kernel
theorem dX5_collect_120 : decode cX5_collect 120 = .ok (.iload_n 2, 1) := by decide +kernel
theorem dX5_collect_121 : decode cX5_collect 121 = .ok (.ifCond .eq 7, 3) := by decide +kernel
theorem dX5_collect_124 : decode cX5_collect 124 = .ok (.iload_n 1, 1) := by decide +kernel
theorem dX5_collect_125 : decode cX5_collect 125 = .ok (.goto 4, 3) := by decide +kernel
theorem dX5_collect_128 : decode cX5_collect 128 = .ok (.iconst (-1), 1) := by decide +kernel
theorem dX5_collect_129 : decode cX5_collect 129 = .ok (.ireturn, 1) := by decide +kernel
set_option maxRecDepth 20000 in
theorem ggX5_label_X5_forget : GoodIn wsX5_label wsX5_forget := goodIn_r _ [12, 7, 5, 6, 48, 49, 50, 51, 52, 53, 54, 55, 56, 57, 58, 59, 60, 61, 62, 63, 64, 65, 66, 67, 68, 69, 70, 71, 72, 73, 74, 75, 76, 77, 78, 79, 80, 81] (by decide +kernel) (by decide +kernel)
set_option maxRecDepth 20000 in
theorem gX5_label_X5_forget : GoodIn wsX5_label (wsV RX5 126 RX5 yX5_forget wsX5_forget) := goodIn_app (goodIn_of _ (by decide +kernel)) ggX5_label_X5_forget
set_option maxRecDepth 20000 in
theorem ggX5_label_X5_collect : GoodIn wsX5_label wsX5_collect := goodIn_r _ [16, 2, 17, 18, 19, 4, 20, 48, 49, 50, 51, 52, 53, 54, 55, 56, 57, 58, 59, 60, 61, 62, 63, 64, 65, 66, 67, 68, 69, 70, 71, 72, 73, 74, 75, 76, 77, 78, 79, 80, 81] (by decide +kernel) (by decide +kernel)
set_option maxRecDepth 20000 in
theorem gX5_label_X5_collect : GoodIn wsX5_label (wsV RX5 152 RX5 yX5_collect wsX5_collect) := goodIn_app (goodIn_of _ (by decide +kernel)) ggX5_label_X5_collect
set_option maxRecDepth 20000 in
theorem ggX5_label_X5_tries : GoodIn wsX5_label wsX5_tries := goodIn_r _ [24, 25, 4, 26, 1, 3, 27, 28, 29, 30, 31, 32, 11, 33, 34, 35, 36, 37, 38, 39, 40, 41, 42, 19, 17, 43, 44, 45, 46, 47, 48, 49, 50, 51, 52, 53, 54, 55, 56, 57, 58, 59, 60, 61, 62, 63, 64, 65, 66, 67, 68, 69, 70, 71, 72, 73, 74, 75, 76, 77, 78, 79, 80, 81] (by decide +kernel) (by decide +kernel)
set_option maxRecDepth 20000 in
theorem gX5_label_X5_tries : GoodIn wsX5_label (wsV RX5 156 RX5 yX5_tries wsX5_tries) := goodIn_app (goodIn_of _ (by decide +kernel)) ggX5_label_X5_tries
theorem dX5_label_0 : decode cX5_label 0 = .ok (.aload_n 0, 1) := by decide +kernel
theorem dX5_label_1 : decode cX5_label 1 = .ok (.invokevirtual 126, 3) := by decide +kernel
theorem dX5_label_4 : decode cX5_label 4 = .ok (.aload_n 0, 1) := by decide +kernel
theorem dX5_label_5 : decode cX5_label 5 = .ok (.iconst 0, 1) := by decide +kernel
theorem dX5_label_6 : decode cX5_label 6 = .ok (.putfield 149, 3) := by decide +kernel
theorem dX5_label_9 : decode cX5_label 9 = .ok (.aload_n 0, 1) := by decide +kernel
theorem dX5_label_10 : decode cX5_label 10 = .ok (.invokevirtual 152, 3) := by decide +kernel
theorem dX5_label_13 : decode cX5_label 13 = .ok (.istore_n 1, 1) := by decide +kernel
theorem dX5_label_14 : decode cX5_label 14 = .ok (.aload_n 0, 1) := by decide +kernel
theorem dX5_label_15 : decode cX5_label 15 = .ok (.iconst 0, 1) := by decide +kernel
theorem dX5_label_16 : decode cX5_label 16 = .ok (.putfield 136, 3) := by decide +kernel
theorem dX5_label_19 : decode cX5_label 19 = .ok (.iload_n 1, 1) := by decide +kernel
theorem dX5_label_20 : decode cX5_label 20 = .ok (.iconst (-1), 1) := by decide +kernel
theorem dX5_label_21 : decode cX5_label 21 = .ok (.if_icmp .eq 9, 3) := by decide +kernel
theorem dX5_label_24 : decode cX5_label 24 = .ok (.iload_n 1, 1) := by decide +kernel
theorem dX5_label_25 : decode cX5_label 25 = .ok (.bipush 8, 2) := by decide +kernel
theorem dX5_label_27 : decode cX5_label 27 = .ok (.if_icmp .le 15, 3) := by decide +kernel
theorem dX5_label_30 : decode cX5_label 30 = .ok (.iload_n 1, 1) := by decide +kernel
theorem dX5_label_31 : decode cX5_label 31 = .ok (.iconst (-1), 1) := by decide +kernel
theorem dX5_label_32 : decode cX5_label 32 = .ok (.if_icmp .ne 7, 3) := by decide +kernel
