theorem dX1_join_23 : decode cX1_join 23 = .ok (.getfield 9, 3) := by decide +kernel
theorem dX1_join_26 : decode cX1_join 26 = .ok (.iload_n 2, 1) := by decide +kernel
theorem dX1_join_27 : decode cX1_join 27 = .ok (.iaload, 1) := by decide +kernel
theorem dX1_join_28 : decode cX1_join 28 = .ok (.invokestatic 75, 3) := by decide +kernel
theorem dX1_join_31 : decode cX1_join 31 = .ok (.istore 4, 2) := by decide +kernel
theorem dX1_join_33 : decode cX1_join 33 = .ok (.iconst 0, 1) := by decide +kernel
theorem dX1_join_34 : decode cX1_join 34 = .ok (.istore 5, 2) := by decide +kernel
theorem dX1_join_36 : decode cX1_join 36 = .ok (.iload 5, 2) := by decide +kernel
theorem dX1_join_38 : decode cX1_join 38 = .ok (.aload_n 0, 1) := by decide +kernel
theorem dX1_join_39 : decode cX1_join 39 = .ok (.getfield 32, 3) := by decide +kernel
theorem dX1_join_42 : decode cX1_join 42 = .ok (.if_icmp .ge 29, 3) := by decide +kernel
theorem dX1_join_45 : decode cX1_join 45 = .ok (.aload_n 0, 1) := by decide +kernel
theorem dX1_join_46 : decode cX1_join 46 = .ok (.getfield 9, 3) := by decide +kernel
theorem dX1_join_49 : decode cX1_join 49 = .ok (.iload 5, 2) := by decide +kernel
theorem dX1_join_51 : decode cX1_join 51 = .ok (.iaload, 1) := by decide +kernel
theorem dX1_join_52 : decode cX1_join 52 = .ok (.iload 4, 2) := by decide +kernel
theorem dX1_join_54 : decode cX1_join 54 = .ok (.if_icmp .ne 11, 3) := by decide +kernel
theorem dX1_join_57 : decode cX1_join 57 = .ok (.aload_n 0, 1) := by decide +kernel
theorem dX1_join_58 : decode cX1_join 58 = .ok (.getfield 9, 3) := by decide +kernel
theorem dX1_join_61 : decode cX1_join 61 = .ok (.iload 5, 2) := by decide +kernel
theorem dX1_join_63 : decode cX1_join 63 = .ok (.iload_n 3, 1) := by decide +kernel
theorem dX1_join_64 : decode cX1_join 64 = .ok (.iastore, 1) := by decide +kernel
theorem dX1_join_65 : decode cX1_join 65 = .ok (.iinc 5 1, 3) := by decide +kernel
theorem dX1_join_68 : decode cX1_join 68 = .ok (.goto (-32), 3) := by decide +kernel
theorem dX1_join_71 : decode cX1_join 71 = .ok (.return_, 1) := by decide +kernel
theorem dX1_countOnes_0 : decode cX1_countOnes 0 = .ok (.iconst 0, 1) := by decide +kernel
theorem dX1_countOnes_1 : decode cX1_countOnes 1 = .ok (.istore_n 2, 1) := by decide +kernel
theorem dX1_countOnes_2 : decode cX1_countOnes 2 = .ok (.iconst 0, 1) := by decide +kernel
theorem dX1_countOnes_3 : decode cX1_countOnes 3 = .ok (.istore_n 3, 1) := by decide +kernel
theorem dX1_countOnes_4 : decode cX1_countOnes 4 = .ok (.iload_n 3, 1) := by decide +kernel
theorem dX1_countOnes_5 : decode cX1_countOnes 5 = .ok (.aload_n 0, 1) := by decide +kernel
theorem dX1_countOnes_6 : decode cX1_countOnes 6 = .ok (.getfield 32, 3) := by decide +kernel
theorem dX1_countOnes_9 : decode cX1_countOnes 9 = .ok (.if_icmp .ge 27, 3) := by decide +kernel
theorem dX1_countOnes_12 : decode cX1_countOnes 12 = .ok (.aload_n 0, 1) := by decide +kernel
theorem dX1_countOnes_13 : decode cX1_countOnes 13 = .ok (.getfield 9, 3) := by decide +kernel
theorem dX1_countOnes_16 : decode cX1_countOnes 16 = .ok (.iload_n 3, 1) := by decide +kernel
theorem dX1_countOnes_17 : decode cX1_countOnes 17 = .ok (.iaload, 1) := by decide +kernel
theorem dX1_countOnes_18 : decode cX1_countOnes 18 = .ok (.aload_n 0, 1) := by decide +kernel
theorem dX1_countOnes_19 : decode cX1_countOnes 19 = .ok (.getfield 9, 3) := by decide +kernel
theorem dX1_countOnes_22 : decode cX1_countOnes 22 = .ok (.iload_n 1, 1) := by decide +kernel
theorem dX1_countOnes_23 : decode cX1_countOnes 23 = .ok (.iaload, 1) := by decide +kernel
theorem dX1_countOnes_24 : decode cX1_countOnes 24 = .ok (.if_icmp .ne 6, 3) := by decide +kernel
theorem dX1_countOnes_27 : decode cX1_countOnes 27 = .ok (.iinc 2 1, 3) := by decide +kernel
theorem dX1_countOnes_30 : decode cX1_countOnes 30 = .ok (.iinc 3 1, 3) := by decide +kernel
theorem dX1_countOnes_33 : decode cX1_countOnes 33 = .ok (.goto (-29), 3) := by decide +kernel
theorem dX1_countOnes_36 : decode cX1_countOnes 36 = .ok (.iload_n 2, 1) := by decide +kernel
theorem dX1_countOnes_37 : decode cX1_countOnes 37 = .ok (.ireturn, 1) := by decide +kernel
theorem dX1_copyFrom_0 : decode cX1_copyFrom 0 = .ok (.aload_n 0, 1) := by decide +kernel
theorem dX1_copyFrom_1 : decode cX1_copyFrom 1 = .ok (.aload_n 1, 1) := by decide +kernel
theorem dX1_copyFrom_2 : decode cX1_copyFrom 2 = .ok (.getfield 32, 3) := by decide +kernel
theorem dX1_copyFrom_5 : decode cX1_copyFrom 5 = .ok (.putfield 32, 3) := by decide +kernel
theorem dX1_copyFrom_8 : decode cX1_copyFrom 8 = .ok (.iconst 0, 1) := by decide +kernel
theorem dX1_copyFrom_9 : decode cX1_copyFrom 9 = .ok (.istore_n 2, 1) := by decide +kernel
theorem dX1_copyFrom_10 : decode cX1_copyFrom 10 = .ok (.iload_n 2, 1) := by decide +kernel
theorem dX1_copyFrom_11 : decode cX1_copyFrom 11 = .ok (.aload_n 0, 1) := by decide +kernel
theorem dX1_copyFrom_12 : decode cX1_copyFrom 12 = .ok (.getfield 32, 3) := by decide +kernel
theorem dX1_copyFrom_15 : decode cX1_copyFrom 15 = .ok (.if_icmp .ge 81, 3) := by decide +kernel
theorem dX1_copyFrom_18 : decode cX1_copyFrom 18 = .ok (.aload_n 0, 1) := by decide +kernel
theorem dX1_copyFrom_19 : decode cX1_copyFrom 19 = .ok (.getfield 9, 3) := by decide +kernel
theorem dX1_copyFrom_22 : decode cX1_copyFrom 22 = .ok (.iload_n 2, 1) := by decide +kernel
theorem dX1_copyFrom_23 : decode cX1_copyFrom 23 = .ok (.aload_n 1, 1) := by decide +kernel
theorem dX1_copyFrom_24 : decode cX1_copyFrom 24 = .ok (.getfield 9, 3) := by decide +kernel
theorem dX1_copyFrom_27 : decode cX1_copyFrom 27 = .ok (.iload_n 2, 1) := by decide +kernel
theorem dX1_copyFrom_28 : decode cX1_copyFrom 28 = .ok (.iaload, 1) := by decide +kernel
theorem dX1_copyFrom_29 : decode cX1_copyFrom 29 = .ok (.iastore, 1) := by decide +kernel
theorem dX1_copyFrom_30 : decode cX1_copyFrom 30 = .ok (.aload_n 0, 1) := by decide +kernel
theorem dX1_copyFrom_31 : decode cX1_copyFrom 31 = .ok (.getfield 15, 3) := by decide +kernel
theorem dX1_copyFrom_34 : decode cX1_copyFrom 34 = .ok (.iload_n 2, 1) := by decide +kernel
theorem dX1_copyFrom_35 : decode cX1_copyFrom 35 = .ok (.aload_n 1, 1) := by decide +kernel
theorem dX1_copyFrom_36 : decode cX1_copyFrom 36 = .ok (.getfield 15, 3) := by decide +kernel
theorem dX1_copyFrom_39 : decode cX1_copyFrom 39 = .ok (.iload_n 2, 1) := by decide +kernel
theorem dX1_copyFrom_40 : decode cX1_copyFrom 40 = .ok (.baload, 1) := by decide +kernel
theorem dX1_copyFrom_41 : decode cX1_copyFrom 41 = .ok (.bastore, 1) := by decide +kernel
theorem dX1_copyFrom_42 : decode cX1_copyFrom 42 = .ok (.aload_n 0, 1) := by decide +kernel
theorem dX1_copyFrom_43 : decode cX1_copyFrom 43 = .ok (.getfield 19, 3) := by decide +kernel
theorem dX1_copyFrom_46 : decode cX1_copyFrom 46 = .ok (.iload_n 2, 1) := by decide +kernel
theorem dX1_copyFrom_47 : decode cX1_copyFrom 47 = .ok (.aload_n 1, 1) := by decide +kernel
theorem dX1_copyFrom_48 : decode cX1_copyFrom 48 = .ok (.getfield 19, 3) := by decide +kernel
theorem dX1_copyFrom_51 : decode cX1_copyFrom 51 = .ok (.iload_n 2, 1) := by decide +kernel
theorem dX1_copyFrom_52 : decode cX1_copyFrom 52 = .ok (.laload, 1) := by decide +kernel
theorem dX1_copyFrom_53 : decode cX1_copyFrom 53 = .ok (.lastore, 1) := by decide +kernel
theorem dX1_copyFrom_54 : decode cX1_copyFrom 54 = .ok (.aload_n 0, 1) := by decide +kernel
theorem dX1_copyFrom_55 : decode cX1_copyFrom 55 = .ok (.getfield 23, 3) := by decide +kernel
theorem dX1_copyFrom_58 : decode cX1_copyFrom 58 = .ok (.iload_n 2, 1) := by decide +kernel
theorem dX1_copyFrom_59 : decode cX1_copyFrom 59 = .ok (.aload_n 1, 1) := by decide +kernel
theorem dX1_copyFrom_60 : decode cX1_copyFrom 60 = .ok (.getfield 23, 3) := by decide +kernel
theorem dX1_copyFrom_63 : decode cX1_copyFrom 63 = .ok (.iload_n 2, 1) := by decide +kernel
theorem dX1_copyFrom_64 : decode cX1_copyFrom 64 = .ok (.baload, 1) := by decide +kernel
theorem dX1_copyFrom_65 : decode cX1_copyFrom 65 = .ok (.bastore, 1) := by decide +kernel
theorem dX1_copyFrom_66 : decode cX1_copyFrom 66 = .ok (.aload_n 0, 1) := by decide +kernel
theorem dX1_copyFrom_67 : decode cX1_copyFrom 67 = .ok (.getfield 26, 3) := by decide +kernel
theorem dX1_copyFrom_70 : decode cX1_copyFrom 70 = .ok (.iload_n 2, 1) := by decide +kernel
theorem dX1_copyFrom_71 : decode cX1_copyFrom 71 = .ok (.aload_n 1, 1) := by decide +kernel
theorem dX1_copyFrom_72 : decode cX1_copyFrom 72 = .ok (.getfield 26, 3) := by decide +kernel
theorem dX1_copyFrom_75 : decode cX1_copyFrom 75 = .ok (.iload_n 2, 1) := by decide +kernel
theorem dX1_copyFrom_76 : decode cX1_copyFrom 76 = .ok (.laload, 1) := by decide +kernel
theorem dX1_copyFrom_77 : decode cX1_copyFrom 77 = .ok (.lastore, 1) := by decide +kernel
theorem dX1_copyFrom_78 : decode cX1_copyFrom 78 = .ok (.aload_n 0, 1) := by decide +kernel
theorem dX1_copyFrom_79 : decode cX1_copyFrom 79 = .ok (.getfield 29, 3) := by decide +kernel
theorem dX1_copyFrom_82 : decode cX1_copyFrom 82 = .ok (.iload_n 2, 1) := by decide +kernel
theorem dX1_copyFrom_83 : decode cX1_copyFrom 83 = .ok (.aload_n 1, 1) := by decide +kernel
theorem dX1_copyFrom_84 : decode cX1_copyFrom 84 = .ok (.getfield 29, 3) := by decide +kernel
theorem dX1_copyFrom_87 : decode cX1_copyFrom 87 = .ok (.iload_n 2, 1) := by decide +kernel
theorem dX1_copyFrom_88 : decode cX1_copyFrom 88 = .ok (.laload, 1) := by decide +kernel
theorem dX1_copyFrom_89 : decode cX1_copyFrom 89 = .ok (.lastore, 1) := by decide +kernel
theorem dX1_copyFrom_90 : decode cX1_copyFrom 90 = .ok (.iinc 2 1, 3) := by decide +kernel
theorem dX1_copyFrom_93 : decode cX1_copyFrom 93 = .ok (.goto (-83), 3) := by decide +kernel
theorem dX1_copyFrom_96 : decode cX1_copyFrom 96 = .ok (.return_, 1) := by decide +kernel
theorem dX2_init_0 : decode cX2_init 0 = .ok (.aload_n 0, 1) := by decide +kernel
theorem dX2_init_1 : decode cX2_init 1 = .ok (.invokespecial 3, 3) := by decide +kernel
theorem dX2_init_4 : decode cX2_init 4 = .ok (.aload_n 0, 1) := by decide +kernel
theorem dX2_init_5 : decode cX2_init 5 = .ok (.bipush 32, 2) := by decide +kernel
theorem dX2_init_7 : decode cX2_init 7 = .ok (.newarray .int, 2) := by decide +kernel
theorem dX2_init_9 : decode cX2_init 9 = .ok (.putfield 9, 3) := by decide +kernel
theorem dX2_init_12 : decode cX2_init 12 = .ok (.aload_n 0, 1) := by decide +kernel
theorem dX2_init_13 : decode cX2_init 13 = .ok (.bipush 32, 2) := by decide +kernel
theorem dX2_init_15 : decode cX2_init 15 = .ok (.newarray .long, 2) := by decide +kernel
theorem dX2_init_17 : decode cX2_init 17 = .ok (.putfield 15, 3) := by decide +kernel
theorem dX2_init_20 : decode cX2_init 20 = .ok (.return_, 1) := by decide +kernel
theorem dX2_append_0 : decode cX2_append 0 = .ok (.aload_n 0, 1) := by decide +kernel
theorem dX2_append_1 : decode cX2_append 1 = .ok (.getfield 19, 3) := by decide +kernel
theorem dX2_append_4 : decode cX2_append 4 = .ok (.bipush 32, 2) := by decide +kernel
theorem dX2_append_6 : decode cX2_append 6 = .ok (.if_icmp .ge 33, 3) := by decide +kernel
theorem dX2_append_9 : decode cX2_append 9 = .ok (.aload_n 0, 1) := by decide +kernel
theorem dX2_append_10 : decode cX2_append 10 = .ok (.getfield 9, 3) := by decide +kernel
theorem dX2_append_13 : decode cX2_append 13 = .ok (.aload_n 0, 1) := by decide +kernel
theorem dX2_append_14 : decode cX2_append 14 = .ok (.getfield 19, 3) := by decide +kernel
theorem dX2_append_17 : decode cX2_append 17 = .ok (.iload_n 1, 1) := by decide +kernel
theorem dX2_append_18 : decode cX2_append 18 = .ok (.iastore, 1) := by decide +kernel
theorem dX2_append_19 : decode cX2_append 19 = .ok (.aload_n 0, 1) := by decide +kernel
theorem dX2_append_20 : decode cX2_append 20 = .ok (.getfield 15, 3) := by decide +kernel
theorem dX2_append_23 : decode cX2_append 23 = .ok (.aload_n 0, 1) := by decide +kernel
theorem dX2_append_24 : decode cX2_append 24 = .ok (.getfield 19, 3) := by decide +kernel
theorem dX2_append_27 : decode cX2_append 27 = .ok (.lload_n 2, 1) := by decide +kernel
theorem dX2_append_28 : decode cX2_append 28 = .ok (.lastore, 1) := by decide +kernel
theorem dX2_append_29 : decode cX2_append 29 = .ok (.aload_n 0, 1) := by decide +kernel
theorem dX2_append_30 : decode cX2_append 30 = .ok (.dup, 1) := by decide +kernel
theorem dX2_append_31 : decode cX2_append 31 = .ok (.getfield 19, 3) := by decide +kernel
theorem dX2_append_34 : decode cX2_append 34 = .ok (.iconst 1, 1) := by decide +kernel
theorem dX2_append_35 : decode cX2_append 35 = .ok (.iadd, 1) := by decide +kernel
theorem dX2_append_36 : decode cX2_append 36 = .ok (.putfield 19, 3) := by decide +kernel
theorem dX2_append_39 : decode cX2_append 39 = .ok (.return_, 1) := by decide +kernel
set_option maxRecDepth 20000 in
theorem ggX2_cutAtFirstGone_X1_has : GoodIn wsX2_cutAtFirstGone wsX1_has := goodIn_r _ [7, 8, 12, 13, 14, 15, 16, 17, 18] (by decide +kernel) (by decide +kernel)
set_option maxRecDepth 20000 in
theorem gX2_cutAtFirstGone_X1_has : GoodIn wsX2_cutAtFirstGone (wsV RX2 23 RX1 yX1_has wsX1_has) := goodIn_app (goodIn_of _ (by decide +kernel)) ggX2_cutAtFirstGone_X1_has
theorem dX2_cutAtFirstGone_0 : decode cX2_cutAtFirstGone 0 = .ok (.iconst 0, 1) := by decide +kernel
theorem dX2_cutAtFirstGone_1 : decode cX2_cutAtFirstGone 1 = .ok (.istore_n 2, 1) := by decide +kernel
theorem dX2_cutAtFirstGone_2 : decode cX2_cutAtFirstGone 2 = .ok (.iload_n 2, 1) := by decide +kernel
theorem dX2_cutAtFirstGone_3 : decode cX2_cutAtFirstGone 3 = .ok (.aload_n 0, 1) := by decide +kernel
theorem dX2_cutAtFirstGone_4 : decode cX2_cutAtFirstGone 4 = .ok (.getfield 19, 3) := by decide +kernel
theorem dX2_cutAtFirstGone_7 : decode cX2_cutAtFirstGone 7 = .ok (.if_icmp .ge 30, 3) := by decide +kernel
theorem dX2_cutAtFirstGone_10 : decode cX2_cutAtFirstGone 10 = .ok (.aload_n 1, 1) := by decide +kernel
theorem dX2_cutAtFirstGone_11 : decode cX2_cutAtFirstGone 11 = .ok (.aload_n 0, 1) := by decide +kernel
theorem dX2_cutAtFirstGone_12 : decode cX2_cutAtFirstGone 12 = .ok (.getfield 9, 3) := by decide +kernel
theorem dX2_cutAtFirstGone_15 : decode cX2_cutAtFirstGone 15 = .ok (.iload_n 2, 1) := by decide +kernel
theorem dX2_cutAtFirstGone_16 : decode cX2_cutAtFirstGone 16 = .ok (.iaload, 1) := by decide +kernel
theorem dX2_cutAtFirstGone_17 : decode cX2_cutAtFirstGone 17 = .ok (.invokevirtual 23, 3) := by decide +kernel
theorem dX2_cutAtFirstGone_20 : decode cX2_cutAtFirstGone 20 = .ok (.ifCond .ne 11, 3) := by decide +kernel
theorem dX2_cutAtFirstGone_23 : decode cX2_cutAtFirstGone 23 = .ok (.aload_n 0, 1) := by decide +kernel
theorem dX2_cutAtFirstGone_24 : decode cX2_cutAtFirstGone 24 = .ok (.iload_n 2, 1) := by decide +kernel
theorem dX2_cutAtFirstGone_25 : decode cX2_cutAtFirstGone 25 = .ok (.putfield 19, 3) := by decide +kernel
theorem dX2_cutAtFirstGone_28 : decode cX2_cutAtFirstGone 28 = .ok (.goto 9, 3) := by decide +kernel
theorem dX2_cutAtFirstGone_31 : decode cX2_cutAtFirstGone 31 = .ok (.iinc 2 1, 3) := by decide +kernel
theorem dX2_cutAtFirstGone_34 : decode cX2_cutAtFirstGone 34 = .ok (.goto (-32), 3) := by decide +kernel
theorem dX2_cutAtFirstGone_37 : decode cX2_cutAtFirstGone 37 = .ok (.return_, 1) := by decide +kernel
theorem dX3_init_0 : decode cX3_init 0 = .ok (.aload_n 0, 1) := by decide +kernel
theorem dX3_init_1 : decode cX3_init 1 = .ok (.invokespecial 3, 3) := by decide +kernel
theorem dX3_init_4 : decode cX3_init 4 = .ok (.aload_n 0, 1) := by decide +kernel
theorem dX3_init_5 : decode cX3_init 5 = .ok (.bipush 32, 2) := by decide +kernel
theorem dX3_init_7 : decode cX3_init 7 = .ok (.newarray .int, 2) := by decide +kernel
theorem dX3_init_9 : decode cX3_init 9 = .ok (.putfield 9, 3) := by decide +kernel
theorem dX3_init_12 : decode cX3_init 12 = .ok (.aload_n 0, 1) := by decide +kernel
theorem dX3_init_13 : decode cX3_init 13 = .ok (.sipush 1600, 3) := by decide +kernel
theorem dX3_init_16 : decode cX3_init 16 = .ok (.newarray .long, 2) := by decide +kernel
theorem dX3_init_18 : decode cX3_init 18 = .ok (.putfield 15, 3) := by decide +kernel
theorem dX3_init_21 : decode cX3_init 21 = .ok (.aload_n 0, 1) := by decide +kernel
theorem dX3_init_22 : decode cX3_init 22 = .ok (.bipush 60, 2) := by decide +kernel
theorem dX3_init_24 : decode cX3_init 24 = .ok (.newarray .int, 2) := by decide +kernel
theorem dX3_init_26 : decode cX3_init 26 = .ok (.putfield 19, 3) := by decide +kernel
theorem dX3_init_29 : decode cX3_init 29 = .ok (.return_, 1) := by decide +kernel
theorem dX3_endWays_0 : decode cX3_endWays 0 = .ok (.aload_n 0, 1) := by decide +kernel
theorem dX3_endWays_1 : decode cX3_endWays 1 = .ok (.iconst 0, 1) := by decide +kernel
theorem dX3_endWays_2 : decode cX3_endWays 2 = .ok (.putfield 22, 3) := by decide +kernel
theorem dX3_endWays_5 : decode cX3_endWays 5 = .ok (.aload_n 0, 1) := by decide +kernel
theorem dX3_endWays_6 : decode cX3_endWays 6 = .ok (.iconst 0, 1) := by decide +kernel
theorem dX3_endWays_7 : decode cX3_endWays 7 = .ok (.putfield 26, 3) := by decide +kernel
theorem dX3_endWays_10 : decode cX3_endWays 10 = .ok (.return_, 1) := by decide +kernel
theorem dX3_hasWay_0 : decode cX3_hasWay 0 = .ok (.iload_n 1, 1) := by decide +kernel
theorem dX3_hasWay_1 : decode cX3_hasWay 1 = .ok (.ifCond .lt 15, 3) := by decide +kernel
theorem dX3_hasWay_4 : decode cX3_hasWay 4 = .ok (.iload_n 1, 1) := by decide +kernel
theorem dX3_hasWay_5 : decode cX3_hasWay 5 = .ok (.aload_n 0, 1) := by decide +kernel
theorem dX3_hasWay_6 : decode cX3_hasWay 6 = .ok (.getfield 26, 3) := by decide +kernel
theorem dX3_hasWay_9 : decode cX3_hasWay 9 = .ok (.if_icmp .ge 7, 3) := by decide +kernel
theorem dX3_hasWay_12 : decode cX3_hasWay 12 = .ok (.iconst 1, 1) := by decide +kernel
theorem dX3_hasWay_13 : decode cX3_hasWay 13 = .ok (.goto 4, 3) := by decide +kernel
theorem dX3_hasWay_16 : decode cX3_hasWay 16 = .ok (.iconst 0, 1) := by decide +kernel
theorem dX3_hasWay_17 : decode cX3_hasWay 17 = .ok (.ireturn, 1) := by decide +kernel
theorem dX3_numberIn_0 : decode cX3_numberIn 0 = .ok (.aload_n 0, 1) := by decide +kernel
theorem dX3_numberIn_1 : decode cX3_numberIn 1 = .ok (.getfield 15, 3) := by decide +kernel
theorem dX3_numberIn_4 : decode cX3_numberIn 4 = .ok (.iload_n 1, 1) := by decide +kernel
theorem dX3_numberIn_5 : decode cX3_numberIn 5 = .ok (.bipush 8, 2) := by decide +kernel
theorem dX3_numberIn_7 : decode cX3_numberIn 7 = .ok (.imul, 1) := by decide +kernel
theorem dX3_numberIn_8 : decode cX3_numberIn 8 = .ok (.iload_n 2, 1) := by decide +kernel
theorem dX3_numberIn_9 : decode cX3_numberIn 9 = .ok (.iadd, 1) := by decide +kernel
theorem dX3_numberIn_10 : decode cX3_numberIn 10 = .ok (.laload, 1) := by decide +kernel
theorem dX3_numberIn_11 : decode cX3_numberIn 11 = .ok (.lreturn, 1) := by decide +kernel
theorem dX3_levelOf_0 : decode cX3_levelOf 0 = .ok (.iconst 0, 1) := by decide +kernel
theorem dX3_levelOf_1 : decode cX3_levelOf 1 = .ok (.istore_n 2, 1) := by decide +kernel
theorem dX3_levelOf_2 : decode cX3_levelOf 2 = .ok (.iload_n 2, 1) := by decide +kernel
theorem dX3_levelOf_3 : decode cX3_levelOf 3 = .ok (.aload_n 0, 1) := by decide +kernel
theorem dX3_levelOf_4 : decode cX3_levelOf 4 = .ok (.getfield 22, 3) := by decide +kernel
theorem dX3_levelOf_7 : decode cX3_levelOf 7 = .ok (.if_icmp .ge 21, 3) := by decide +kernel
theorem dX3_levelOf_10 : decode cX3_levelOf 10 = .ok (.aload_n 0, 1) := by decide +kernel
theorem dX3_levelOf_11 : decode cX3_levelOf 11 = .ok (.getfield 9, 3) := by decide +kernel
theorem dX3_levelOf_14 : decode cX3_levelOf 14 = .ok (.iload_n 2, 1) := by decide +kernel
theorem dX3_levelOf_15 : decode cX3_levelOf 15 = .ok (.iaload, 1) := by decide +kernel
theorem dX3_levelOf_16 : decode cX3_levelOf 16 = .ok (.iload_n 1, 1) := by decide +kernel
theorem dX3_levelOf_17 : decode cX3_levelOf 17 = .ok (.if_icmp .ne 5, 3) := by decide +kernel
theorem dX3_levelOf_20 : decode cX3_levelOf 20 = .ok (.iload_n 2, 1) := by decide +kernel
theorem dX3_levelOf_21 : decode cX3_levelOf 21 = .ok (.ireturn, 1) := by decide +kernel
theorem dX3_levelOf_22 : decode cX3_levelOf 22 = .ok (.iinc 2 1, 3) := by decide +kernel
theorem dX3_levelOf_25 : decode cX3_levelOf 25 = .ok (.goto (-23), 3) := by decide +kernel
theorem dX3_levelOf_28 : decode cX3_levelOf 28 = .ok (.iconst (-1), 1) := by decide +kernel
theorem dX3_levelOf_29 : decode cX3_levelOf 29 = .ok (.ireturn, 1) := by decide +kernel
set_option maxRecDepth 20000 in
theorem ggX3_isFreeName_X3_levelOf : GoodIn wsX3_isFreeName wsX3_levelOf := goodIn_r _ [5, 6, 7, 8, 9, 10, 11, 12, 13] (by decide +kernel) (by decide +kernel)
set_option maxRecDepth 20000 in
theorem gX3_isFreeName_X3_levelOf : GoodIn wsX3_isFreeName (wsV RX3 29 RX3 yX3_levelOf wsX3_levelOf) := goodIn_app (goodIn_of _ (by decide +kernel)) ggX3_isFreeName_X3_levelOf
theorem dX3_isFreeName_0 : decode cX3_isFreeName 0 = .ok (.aload_n 0, 1) := by decide +kernel
theorem dX3_isFreeName_1 : decode cX3_isFreeName 1 = .ok (.iload_n 1, 1) := by decide +kernel
theorem dX3_isFreeName_2 : decode cX3_isFreeName 2 = .ok (.invokevirtual 29, 3) := by decide +kernel
theorem dX3_isFreeName_5 : decode cX3_isFreeName 5 = .ok (.iconst (-1), 1) := by decide +kernel
theorem dX3_isFreeName_6 : decode cX3_isFreeName 6 = .ok (.if_icmp .eq 7, 3) := by decide +kernel
theorem dX3_isFreeName_9 : decode cX3_isFreeName 9 = .ok (.iconst 1, 1) := by decide +kernel
theorem dX3_isFreeName_10 : decode cX3_isFreeName 10 = .ok (.goto 4, 3) := by decide +kernel
theorem dX3_isFreeName_13 : decode cX3_isFreeName 13 = .ok (.iconst 0, 1) := by decide +kernel
theorem dX3_isFreeName_14 : decode cX3_isFreeName 14 = .ok (.ireturn, 1) := by decide +kernel
set_option maxRecDepth 20000 in
theorem ggX3_run_X3_endWays : GoodIn wsX3_run wsX3_endWays := goodIn_r _ [7, 8, 2, 137, 138, 139, 140, 141, 142] (by decide +kernel) (by decide +kernel)
set_option maxRecDepth 20000 in
theorem gX3_run_X3_endWays : GoodIn wsX3_run (wsV RX3 33 RX3 yX3_endWays wsX3_endWays) := goodIn_app (goodIn_of _ (by decide +kernel)) ggX3_run_X3_endWays
set_option maxRecDepth 20000 in
theorem ggX3_run_X3_gatherFree : GoodIn wsX3_run wsX3_gatherFree := goodIn_r _ [12, 13, 14, 8, 15, 16, 17, 18, 19, 20, 21, 22, 23, 24, 25, 26, 27, 28, 6, 29, 30, 31, 32, 33, 143, 144, 145, 137, 138, 139, 140, 141, 142, 146, 147, 148, 149, 150, 151, 152] (by decide +kernel) (by decide +kernel)
set_option maxRecDepth 20000 in
theorem gX3_run_X3_gatherFree : GoodIn wsX3_run (wsV RX3 39 RX3 yX3_gatherFree wsX3_gatherFree) := goodIn_app (goodIn_of _ (by decide +kernel)) ggX3_run_X3_gatherFree
set_option maxRecDepth 20000 in
theorem ggX3_run_X3_reasonNotToStart : GoodIn wsX3_run wsX3_reasonNotToStart := goodIn_r _ [37, 8, 14, 38, 39, 40, 18, 41, 42, 20, 137, 138, 139, 140, 141, 142, 146, 147, 148, 149, 150, 151, 152] (by decide +kernel) (by decide +kernel)
set_option maxRecDepth 20000 in
theorem gX3_run_X3_reasonNotToStart : GoodIn wsX3_run (wsV RX3 43 RX3 yX3_reasonNotToStart wsX3_reasonNotToStart) := goodIn_app (goodIn_of _ (by decide +kernel)) ggX3_run_X3_reasonNotToStart
set_option maxRecDepth 20000 in
theorem ggX3_run_X3_planLooks : GoodIn wsX3_run wsX3_planLooks := goodIn_r _ [46, 47, 48, 49, 50, 51, 52, 53, 54, 55, 56, 57, 58, 59, 60, 61, 62, 63, 64, 65, 66, 67, 68, 69, 70, 71, 72, 73, 74, 75, 76, 77, 78, 79, 80, 81, 82, 22, 23, 18, 24, 25, 20, 83, 16, 17, 19, 84, 31, 32, 6, 33, 8, 14, 137, 138, 139, 140, 141, 142, 153, 154, 155, 156, 157, 158, 159, 146, 147, 148, 149, 150, 151, 152] (by decide +kernel) (by decide +kernel)
set_option maxRecDepth 20000 in
theorem gX3_run_X3_planLooks : GoodIn wsX3_run (wsV RX3 47 RX3 yX3_planLooks wsX3_planLooks) := goodIn_app (goodIn_of _ (by decide +kernel)) ggX3_run_X3_planLooks
set_option maxRecDepth 20000 in
theorem ggX3_run_X3_tryLevel : GoodIn wsX3_run wsX3_tryLevel := goodIn_r _ [88, 8, 14, 1, 89, 90, 91, 6, 92, 2, 93, 94, 95, 96, 18, 97, 98, 20, 99, 100, 101, 102, 103, 104, 105, 106, 107, 108, 109, 110, 111, 112, 25, 113, 114, 115, 116, 47, 48, 49, 50, 51, 52, 53, 54, 55, 56, 57, 58, 59, 60, 61, 62, 63, 64, 65, 66, 67, 68, 69, 70, 71, 117, 118, 119, 75, 120, 121, 122, 123, 124, 125, 126, 77, 127, 128, 129, 130, 131, 132, 85, 86, 87, 133, 134, 135, 136, 137, 138, 139, 140, 141, 142, 146, 147, 148, 149, 150, 151, 152, 153, 154, 155, 156, 157, 158, 159] (by decide +kernel) (by decide +kernel)
set_option maxRecDepth 20000 in
theorem gX3_run_X3_tryLevel : GoodIn wsX3_run (wsV RX3 51 RX3 yX3_tryLevel wsX3_tryLevel) := goodIn_app (goodIn_of _ (by decide +kernel)) ggX3_run_X3_tryLevel
theorem dX3_run_0 : decode cX3_run 0 = .ok (.aload_n 0, 1) := by decide +kernel
theorem dX3_run_1 : decode cX3_run 1 = .ok (.invokevirtual 33, 3) := by decide +kernel
theorem dX3_run_4 : decode cX3_run 4 = .ok (.aload_n 0, 1) := by decide +kernel
theorem dX3_run_5 : decode cX3_run 5 = .ok (.iconst 0, 1) := by decide +kernel
theorem dX3_run_6 : decode cX3_run 6 = .ok (.putfield 36, 3) := by decide +kernel
theorem dX3_run_9 : decode cX3_run 9 = .ok (.aload_n 0, 1) := by decide +kernel
theorem dX3_run_10 : decode cX3_run 10 = .ok (.aload_n 1, 1) := by decide +kernel
theorem dX3_run_11 : decode cX3_run 11 = .ok (.aload_n 2, 1) := by decide +kernel
theorem dX3_run_12 : decode cX3_run 12 = .ok (.invokevirtual 39, 3) := by decide +kernel
theorem dX3_run_15 : decode cX3_run 15 = .ok (.aload_n 0, 1) := by decide +kernel
theorem dX3_run_16 : decode cX3_run 16 = .ok (.aload_n 2, 1) := by decide +kernel
theorem dX3_run_17 : decode cX3_run 17 = .ok (.invokevirtual 43, 3) := by decide +kernel
theorem dX3_run_20 : decode cX3_run 20 = .ok (.istore 4, 2) := by decide +kernel
theorem dX3_run_22 : decode cX3_run 22 = .ok (.iload 4, 2) := by decide +kernel
theorem dX3_run_24 : decode cX3_run 24 = .ok (.ifCond .ne 18, 3) := by decide +kernel
theorem dX3_run_27 : decode cX3_run 27 = .ok (.aload_n 0, 1) := by decide +kernel
theorem dX3_run_28 : decode cX3_run 28 = .ok (.aload_n 2, 1) := by decide +kernel
theorem dX3_run_29 : decode cX3_run 29 = .ok (.aload_n 3, 1) := by decide +kernel
theorem dX3_run_30 : decode cX3_run 30 = .ok (.invokevirtual 47, 3) := by decide +kernel
theorem dX3_run_33 : decode cX3_run 33 = .ok (.aload_n 0, 1) := by decide +kernel
theorem dX3_run_34 : decode cX3_run 34 = .ok (.iconst 0, 1) := by decide +kernel
theorem dX3_run_35 : decode cX3_run 35 = .ok (.aload_n 2, 1) := by decide +kernel
theorem dX3_run_36 : decode cX3_run 36 = .ok (.aload_n 3, 1) := by decide +kernel
theorem dX3_run_37 : decode cX3_run 37 = .ok (.invokevirtual 51, 3) := by decide +kernel
theorem dX3_run_40 : decode cX3_run 40 = .ok (.istore 4, 2) := by decide +kernel
theorem dX3_run_42 : decode cX3_run 42 = .ok (.iload 4, 2) := by decide +kernel
theorem dX3_run_44 : decode cX3_run 44 = .ok (.ifCond .eq 10, 3) := by decide +kernel
theorem dX3_run_47 : decode cX3_run 47 = .ok (.aload_n 0, 1) := by decide +kernel
theorem dX3_run_48 : decode cX3_run 48 = .ok (.invokevirtual 33, 3) := by decide +kernel
theorem dX3_run_51 : decode cX3_run 51 = .ok (.iload 4, 2) := by decide +kernel
theorem dX3_run_53 : decode cX3_run 53 = .ok (.ireturn, 1) := by decide +kernel
theorem dX3_run_54 : decode cX3_run 54 = .ok (.aload_n 0, 1) := by decide +kernel
theorem dX3_run_55 : decode cX3_run 55 = .ok (.getfield 26, 3) := by decide +kernel
theorem dX3_run_58 : decode cX3_run 58 = .ok (.ireturn, 1) := by decide +kernel
set_option maxRecDepth 20000 in
theorem ggX3_gatherFree_X1_leastOf : GoodIn wsX3_gatherFree wsX1_leastOf := goodIn_r _ [8, 9, 33, 34, 35, 36, 37, 38, 39] (by decide +kernel) (by decide +kernel)
set_option maxRecDepth 20000 in
theorem gX3_gatherFree_X1_leastOf : GoodIn wsX3_gatherFree (wsV RX3 63 RX1 yX1_leastOf wsX1_leastOf) := goodIn_app (goodIn_of _ (by decide +kernel)) ggX3_gatherFree_X1_leastOf
set_option maxRecDepth 20000 in
theorem ggX3_gatherFree_X1_isKnown : GoodIn wsX3_gatherFree wsX1_isKnown := goodIn_r _ [13, 14, 9, 33, 34, 35, 36, 37, 38, 39] (by decide +kernel) (by decide +kernel)
set_option maxRecDepth 20000 in
theorem gX3_gatherFree_X1_isKnown : GoodIn wsX3_gatherFree (wsV RX3 68 RX1 yX1_isKnown wsX1_isKnown) := goodIn_app (goodIn_of _ (by decide +kernel)) ggX3_gatherFree_X1_isKnown
set_option maxRecDepth 20000 in
theorem ggX3_gatherFree_X3_isFreeName : GoodIn wsX3_gatherFree wsX3_isFreeName := goodIn_r _ [19, 20, 21, 22, 18, 23, 3, 2, 27, 28, 29, 30, 31, 32] (by decide +kernel) (by decide +kernel)
set_option maxRecDepth 20000 in
theorem gX3_gatherFree_X3_isFreeName : GoodIn wsX3_gatherFree (wsV RX3 72 RX3 yX3_isFreeName wsX3_isFreeName) := goodIn_app (goodIn_of _ (by decide +kernel)) ggX3_gatherFree_X3_isFreeName
theorem dX3_gatherFree_0 : decode cX3_gatherFree 0 = .ok (.iconst 0, 1) := by decide +kernel
theorem dX3_gatherFree_1 : decode cX3_gatherFree 1 = .ok (.istore_n 3, 1) := by decide +kernel
theorem dX3_gatherFree_2 : decode cX3_gatherFree 2 = .ok (.iload_n 3, 1) := by decide +kernel
theorem dX3_gatherFree_3 : decode cX3_gatherFree 3 = .ok (.aload_n 1, 1) := by decide +kernel
theorem dX3_gatherFree_4 : decode cX3_gatherFree 4 = .ok (.getfield 55, 3) := by decide +kernel
theorem dX3_gatherFree_7 : decode cX3_gatherFree 7 = .ok (.if_icmp .ge 60, 3) := by decide +kernel
theorem dX3_gatherFree_10 : decode cX3_gatherFree 10 = .ok (.aload_n 2, 1) := by decide +kernel
theorem dX3_gatherFree_11 : decode cX3_gatherFree 11 = .ok (.aload_n 1, 1) := by decide +kernel
theorem dX3_gatherFree_12 : decode cX3_gatherFree 12 = .ok (.getfield 60, 3) := by decide +kernel
theorem dX3_gatherFree_15 : decode cX3_gatherFree 15 = .ok (.iload_n 3, 1) := by decide +kernel
theorem dX3_gatherFree_16 : decode cX3_gatherFree 16 = .ok (.iaload, 1) := by decide +kernel
theorem dX3_gatherFree_17 : decode cX3_gatherFree 17 = .ok (.invokevirtual 63, 3) := by decide +kernel
theorem dX3_gatherFree_20 : decode cX3_gatherFree 20 = .ok (.istore 4, 2) := by decide +kernel
theorem dX3_gatherFree_22 : decode cX3_gatherFree 22 = .ok (.aload_n 2, 1) := by decide +kernel
theorem dX3_gatherFree_23 : decode cX3_gatherFree 23 = .ok (.iload 4, 2) := by decide +kernel
theorem dX3_gatherFree_25 : decode cX3_gatherFree 25 = .ok (.invokevirtual 68, 3) := by decide +kernel
theorem dX3_gatherFree_28 : decode cX3_gatherFree 28 = .ok (.ifCond .ne 33, 3) := by decide +kernel
theorem dX3_gatherFree_31 : decode cX3_gatherFree 31 = .ok (.aload_n 0, 1) := by decide +kernel
theorem dX3_gatherFree_32 : decode cX3_gatherFree 32 = .ok (.iload 4, 2) := by decide +kernel
theorem dX3_gatherFree_34 : decode cX3_gatherFree 34 = .ok (.invokevirtual 72, 3) := by decide +kernel
theorem dX3_gatherFree_37 : decode cX3_gatherFree 37 = .ok (.ifCond .ne 24, 3) := by decide +kernel
theorem dX3_gatherFree_40 : decode cX3_gatherFree 40 = .ok (.aload_n 0, 1) := by decide +kernel
theorem dX3_gatherFree_41 : decode cX3_gatherFree 41 = .ok (.getfield 9, 3) := by decide +kernel
theorem dX3_gatherFree_44 : decode cX3_gatherFree 44 = .ok (.aload_n 0, 1) := by decide +kernel
theorem dX3_gatherFree_45 : decode cX3_gatherFree 45 = .ok (.getfield 22, 3) := by decide +kernel
theorem dX3_gatherFree_48 : decode cX3_gatherFree 48 = .ok (.iload 4, 2) := by decide +kernel
theorem dX3_gatherFree_50 : decode cX3_gatherFree 50 = .ok (.iastore, 1) := by decide +kernel
theorem dX3_gatherFree_51 : decode cX3_gatherFree 51 = .ok (.aload_n 0, 1) := by decide +kernel
theorem dX3_gatherFree_52 : decode cX3_gatherFree 52 = .ok (.dup, 1) := by decide +kernel
theorem dX3_gatherFree_53 : decode cX3_gatherFree 53 = .ok (.getfield 22, 3) := by decide +kernel
theorem dX3_gatherFree_56 : decode cX3_gatherFree 56 = .ok (.iconst 1, 1) := by decide +kernel
theorem dX3_gatherFree_57 : decode cX3_gatherFree 57 = .ok (.iadd, 1) := by decide +kernel
theorem dX3_gatherFree_58 : decode cX3_gatherFree 58 = .ok (.putfield 22, 3) := by decide +kernel
theorem dX3_gatherFree_61 : decode cX3_gatherFree 61 = .ok (.iinc 3 1, 3) := by decide +kernel
theorem dX3_gatherFree_64 : decode cX3_gatherFree 64 = .ok (.goto (-62), 3) := by decide +kernel
theorem dX3_gatherFree_67 : decode cX3_gatherFree 67 = .ok (.return_, 1) := by decide +kernel
set_option maxRecDepth 20000 in
theorem ggX3_reasonNotToStart_X1_hasSpan : GoodIn wsX3_reasonNotToStart wsX1_hasSpan := goodIn_r _ [7, 8, 9, 16, 17, 18, 19, 20, 21, 22] (by decide +kernel) (by decide +kernel)
set_option maxRecDepth 20000 in
theorem gX3_reasonNotToStart_X1_hasSpan : GoodIn wsX3_reasonNotToStart (wsV RX3 75 RX1 yX1_hasSpan wsX1_hasSpan) := goodIn_app (goodIn_of _ (by decide +kernel)) ggX3_reasonNotToStart_X1_hasSpan
theorem dX3_reasonNotToStart_0 : decode cX3_reasonNotToStart 0 = .ok (.iconst 0, 1) := by decide +kernel
theorem dX3_reasonNotToStart_1 : decode cX3_reasonNotToStart 1 = .ok (.istore_n 2, 1) := by decide +kernel
theorem dX3_reasonNotToStart_2 : decode cX3_reasonNotToStart 2 = .ok (.iload_n 2, 1) := by decide +kernel
theorem dX3_reasonNotToStart_3 : decode cX3_reasonNotToStart 3 = .ok (.aload_n 0, 1) := by decide +kernel
theorem dX3_reasonNotToStart_4 : decode cX3_reasonNotToStart 4 = .ok (.getfield 22, 3) := by decide +kernel
theorem dX3_reasonNotToStart_7 : decode cX3_reasonNotToStart 7 = .ok (.if_icmp .ge 24, 3) := by decide +kernel
theorem dX3_reasonNotToStart_10 : decode cX3_reasonNotToStart 10 = .ok (.aload_n 1, 1) := by decide +kernel
theorem dX3_reasonNotToStart_11 : decode cX3_reasonNotToStart 11 = .ok (.aload_n 0, 1) := by decide +kernel
theorem dX3_reasonNotToStart_12 : decode cX3_reasonNotToStart 12 = .ok (.getfield 9, 3) := by decide +kernel
theorem dX3_reasonNotToStart_15 : decode cX3_reasonNotToStart 15 = .ok (.iload_n 2, 1) := by decide +kernel
theorem dX3_reasonNotToStart_16 : decode cX3_reasonNotToStart 16 = .ok (.iaload, 1) := by decide +kernel
theorem dX3_reasonNotToStart_17 : decode cX3_reasonNotToStart 17 = .ok (.invokevirtual 75, 3) := by decide +kernel
theorem dX3_reasonNotToStart_20 : decode cX3_reasonNotToStart 20 = .ok (.ifCond .ne 5, 3) := by decide +kernel
theorem dX3_reasonNotToStart_23 : decode cX3_reasonNotToStart 23 = .ok (.iconst (-1), 1) := by decide +kernel
theorem dX3_reasonNotToStart_24 : decode cX3_reasonNotToStart 24 = .ok (.ireturn, 1) := by decide +kernel
theorem dX3_reasonNotToStart_25 : decode cX3_reasonNotToStart 25 = .ok (.iinc 2 1, 3) := by decide +kernel
theorem dX3_reasonNotToStart_28 : decode cX3_reasonNotToStart 28 = .ok (.goto (-26), 3) := by decide +kernel
theorem dX3_reasonNotToStart_31 : decode cX3_reasonNotToStart 31 = .ok (.aload_n 0, 1) := by decide +kernel
theorem dX3_reasonNotToStart_32 : decode cX3_reasonNotToStart 32 = .ok (.getfield 22, 3) := by decide +kernel
theorem dX3_reasonNotToStart_35 : decode cX3_reasonNotToStart 35 = .ok (.bipush 8, 2) := by decide +kernel
theorem dX3_reasonNotToStart_37 : decode cX3_reasonNotToStart 37 = .ok (.if_icmp .le 8, 3) := by decide +kernel
theorem dX3_reasonNotToStart_40 : decode cX3_reasonNotToStart 40 = .ok (.bipush (-2), 2) := by decide +kernel
theorem dX3_reasonNotToStart_42 : decode cX3_reasonNotToStart 42 = .ok (.goto 4, 3) := by decide +kernel
theorem dX3_reasonNotToStart_45 : decode cX3_reasonNotToStart 45 = .ok (.iconst 0, 1) := by decide +kernel
theorem dX3_reasonNotToStart_46 : decode cX3_reasonNotToStart 46 = .ok (.ireturn, 1) := by decide +kernel
set_option maxRecDepth 20000 in
theorem ggX3_planLooks_Jx4a65c_size_8abf5 : GoodIn wsX3_planLooks wsJx4a65c_size_8abf5 := goodIn_r _ [7, 8, 60, 61, 62] (by decide +kernel) (by decide +kernel)
set_option maxRecDepth 20000 in
theorem gX3_planLooks_Jx4a65c_size_8abf5 : GoodIn wsX3_planLooks (wsV RX3 78 RJx4a65c yJx4a65c_size_8abf5 wsJx4a65c_size_8abf5) := goodIn_app (goodIn_of _ (by decide +kernel)) ggX3_planLooks_Jx4a65c_size_8abf5
set_option maxRecDepth 20000 in
theorem ggX3_planLooks_Jx4a65c_get_915e3 : GoodIn wsX3_planLooks wsJx4a65c_get_915e3 := goodIn_r _ [12, 8, 13, 14, 15, 16, 17, 18, 19, 20, 21, 22, 23, 6, 24, 25, 60, 61, 62] (by decide +kernel) (by decide +kernel)
set_option maxRecDepth 20000 in
theorem gX3_planLooks_Jx4a65c_get_915e3 : GoodIn wsX3_planLooks (wsV RX3 84 RJx4a65c yJx4a65c_get_915e3 wsJx4a65c_get_915e3) := goodIn_app (goodIn_of _ (by decide +kernel)) ggX3_planLooks_Jx4a65c_get_915e3
set_option maxRecDepth 20000 in
theorem ggX3_planLooks_X0_levelOfLast : GoodIn wsX3_planLooks wsX0_levelOfLast := goodIn_r _ [30, 31, 32, 33, 34, 35, 36, 37, 38, 39, 40, 41, 42, 43, 44, 45, 46, 47, 48, 49, 50, 51, 52, 53, 63, 64, 65, 66, 67, 68, 69, 70, 71, 72, 73, 54, 55, 56, 57, 58, 59] (by decide +kernel) (by decide +kernel)
set_option maxRecDepth 20000 in
theorem gX3_planLooks_X0_levelOfLast : GoodIn wsX3_planLooks (wsV RX3 90 RX0 yX0_levelOfLast wsX0_levelOfLast) := goodIn_app (goodIn_of _ (by decide +kernel)) ggX3_planLooks_X0_levelOfLast
theorem dX3_planLooks_0 : decode cX3_planLooks 0 = .ok (.iconst 0, 1) := by decide +kernel
theorem dX3_planLooks_1 : decode cX3_planLooks 1 = .ok (.istore_n 3, 1) := by decide +kernel
theorem dX3_planLooks_2 : decode cX3_planLooks 2 = .ok (.iload_n 3, 1) := by decide +kernel
theorem dX3_planLooks_3 : decode cX3_planLooks 3 = .ok (.aload_n 2, 1) := by decide +kernel
theorem dX3_planLooks_4 : decode cX3_planLooks 4 = .ok (.invokevirtual 78, 3) := by decide +kernel
theorem dX3_planLooks_7 : decode cX3_planLooks 7 = .ok (.if_icmp .ge 34, 3) := by decide +kernel
theorem dX3_planLooks_10 : decode cX3_planLooks 10 = .ok (.iload_n 3, 1) := by decide +kernel
theorem dX3_planLooks_11 : decode cX3_planLooks 11 = .ok (.bipush 60, 2) := by decide +kernel
theorem dX3_planLooks_13 : decode cX3_planLooks 13 = .ok (.if_icmp .ge 28, 3) := by decide +kernel
theorem dX3_planLooks_16 : decode cX3_planLooks 16 = .ok (.aload_n 0, 1) := by decide +kernel
theorem dX3_planLooks_17 : decode cX3_planLooks 17 = .ok (.getfield 19, 3) := by decide +kernel
theorem dX3_planLooks_20 : decode cX3_planLooks 20 = .ok (.iload_n 3, 1) := by decide +kernel
theorem dX3_planLooks_21 : decode cX3_planLooks 21 = .ok (.aload_n 2, 1) := by decide +kernel
theorem dX3_planLooks_22 : decode cX3_planLooks 22 = .ok (.iload_n 3, 1) := by decide +kernel
theorem dX3_planLooks_23 : decode cX3_planLooks 23 = .ok (.invokevirtual 84, 3) := by decide +kernel
theorem dX3_planLooks_26 : decode cX3_planLooks 26 = .ok (.checkcast 88, 3) := by decide +kernel
theorem dX3_planLooks_29 : decode cX3_planLooks 29 = .ok (.aload_n 1, 1) := by decide +kernel
theorem dX3_planLooks_30 : decode cX3_planLooks 30 = .ok (.aload_n 0, 1) := by decide +kernel
theorem dX3_planLooks_31 : decode cX3_planLooks 31 = .ok (.invokevirtual 90, 3) := by decide +kernel
theorem dX3_planLooks_34 : decode cX3_planLooks 34 = .ok (.iastore, 1) := by decide +kernel
theorem dX3_planLooks_35 : decode cX3_planLooks 35 = .ok (.iinc 3 1, 3) := by decide +kernel
theorem dX3_planLooks_38 : decode cX3_planLooks 38 = .ok (.goto (-36), 3) := by decide +kernel
theorem dX3_planLooks_41 : decode cX3_planLooks 41 = .ok (.return_, 1) := by decide +kernel
set_option maxRecDepth 20000 in
theorem ggX3_tryLevel_X3_addWay : GoodIn wsX3_tryLevel wsX3_addWay := goodIn_r _ [8, 9, 1, 10, 2, 11, 12, 13, 14, 15, 16, 17, 87, 88, 89, 90, 91, 92, 93, 94, 95, 96, 97, 98, 99] (by decide +kernel) (by decide +kernel)
set_option maxRecDepth 20000 in
theorem gX3_tryLevel_X3_addWay : GoodIn wsX3_tryLevel (wsV RX3 94 RX3 yX3_addWay wsX3_addWay) := goodIn_app (goodIn_of _ (by decide +kernel)) ggX3_tryLevel_X3_addWay
set_option maxRecDepth 20000 in
theorem ggX3_tryLevel_X1_lowOf : GoodIn wsX3_tryLevel wsX1_lowOf := goodIn_r _ [21, 22, 17, 93, 94, 95, 96, 97, 98, 99] (by decide +kernel) (by decide +kernel)
set_option maxRecDepth 20000 in
theorem gX3_tryLevel_X1_lowOf : GoodIn wsX3_tryLevel (wsV RX3 97 RX1 yX1_lowOf wsX1_lowOf) := goodIn_app (goodIn_of _ (by decide +kernel)) ggX3_tryLevel_X1_lowOf
set_option maxRecDepth 20000 in
theorem ggX3_tryLevel_X1_highOf : GoodIn wsX3_tryLevel wsX1_highOf := goodIn_r _ [26, 27, 17, 93, 94, 95, 96, 97, 98, 99] (by decide +kernel) (by decide +kernel)
set_option maxRecDepth 20000 in
theorem gX3_tryLevel_X1_highOf : GoodIn wsX3_tryLevel (wsV RX3 101 RX1 yX1_highOf wsX1_highOf) := goodIn_app (goodIn_of _ (by decide +kernel)) ggX3_tryLevel_X1_highOf
set_option maxRecDepth 20000 in
theorem ggX3_tryLevel_X1_setNumber : GoodIn wsX3_tryLevel wsX1_setNumber := goodIn_r _ [31, 32, 17, 16, 93, 94, 95, 96, 97, 98, 99] (by decide +kernel) (by decide +kernel)
set_option maxRecDepth 20000 in
theorem gX3_tryLevel_X1_setNumber : GoodIn wsX3_tryLevel (wsV RX3 104 RX1 yX1_setNumber wsX1_setNumber) := goodIn_app (goodIn_of _ (by decide +kernel)) ggX3_tryLevel_X1_setNumber
set_option maxRecDepth 20000 in
theorem ggX3_tryLevel_X3_isGood : GoodIn wsX3_tryLevel wsX3_isGood := goodIn_r _ [36, 37, 38, 39, 40, 41, 42, 43, 44, 45, 46, 47, 48, 49, 50, 51, 52, 53, 54, 55, 56, 57, 58, 59, 60, 61, 62, 63, 64, 65, 66, 67, 68, 69, 70, 71, 72, 73, 74, 75, 12, 13, 14, 15, 16, 17, 76, 77, 78, 79, 87, 88, 89, 90, 91, 92, 100, 101, 102, 103, 104, 105, 106, 93, 94, 95, 96, 97, 98, 99] (by decide +kernel) (by decide +kernel)
set_option maxRecDepth 20000 in
theorem gX3_tryLevel_X3_isGood : GoodIn wsX3_tryLevel (wsV RX3 108 RX3 yX3_isGood wsX3_isGood) := goodIn_app (goodIn_of _ (by decide +kernel)) ggX3_tryLevel_X3_isGood
set_option maxRecDepth 20000 in
theorem ggX3_tryLevel_X3_tryLevel : GoodIn wsX3_tryLevel wsX3_tryLevel := goodIn_r _ [0, 1, 2, 3, 4, 5, 6, 7, 8, 9, 10, 11, 12, 13, 14, 15, 16, 17, 18, 19, 20, 21, 22, 23, 24, 25, 26, 27, 28, 29, 30, 31, 32, 33, 34, 35, 36, 37, 38, 39, 40, 41, 42, 43, 44, 45, 46, 47, 48, 49, 50, 51, 52, 53, 54, 55, 56, 57, 58, 59, 60, 61, 62, 63, 64, 65, 66, 67, 68, 69, 70, 71, 72, 73, 74, 75, 76, 77, 78, 79, 80, 81, 82, 83, 84, 85, 86, 87, 88, 89, 90, 91, 92, 93, 94, 95, 96, 97, 98, 99, 100, 101, 102, 103, 104, 105, 106] (by decide +kernel) (by decide +kernel)
set_option maxRecDepth 20000 in
theorem gX3_tryLevel_X3_tryLevel : GoodIn wsX3_tryLevel (wsV RX3 51 RX3 yX3_tryLevel wsX3_tryLevel) := goodIn_app (goodIn_of _ (by decide +kernel)) ggX3_tryLevel_X3_tryLevel
set_option maxRecDepth 20000 in
theorem ggX3_tryLevel_X1_unsetNumber : GoodIn wsX3_tryLevel wsX1_unsetNumber := goodIn_r _ [86, 32, 17, 93, 94, 95, 96, 97, 98, 99] (by decide +kernel) (by decide +kernel)
set_option maxRecDepth 20000 in
theorem gX3_tryLevel_X1_unsetNumber : GoodIn wsX3_tryLevel (wsV RX3 112 RX1 yX1_unsetNumber wsX1_unsetNumber) := goodIn_app (goodIn_of _ (by decide +kernel)) ggX3_tryLevel_X1_unsetNumber
theorem dX3_tryLevel_0 : decode cX3_tryLevel 0 = .ok (.iload_n 1, 1) := by decide +kernel
theorem dX3_tryLevel_1 : decode cX3_tryLevel 1 = .ok (.aload_n 0, 1) := by decide +kernel
theorem dX3_tryLevel_2 : decode cX3_tryLevel 2 = .ok (.getfield 22, 3) := by decide +kernel
theorem dX3_tryLevel_5 : decode cX3_tryLevel 5 = .ok (.if_icmp .ge 9, 3) := by decide +kernel
theorem dX3_tryLevel_8 : decode cX3_tryLevel 8 = .ok (.iload_n 1, 1) := by decide +kernel
theorem dX3_tryLevel_9 : decode cX3_tryLevel 9 = .ok (.bipush 8, 2) := by decide +kernel
theorem dX3_tryLevel_11 : decode cX3_tryLevel 11 = .ok (.if_icmp .lt 9, 3) := by decide +kernel
theorem dX3_tryLevel_14 : decode cX3_tryLevel 14 = .ok (.aload_n 0, 1) := by decide +kernel
theorem dX3_tryLevel_15 : decode cX3_tryLevel 15 = .ok (.aload_n 2, 1) := by decide +kernel
theorem dX3_tryLevel_16 : decode cX3_tryLevel 16 = .ok (.invokevirtual 94, 3) := by decide +kernel
theorem dX3_tryLevel_19 : decode cX3_tryLevel 19 = .ok (.ireturn, 1) := by decide +kernel
theorem dX3_tryLevel_20 : decode cX3_tryLevel 20 = .ok (.aload_n 0, 1) := by decide +kernel
theorem dX3_tryLevel_21 : decode cX3_tryLevel 21 = .ok (.getfield 9, 3) := by decide +kernel
theorem dX3_tryLevel_24 : decode cX3_tryLevel 24 = .ok (.iload_n 1, 1) := by decide +kernel
theorem dX3_tryLevel_25 : decode cX3_tryLevel 25 = .ok (.iaload, 1) := by decide +kernel
theorem dX3_tryLevel_26 : decode cX3_tryLevel 26 = .ok (.istore 4, 2) := by decide +kernel
theorem dX3_tryLevel_28 : decode cX3_tryLevel 28 = .ok (.aload_n 2, 1) := by decide +kernel
theorem dX3_tryLevel_29 : decode cX3_tryLevel 29 = .ok (.iload 4, 2) := by decide +kernel
theorem dX3_tryLevel_31 : decode cX3_tryLevel 31 = .ok (.invokevirtual 97, 3) := by decide +kernel
theorem dX3_tryLevel_34 : decode cX3_tryLevel 34 = .ok (.lstore 5, 2) := by decide +kernel
theorem dX3_tryLevel_36 : decode cX3_tryLevel 36 = .ok (.aload_n 2, 1) := by decide +kernel
theorem dX3_tryLevel_37 : decode cX3_tryLevel 37 = .ok (.iload 4, 2) := by decide +kernel
theorem dX3_tryLevel_39 : decode cX3_tryLevel 39 = .ok (.invokevirtual 101, 3) := by decide +kernel
theorem dX3_tryLevel_42 : decode cX3_tryLevel 42 = .ok (.lstore 7, 2) := by decide +kernel
theorem dX3_tryLevel_44 : decode cX3_tryLevel 44 = .ok (.iconst 0, 1) := by decide +kernel
theorem dX3_tryLevel_45 : decode cX3_tryLevel 45 = .ok (.istore 9, 2) := by decide +kernel
theorem dX3_tryLevel_47 : decode cX3_tryLevel 47 = .ok (.iconst 0, 1) := by decide +kernel
theorem dX3_tryLevel_48 : decode cX3_tryLevel 48 = .ok (.istore 10, 2) := by decide +kernel
theorem dX3_tryLevel_50 : decode cX3_tryLevel 50 = .ok (.iload 10, 2) := by decide +kernel
theorem dX3_tryLevel_52 : decode cX3_tryLevel 52 = .ok (.sipush 5000, 3) := by decide +kernel
theorem dX3_tryLevel_55 : decode cX3_tryLevel 55 = .ok (.if_icmp .gt 87, 3) := by decide +kernel
theorem dX3_tryLevel_58 : decode cX3_tryLevel 58 = .ok (.iload 9, 2) := by decide +kernel
theorem dX3_tryLevel_60 : decode cX3_tryLevel 60 = .ok (.ifCond .ne 82, 3) := by decide +kernel
theorem dX3_tryLevel_63 : decode cX3_tryLevel 63 = .ok (.aload_n 0, 1) := by decide +kernel
theorem dX3_tryLevel_64 : decode cX3_tryLevel 64 = .ok (.getfield 36, 3) := by decide +kernel
theorem dX3_tryLevel_67 : decode cX3_tryLevel 67 = .ok (.sipush 5000, 3) := by decide +kernel
theorem dX3_tryLevel_70 : decode cX3_tryLevel 70 = .ok (.if_icmp .lt 10, 3) := by decide +kernel
theorem dX3_tryLevel_73 : decode cX3_tryLevel 73 = .ok (.bipush (-3), 2) := by decide +kernel
theorem dX3_tryLevel_75 : decode cX3_tryLevel 75 = .ok (.istore 9, 2) := by decide +kernel
theorem dX3_tryLevel_77 : decode cX3_tryLevel 77 = .ok (.goto 65, 3) := by decide +kernel
theorem dX3_tryLevel_80 : decode cX3_tryLevel 80 = .ok (.aload_n 0, 1) := by decide +kernel
theorem dX3_tryLevel_81 : decode cX3_tryLevel 81 = .ok (.dup, 1) := by decide +kernel
theorem dX3_tryLevel_82 : decode cX3_tryLevel 82 = .ok (.getfield 36, 3) := by decide +kernel
theorem dX3_tryLevel_85 : decode cX3_tryLevel 85 = .ok (.iconst 1, 1) := by decide +kernel
theorem dX3_tryLevel_86 : decode cX3_tryLevel 86 = .ok (.iadd, 1) := by decide +kernel
theorem dX3_tryLevel_87 : decode cX3_tryLevel 87 = .ok (.putfield 36, 3) := by decide +kernel
theorem dX3_tryLevel_90 : decode cX3_tryLevel 90 = .ok (.aload_n 2, 1) := by decide +kernel
theorem dX3_tryLevel_91 : decode cX3_tryLevel 91 = .ok (.iload 4, 2) := by decide +kernel
theorem dX3_tryLevel_93 : decode cX3_tryLevel 93 = .ok (.lload 5, 2) := by decide +kernel
theorem dX3_tryLevel_95 : decode cX3_tryLevel 95 = .ok (.invokevirtual 104, 3) := by decide +kernel
theorem dX3_tryLevel_98 : decode cX3_tryLevel 98 = .ok (.aload_n 0, 1) := by decide +kernel
theorem dX3_tryLevel_99 : decode cX3_tryLevel 99 = .ok (.iload_n 1, 1) := by decide +kernel
theorem dX3_tryLevel_100 : decode cX3_tryLevel 100 = .ok (.aload_n 2, 1) := by decide +kernel
theorem dX3_tryLevel_101 : decode cX3_tryLevel 101 = .ok (.aload_n 3, 1) := by decide +kernel
theorem dX3_tryLevel_102 : decode cX3_tryLevel 102 = .ok (.invokevirtual 108, 3) := by decide +kernel
theorem dX3_tryLevel_105 : decode cX3_tryLevel 105 = .ok (.ifCond .eq 14, 3) := by decide +kernel
theorem dX3_tryLevel_108 : decode cX3_tryLevel 108 = .ok (.aload_n 0, 1) := by decide +kernel
theorem dX3_tryLevel_109 : decode cX3_tryLevel 109 = .ok (.iload_n 1, 1) := by decide +kernel
theorem dX3_tryLevel_110 : decode cX3_tryLevel 110 = .ok (.iconst 1, 1) := by decide +kernel
theorem dX3_tryLevel_111 : decode cX3_tryLevel 111 = .ok (.iadd, 1) := by decide +kernel
theorem dX3_tryLevel_112 : decode cX3_tryLevel 112 = .ok (.aload_n 2, 1) := by decide +kernel
theorem dX3_tryLevel_113 : decode cX3_tryLevel 113 = .ok (.aload_n 3, 1) := by decide +kernel
theorem dX3_tryLevel_114 : decode cX3_tryLevel 114 = .ok (.invokevirtual 51, 3) := by decide +kernel
theorem dX3_tryLevel_117 : decode cX3_tryLevel 117 = .ok (.istore 9, 2) := by decide +kernel
theorem dX3_tryLevel_119 : decode cX3_tryLevel 119 = .ok (.lload 5, 2) := by decide +kernel
theorem dX3_tryLevel_121 : decode cX3_tryLevel 121 = .ok (.lload 7, 2) := by decide +kernel
theorem dX3_tryLevel_123 : decode cX3_tryLevel 123 = .ok (.lcmp, 1) := by decide +kernel
theorem dX3_tryLevel_124 : decode cX3_tryLevel 124 = .ok (.ifCond .ne 6, 3) := by decide +kernel
theorem dX3_tryLevel_127 : decode cX3_tryLevel 127 = .ok (.goto 15, 3) := by decide +kernel
theorem dX3_tryLevel_130 : decode cX3_tryLevel 130 = .ok (.lload 5, 2) := by decide +kernel
theorem dX3_tryLevel_132 : decode cX3_tryLevel 132 = .ok (.lconst 1, 1) := by decide +kernel
theorem dX3_tryLevel_133 : decode cX3_tryLevel 133 = .ok (.ladd, 1) := by decide +kernel
theorem dX3_tryLevel_134 : decode cX3_tryLevel 134 = .ok (.lstore 5, 2) := by decide +kernel
theorem dX3_tryLevel_136 : decode cX3_tryLevel 136 = .ok (.iinc 10 1, 3) := by decide +kernel
theorem dX3_tryLevel_139 : decode cX3_tryLevel 139 = .ok (.goto (-89), 3) := by decide +kernel
theorem dX3_tryLevel_142 : decode cX3_tryLevel 142 = .ok (.aload_n 2, 1) := by decide +kernel
theorem dX3_tryLevel_143 : decode cX3_tryLevel 143 = .ok (.iload 4, 2) := by decide +kernel
theorem dX3_tryLevel_145 : decode cX3_tryLevel 145 = .ok (.invokevirtual 112, 3) := by decide +kernel
theorem dX3_tryLevel_148 : decode cX3_tryLevel 148 = .ok (.iload 9, 2) := by decide +kernel
theorem dX3_tryLevel_150 : decode cX3_tryLevel 150 = .ok (.ireturn, 1) := by decide +kernel
set_option maxRecDepth 20000 in
theorem ggX3_isGood_Jx4a65c_size_8abf5 : GoodIn wsX3_isGood wsJx4a65c_size_8abf5 := goodIn_r _ [7, 8, 56, 57, 58] (by decide +kernel) (by decide +kernel)
set_option maxRecDepth 20000 in
theorem gX3_isGood_Jx4a65c_size_8abf5 : GoodIn wsX3_isGood (wsV RX3 78 RJx4a65c yJx4a65c_size_8abf5 wsJx4a65c_size_8abf5) := goodIn_app (goodIn_of _ (by decide +kernel)) ggX3_isGood_Jx4a65c_size_8abf5
set_option maxRecDepth 20000 in
theorem ggX3_isGood_Jx4a65c_get_915e3 : GoodIn wsX3_isGood wsJx4a65c_get_915e3 := goodIn_r _ [12, 8, 13, 14, 15, 16, 17, 18, 19, 20, 21, 22, 23, 6, 24, 25, 56, 57, 58] (by decide +kernel) (by decide +kernel)
set_option maxRecDepth 20000 in
theorem gX3_isGood_Jx4a65c_get_915e3 : GoodIn wsX3_isGood (wsV RX3 84 RJx4a65c yJx4a65c_get_915e3 wsJx4a65c_get_915e3) := goodIn_app (goodIn_of _ (by decide +kernel)) ggX3_isGood_Jx4a65c_get_915e3
set_option maxRecDepth 20000 in
theorem ggX3_isGood_X0_isSo : GoodIn wsX3_isGood wsX0_isSo := goodIn_r _ [30, 31, 32, 33, 34, 35, 29, 36, 37, 38, 39, 40, 41, 42, 43, 44, 45, 46, 47, 48, 49, 59, 60, 61, 62, 63, 64, 65, 66, 67, 68, 69] (by decide +kernel) (by decide +kernel)
set_option maxRecDepth 20000 in
theorem gX3_isGood_X0_isSo : GoodIn wsX3_isGood (wsV RX3 116 RX0 yX0_isSo wsX0_isSo) := goodIn_app (goodIn_of _ (by decide +kernel)) ggX3_isGood_X0_isSo
theorem dX3_isGood_0 : decode cX3_isGood 0 = .ok (.iconst 0, 1) := by decide +kernel
theorem dX3_isGood_1 : decode cX3_isGood 1 = .ok (.istore 4, 2) := by decide +kernel
theorem dX3_isGood_3 : decode cX3_isGood 3 = .ok (.iload 4, 2) := by decide +kernel
theorem dX3_isGood_5 : decode cX3_isGood 5 = .ok (.aload_n 3, 1) := by decide +kernel
theorem dX3_isGood_6 : decode cX3_isGood 6 = .ok (.invokevirtual 78, 3) := by decide +kernel
theorem dX3_isGood_9 : decode cX3_isGood 9 = .ok (.if_icmp .ge 45, 3) := by decide +kernel
theorem dX3_isGood_12 : decode cX3_isGood 12 = .ok (.iload 4, 2) := by decide +kernel
theorem dX3_isGood_14 : decode cX3_isGood 14 = .ok (.bipush 60, 2) := by decide +kernel
theorem dX3_isGood_16 : decode cX3_isGood 16 = .ok (.if_icmp .ge 38, 3) := by decide +kernel
theorem dX3_isGood_19 : decode cX3_isGood 19 = .ok (.aload_n 0, 1) := by decide +kernel
theorem dX3_isGood_20 : decode cX3_isGood 20 = .ok (.getfield 19, 3) := by decide +kernel
theorem dX3_isGood_23 : decode cX3_isGood 23 = .ok (.iload 4, 2) := by decide +kernel
theorem dX3_isGood_25 : decode cX3_isGood 25 = .ok (.iaload, 1) := by decide +kernel
theorem dX3_isGood_26 : decode cX3_isGood 26 = .ok (.iload_n 1, 1) := by decide +kernel
theorem dX3_isGood_27 : decode cX3_isGood 27 = .ok (.if_icmp .ne 21, 3) := by decide +kernel
theorem dX3_isGood_30 : decode cX3_isGood 30 = .ok (.aload_n 3, 1) := by decide +kernel
theorem dX3_isGood_31 : decode cX3_isGood 31 = .ok (.iload 4, 2) := by decide +kernel
theorem dX3_isGood_33 : decode cX3_isGood 33 = .ok (.invokevirtual 84, 3) := by decide +kernel
theorem dX3_isGood_36 : decode cX3_isGood 36 = .ok (.checkcast 88, 3) := by decide +kernel
theorem dX3_isGood_39 : decode cX3_isGood 39 = .ok (.aload_n 2, 1) := by decide +kernel
theorem dX3_isGood_40 : decode cX3_isGood 40 = .ok (.invokevirtual 116, 3) := by decide +kernel
theorem dX3_isGood_43 : decode cX3_isGood 43 = .ok (.ifCond .ne 5, 3) := by decide +kernel
theorem dX3_isGood_46 : decode cX3_isGood 46 = .ok (.iconst 0, 1) := by decide +kernel
theorem dX3_isGood_47 : decode cX3_isGood 47 = .ok (.ireturn, 1) := by decide +kernel
theorem dX3_isGood_48 : decode cX3_isGood 48 = .ok (.iinc 4 1, 3) := by decide +kernel
theorem dX3_isGood_51 : decode cX3_isGood 51 = .ok (.goto (-48), 3) := by decide +kernel
theorem dX3_isGood_54 : decode cX3_isGood 54 = .ok (.iconst 1, 1) := by decide +kernel
theorem dX3_isGood_55 : decode cX3_isGood 55 = .ok (.ireturn, 1) := by decide +kernel
set_option maxRecDepth 20000 in
theorem ggX3_addWay_X1_numberOf : GoodIn wsX3_addWay wsX1_numberOf := goodIn_r _ [9, 10, 11, 18, 19, 20, 21, 22, 23, 24] (by decide +kernel) (by decide +kernel)
set_option maxRecDepth 20000 in
theorem gX3_addWay_X1_numberOf : GoodIn wsX3_addWay (wsV RX3 120 RX1 yX1_numberOf wsX1_numberOf) := goodIn_app (goodIn_of _ (by decide +kernel)) ggX3_addWay_X1_numberOf
theorem dX3_addWay_0 : decode cX3_addWay 0 = .ok (.aload_n 0, 1) := by decide +kernel
theorem dX3_addWay_1 : decode cX3_addWay 1 = .ok (.getfield 26, 3) := by decide +kernel
theorem dX3_addWay_4 : decode cX3_addWay 4 = .ok (.sipush 200, 3) := by decide +kernel
theorem dX3_addWay_7 : decode cX3_addWay 7 = .ok (.if_icmp .lt 6, 3) := by decide +kernel
theorem dX3_addWay_10 : decode cX3_addWay 10 = .ok (.bipush (-4), 2) := by decide +kernel
theorem dX3_addWay_12 : decode cX3_addWay 12 = .ok (.ireturn, 1) := by decide +kernel
theorem dX3_addWay_13 : decode cX3_addWay 13 = .ok (.iconst 0, 1) := by decide +kernel
theorem dX3_addWay_14 : decode cX3_addWay 14 = .ok (.istore_n 2, 1) := by decide +kernel
theorem dX3_addWay_15 : decode cX3_addWay 15 = .ok (.iload_n 2, 1) := by decide +kernel
theorem dX3_addWay_16 : decode cX3_addWay 16 = .ok (.aload_n 0, 1) := by decide +kernel
theorem dX3_addWay_17 : decode cX3_addWay 17 = .ok (.getfield 22, 3) := by decide +kernel
theorem dX3_addWay_20 : decode cX3_addWay 20 = .ok (.if_icmp .ge 39, 3) := by decide +kernel
theorem dX3_addWay_23 : decode cX3_addWay 23 = .ok (.iload_n 2, 1) := by decide +kernel
theorem dX3_addWay_24 : decode cX3_addWay 24 = .ok (.bipush 8, 2) := by decide +kernel
theorem dX3_addWay_26 : decode cX3_addWay 26 = .ok (.if_icmp .ge 33, 3) := by decide +kernel
theorem dX3_addWay_29 : decode cX3_addWay 29 = .ok (.aload_n 0, 1) := by decide +kernel
theorem dX3_addWay_30 : decode cX3_addWay 30 = .ok (.getfield 15, 3) := by decide +kernel
theorem dX3_addWay_33 : decode cX3_addWay 33 = .ok (.aload_n 0, 1) := by decide +kernel
theorem dX3_addWay_34 : decode cX3_addWay 34 = .ok (.getfield 26, 3) := by decide +kernel
theorem dX3_addWay_37 : decode cX3_addWay 37 = .ok (.bipush 8, 2) := by decide +kernel
theorem dX3_addWay_39 : decode cX3_addWay 39 = .ok (.imul, 1) := by decide +kernel
theorem dX3_addWay_40 : decode cX3_addWay 40 = .ok (.iload_n 2, 1) := by decide +kernel
theorem dX3_addWay_41 : decode cX3_addWay 41 = .ok (.iadd, 1) := by decide +kernel
theorem dX3_addWay_42 : decode cX3_addWay 42 = .ok (.aload_n 1, 1) := by decide +kernel
theorem dX3_addWay_43 : decode cX3_addWay 43 = .ok (.aload_n 0, 1) := by decide +kernel
theorem dX3_addWay_44 : decode cX3_addWay 44 = .ok (.getfield 9, 3) := by decide +kernel
theorem dX3_addWay_47 : decode cX3_addWay 47 = .ok (.iload_n 2, 1) := by decide +kernel
theorem dX3_addWay_48 : decode cX3_addWay 48 = .ok (.iaload, 1) := by decide +kernel
theorem dX3_addWay_49 : decode cX3_addWay 49 = .ok (.invokevirtual 120, 3) := by decide +kernel
theorem dX3_addWay_52 : decode cX3_addWay 52 = .ok (.lastore, 1) := by decide +kernel
theorem dX3_addWay_53 : decode cX3_addWay 53 = .ok (.iinc 2 1, 3) := by decide +kernel
theorem dX3_addWay_56 : decode cX3_addWay 56 = .ok (.goto (-41), 3) := by decide +kernel
theorem dX3_addWay_59 : decode cX3_addWay 59 = .ok (.aload_n 0, 1) := by decide +kernel
theorem dX3_addWay_60 : decode cX3_addWay 60 = .ok (.dup, 1) := by decide +kernel
theorem dX3_addWay_61 : decode cX3_addWay 61 = .ok (.getfield 26, 3) := by decide +kernel
theorem dX3_addWay_64 : decode cX3_addWay 64 = .ok (.iconst 1, 1) := by decide +kernel
theorem dX3_addWay_65 : decode cX3_addWay 65 = .ok (.iadd, 1) := by decide +kernel
theorem dX3_addWay_66 : decode cX3_addWay 66 = .ok (.putfield 26, 3) := by decide +kernel
theorem dX3_addWay_69 : decode cX3_addWay 69 = .ok (.iconst 0, 1) := by decide +kernel
theorem dX3_addWay_70 : decode cX3_addWay 70 = .ok (.ireturn, 1) := by decide +kernel
set_option maxRecDepth 20000 in
theorem ggX4_init_X1_init : GoodIn wsX4_init wsX1_init := goodIn_r _ [25, 26, 2, 3, 21, 27, 28, 29, 30, 31, 32, 33, 34, 61, 62, 63, 64, 65, 66, 67] (by decide +kernel) (by decide +kernel)
set_option maxRecDepth 20000 in
theorem gX4_init_X1_init_n9 : GoodIn wsX4_init (wsX1_init) := ggX4_init_X1_init
set_option maxRecDepth 20000 in
theorem ggX4_init_X2_init : GoodIn wsX4_init wsX2_init := goodIn_r _ [36, 37, 2, 3, 21, 38, 30, 39, 75, 76, 77] (by decide +kernel) (by decide +kernel)
set_option maxRecDepth 20000 in
theorem gX4_init_X2_init_n18 : GoodIn wsX4_init (wsX2_init) := ggX4_init_X2_init
set_option maxRecDepth 20000 in
theorem ggX4_init_Jx4a65c_init_da8c8 : GoodIn wsX4_init wsJx4a65c_init_da8c8 := goodIn_r _ [42, 43, 44, 45, 46, 47, 48, 49, 50, 51, 52, 53, 54, 2, 3, 78, 79, 80] (by decide +kernel) (by decide +kernel)
set_option maxRecDepth 20000 in
theorem gX4_init_Jx4a65c_init_da8c8 : GoodIn wsX4_init (wsJx4a65c_init_da8c8) := ggX4_init_Jx4a65c_init_da8c8
set_option maxRecDepth 20000 in
theorem ggX4_init_X3_init : GoodIn wsX4_init wsX3_init := goodIn_r _ [56, 57, 2, 3, 21, 58, 30, 59, 60, 81, 82, 83, 84, 85, 86] (by decide +kernel) (by decide +kernel)
set_option maxRecDepth 20000 in
theorem gX4_init_X3_init_n32 : GoodIn wsX4_init (wsX3_init) := ggX4_init_X3_init
theorem dX4_init_0 : decode cX4_init 0 = .ok (.aload_n 0, 1) := by decide +kernel
theorem dX4_init_1 : decode cX4_init 1 = .ok (.invokespecial 1, 3) := by decide +kernel
theorem dX4_init_4 : decode cX4_init 4 = .ok (.aload_n 0, 1) := by decide +kernel
theorem dX4_init_5 : decode cX4_init 5 = .ok (.new 7, 3) := by decide +kernel
theorem dX4_init_8 : decode cX4_init 8 = .ok (.dup, 1) := by decide +kernel
theorem dX4_init_9 : decode cX4_init 9 = .ok (.invokespecial 9, 3) := by decide +kernel
theorem dX4_init_12 : decode cX4_init 12 = .ok (.putfield 10, 3) := by decide +kernel
theorem dX4_init_15 : decode cX4_init 15 = .ok (.aload_n 0, 1) := by decide +kernel
