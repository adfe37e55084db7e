theorem dX10_move_98 : decode cX10_move 98 = .ok (.return_, 1) := by decide +kernel
set_option maxRecDepth 20000 in
theorem ggX10_pips_X10_on : GoodIn wsX10_pips wsX10_on := goodIn_r _ [4] (by decide +kernel) (by decide +kernel)
set_option maxRecDepth 20000 in
theorem gX10_pips_X10_on : GoodIn wsX10_pips (va_wsS RX10 95 yX10_on wsX10_on) := goodIn_app (goodIn_of _ (by decide +kernel)) ggX10_pips_X10_on
theorem dX10_pips_0 : decode cX10_pips 0 = .ok (.iconst 0, 1) := by decide +kernel
theorem dX10_pips_1 : decode cX10_pips 1 = .ok (.istore_n 3, 1) := by decide +kernel
theorem dX10_pips_2 : decode cX10_pips 2 = .ok (.iconst 1, 1) := by decide +kernel
theorem dX10_pips_3 : decode cX10_pips 3 = .ok (.istore 4, 2) := by decide +kernel
theorem dX10_pips_5 : decode cX10_pips 5 = .ok (.iload 4, 2) := by decide +kernel
theorem dX10_pips_7 : decode cX10_pips 7 = .ok (.bipush 25, 2) := by decide +kernel
theorem dX10_pips_9 : decode cX10_pips 9 = .ok (.if_icmp .gt 23, 3) := by decide +kernel
theorem dX10_pips_12 : decode cX10_pips 12 = .ok (.iload_n 3, 1) := by decide +kernel
theorem dX10_pips_13 : decode cX10_pips 13 = .ok (.iload 4, 2) := by decide +kernel
theorem dX10_pips_15 : decode cX10_pips 15 = .ok (.aload_n 0, 1) := by decide +kernel
theorem dX10_pips_16 : decode cX10_pips 16 = .ok (.iload_n 1, 1) := by decide +kernel
theorem dX10_pips_17 : decode cX10_pips 17 = .ok (.iload_n 2, 1) := by decide +kernel
theorem dX10_pips_18 : decode cX10_pips 18 = .ok (.iload 4, 2) := by decide +kernel
theorem dX10_pips_20 : decode cX10_pips 20 = .ok (.invokestatic 95, 3) := by decide +kernel
theorem dX10_pips_23 : decode cX10_pips 23 = .ok (.imul, 1) := by decide +kernel
theorem dX10_pips_24 : decode cX10_pips 24 = .ok (.iadd, 1) := by decide +kernel
theorem dX10_pips_25 : decode cX10_pips 25 = .ok (.istore_n 3, 1) := by decide +kernel
theorem dX10_pips_26 : decode cX10_pips 26 = .ok (.iinc 4 1, 3) := by decide +kernel
theorem dX10_pips_29 : decode cX10_pips 29 = .ok (.goto (-24), 3) := by decide +kernel
theorem dX10_pips_32 : decode cX10_pips 32 = .ok (.iload_n 3, 1) := by decide +kernel
theorem dX10_pips_33 : decode cX10_pips 33 = .ok (.ireturn, 1) := by decide +kernel
set_option maxRecDepth 20000 in
theorem ggX10_worth_X10_pips : GoodIn wsX10_worth wsX10_pips := goodIn_r _ [4, 5, 6, 3, 7] (by decide +kernel) (by decide +kernel)
set_option maxRecDepth 20000 in
theorem gX10_worth_X10_pips : GoodIn wsX10_worth (va_wsS RX10 106 yX10_pips wsX10_pips) := goodIn_app (goodIn_of _ (by decide +kernel)) ggX10_worth_X10_pips
set_option maxRecDepth 20000 in
theorem ggX10_worth_X10_on : GoodIn wsX10_worth wsX10_on := goodIn_r _ [7] (by decide +kernel) (by decide +kernel)
set_option maxRecDepth 20000 in
theorem gX10_worth_X10_on : GoodIn wsX10_worth (va_wsS RX10 95 yX10_on wsX10_on) := goodIn_app (goodIn_of _ (by decide +kernel)) ggX10_worth_X10_on
set_option maxRecDepth 20000 in
theorem ggX10_worth_X10_against : GoodIn wsX10_worth wsX10_against := goodIn_r _ [10] (by decide +kernel) (by decide +kernel)
set_option maxRecDepth 20000 in
theorem gX10_worth_X10_against : GoodIn wsX10_worth (va_wsS RX10 99 yX10_against wsX10_against) := goodIn_app (goodIn_of _ (by decide +kernel)) ggX10_worth_X10_against
theorem dX10_worth_0 : decode cX10_worth 0 = .ok (.aload_n 0, 1) := by decide +kernel
theorem dX10_worth_1 : decode cX10_worth 1 = .ok (.iload_n 1, 1) := by decide +kernel
theorem dX10_worth_2 : decode cX10_worth 2 = .ok (.iconst 1, 1) := by decide +kernel
theorem dX10_worth_3 : decode cX10_worth 3 = .ok (.iload_n 2, 1) := by decide +kernel
theorem dX10_worth_4 : decode cX10_worth 4 = .ok (.isub, 1) := by decide +kernel
theorem dX10_worth_5 : decode cX10_worth 5 = .ok (.invokestatic 106, 3) := by decide +kernel
theorem dX10_worth_8 : decode cX10_worth 8 = .ok (.aload_n 0, 1) := by decide +kernel
theorem dX10_worth_9 : decode cX10_worth 9 = .ok (.iload_n 1, 1) := by decide +kernel
theorem dX10_worth_10 : decode cX10_worth 10 = .ok (.iload_n 2, 1) := by decide +kernel
theorem dX10_worth_11 : decode cX10_worth 11 = .ok (.invokestatic 106, 3) := by decide +kernel
theorem dX10_worth_14 : decode cX10_worth 14 = .ok (.isub, 1) := by decide +kernel
theorem dX10_worth_15 : decode cX10_worth 15 = .ok (.bipush 8, 2) := by decide +kernel
theorem dX10_worth_17 : decode cX10_worth 17 = .ok (.aload_n 0, 1) := by decide +kernel
theorem dX10_worth_18 : decode cX10_worth 18 = .ok (.iload_n 1, 1) := by decide +kernel
theorem dX10_worth_19 : decode cX10_worth 19 = .ok (.iconst 1, 1) := by decide +kernel
theorem dX10_worth_20 : decode cX10_worth 20 = .ok (.iload_n 2, 1) := by decide +kernel
theorem dX10_worth_21 : decode cX10_worth 21 = .ok (.isub, 1) := by decide +kernel
theorem dX10_worth_22 : decode cX10_worth 22 = .ok (.bipush 25, 2) := by decide +kernel
theorem dX10_worth_24 : decode cX10_worth 24 = .ok (.invokestatic 95, 3) := by decide +kernel
theorem dX10_worth_27 : decode cX10_worth 27 = .ok (.imul, 1) := by decide +kernel
theorem dX10_worth_28 : decode cX10_worth 28 = .ok (.iadd, 1) := by decide +kernel
theorem dX10_worth_29 : decode cX10_worth 29 = .ok (.bipush 10, 2) := by decide +kernel
theorem dX10_worth_31 : decode cX10_worth 31 = .ok (.aload_n 0, 1) := by decide +kernel
theorem dX10_worth_32 : decode cX10_worth 32 = .ok (.iload_n 1, 1) := by decide +kernel
theorem dX10_worth_33 : decode cX10_worth 33 = .ok (.iload_n 2, 1) := by decide +kernel
theorem dX10_worth_34 : decode cX10_worth 34 = .ok (.iconst 0, 1) := by decide +kernel
theorem dX10_worth_35 : decode cX10_worth 35 = .ok (.invokestatic 95, 3) := by decide +kernel
theorem dX10_worth_38 : decode cX10_worth 38 = .ok (.imul, 1) := by decide +kernel
theorem dX10_worth_39 : decode cX10_worth 39 = .ok (.iadd, 1) := by decide +kernel
theorem dX10_worth_40 : decode cX10_worth 40 = .ok (.istore_n 3, 1) := by decide +kernel
theorem dX10_worth_41 : decode cX10_worth 41 = .ok (.aload_n 0, 1) := by decide +kernel
theorem dX10_worth_42 : decode cX10_worth 42 = .ok (.iload_n 1, 1) := by decide +kernel
theorem dX10_worth_43 : decode cX10_worth 43 = .ok (.iconst 1, 1) := by decide +kernel
theorem dX10_worth_44 : decode cX10_worth 44 = .ok (.iload_n 2, 1) := by decide +kernel
theorem dX10_worth_45 : decode cX10_worth 45 = .ok (.isub, 1) := by decide +kernel
theorem dX10_worth_46 : decode cX10_worth 46 = .ok (.bipush 25, 2) := by decide +kernel
theorem dX10_worth_48 : decode cX10_worth 48 = .ok (.invokestatic 95, 3) := by decide +kernel
theorem dX10_worth_51 : decode cX10_worth 51 = .ok (.ifCond .le 7, 3) := by decide +kernel
theorem dX10_worth_54 : decode cX10_worth 54 = .ok (.iconst 1, 1) := by decide +kernel
theorem dX10_worth_55 : decode cX10_worth 55 = .ok (.goto 4, 3) := by decide +kernel
theorem dX10_worth_58 : decode cX10_worth 58 = .ok (.iconst 0, 1) := by decide +kernel
theorem dX10_worth_59 : decode cX10_worth 59 = .ok (.istore 4, 2) := by decide +kernel
theorem dX10_worth_61 : decode cX10_worth 61 = .ok (.iconst 1, 1) := by decide +kernel
theorem dX10_worth_62 : decode cX10_worth 62 = .ok (.istore 5, 2) := by decide +kernel
theorem dX10_worth_64 : decode cX10_worth 64 = .ok (.iload 5, 2) := by decide +kernel
theorem dX10_worth_66 : decode cX10_worth 66 = .ok (.bipush 24, 2) := by decide +kernel
theorem dX10_worth_68 : decode cX10_worth 68 = .ok (.if_icmp .gt 73, 3) := by decide +kernel
theorem dX10_worth_71 : decode cX10_worth 71 = .ok (.aload_n 0, 1) := by decide +kernel
theorem dX10_worth_72 : decode cX10_worth 72 = .ok (.iload_n 1, 1) := by decide +kernel
theorem dX10_worth_73 : decode cX10_worth 73 = .ok (.iload_n 2, 1) := by decide +kernel
theorem dX10_worth_74 : decode cX10_worth 74 = .ok (.iload 5, 2) := by decide +kernel
theorem dX10_worth_76 : decode cX10_worth 76 = .ok (.invokestatic 95, 3) := by decide +kernel
theorem dX10_worth_79 : decode cX10_worth 79 = .ok (.istore 6, 2) := by decide +kernel
theorem dX10_worth_81 : decode cX10_worth 81 = .ok (.iload_n 3, 1) := by decide +kernel
theorem dX10_worth_82 : decode cX10_worth 82 = .ok (.iload 6, 2) := by decide +kernel
theorem dX10_worth_84 : decode cX10_worth 84 = .ok (.iconst 2, 1) := by decide +kernel
theorem dX10_worth_85 : decode cX10_worth 85 = .ok (.if_icmp .lt 8, 3) := by decide +kernel
theorem dX10_worth_88 : decode cX10_worth 88 = .ok (.bipush 6, 2) := by decide +kernel
theorem dX10_worth_90 : decode cX10_worth 90 = .ok (.goto 20, 3) := by decide +kernel
theorem dX10_worth_93 : decode cX10_worth 93 = .ok (.iload 6, 2) := by decide +kernel
theorem dX10_worth_95 : decode cX10_worth 95 = .ok (.iconst 1, 1) := by decide +kernel
theorem dX10_worth_96 : decode cX10_worth 96 = .ok (.if_icmp .ne 13, 3) := by decide +kernel
theorem dX10_worth_99 : decode cX10_worth 99 = .ok (.iload 4, 2) := by decide +kernel
theorem dX10_worth_101 : decode cX10_worth 101 = .ok (.ifCond .eq 8, 3) := by decide +kernel
theorem dX10_worth_104 : decode cX10_worth 104 = .ok (.bipush (-4), 2) := by decide +kernel
theorem dX10_worth_106 : decode cX10_worth 106 = .ok (.goto 4, 3) := by decide +kernel
theorem dX10_worth_109 : decode cX10_worth 109 = .ok (.iconst 0, 1) := by decide +kernel
theorem dX10_worth_110 : decode cX10_worth 110 = .ok (.iadd, 1) := by decide +kernel
theorem dX10_worth_111 : decode cX10_worth 111 = .ok (.istore_n 3, 1) := by decide +kernel
theorem dX10_worth_112 : decode cX10_worth 112 = .ok (.iload 4, 2) := by decide +kernel
theorem dX10_worth_114 : decode cX10_worth 114 = .ok (.ifCond .ne 14, 3) := by decide +kernel
theorem dX10_worth_117 : decode cX10_worth 117 = .ok (.aload_n 0, 1) := by decide +kernel
theorem dX10_worth_118 : decode cX10_worth 118 = .ok (.iload_n 1, 1) := by decide +kernel
theorem dX10_worth_119 : decode cX10_worth 119 = .ok (.iload_n 2, 1) := by decide +kernel
theorem dX10_worth_120 : decode cX10_worth 120 = .ok (.iload 5, 2) := by decide +kernel
theorem dX10_worth_122 : decode cX10_worth 122 = .ok (.invokestatic 99, 3) := by decide +kernel
theorem dX10_worth_125 : decode cX10_worth 125 = .ok (.ifCond .le 7, 3) := by decide +kernel
theorem dX10_worth_128 : decode cX10_worth 128 = .ok (.iconst 1, 1) := by decide +kernel
theorem dX10_worth_129 : decode cX10_worth 129 = .ok (.goto 4, 3) := by decide +kernel
theorem dX10_worth_132 : decode cX10_worth 132 = .ok (.iconst 0, 1) := by decide +kernel
theorem dX10_worth_133 : decode cX10_worth 133 = .ok (.istore 4, 2) := by decide +kernel
theorem dX10_worth_135 : decode cX10_worth 135 = .ok (.iinc 5 1, 3) := by decide +kernel
theorem dX10_worth_138 : decode cX10_worth 138 = .ok (.goto (-74), 3) := by decide +kernel
theorem dX10_worth_141 : decode cX10_worth 141 = .ok (.iload_n 3, 1) := by decide +kernel
theorem dX10_worth_142 : decode cX10_worth 142 = .ok (.ireturn, 1) := by decide +kernel
theorem dX10_isAlike_0 : decode cX10_isAlike 0 = .ok (.iconst 1, 1) := by decide +kernel
theorem dX10_isAlike_1 : decode cX10_isAlike 1 = .ok (.istore 4, 2) := by decide +kernel
theorem dX10_isAlike_3 : decode cX10_isAlike 3 = .ok (.iconst 0, 1) := by decide +kernel
theorem dX10_isAlike_4 : decode cX10_isAlike 4 = .ok (.istore 5, 2) := by decide +kernel
theorem dX10_isAlike_6 : decode cX10_isAlike 6 = .ok (.iload 5, 2) := by decide +kernel
theorem dX10_isAlike_8 : decode cX10_isAlike 8 = .ok (.bipush 52, 2) := by decide +kernel
theorem dX10_isAlike_10 : decode cX10_isAlike 10 = .ok (.if_icmp .ge 36, 3) := by decide +kernel
theorem dX10_isAlike_13 : decode cX10_isAlike 13 = .ok (.iload 4, 2) := by decide +kernel
theorem dX10_isAlike_15 : decode cX10_isAlike 15 = .ok (.ifCond .eq 22, 3) := by decide +kernel
theorem dX10_isAlike_18 : decode cX10_isAlike 18 = .ok (.aload_n 0, 1) := by decide +kernel
theorem dX10_isAlike_19 : decode cX10_isAlike 19 = .ok (.iload_n 1, 1) := by decide +kernel
theorem dX10_isAlike_20 : decode cX10_isAlike 20 = .ok (.iload 5, 2) := by decide +kernel
theorem dX10_isAlike_22 : decode cX10_isAlike 22 = .ok (.iadd, 1) := by decide +kernel
theorem dX10_isAlike_23 : decode cX10_isAlike 23 = .ok (.iaload, 1) := by decide +kernel
theorem dX10_isAlike_24 : decode cX10_isAlike 24 = .ok (.aload_n 2, 1) := by decide +kernel
theorem dX10_isAlike_25 : decode cX10_isAlike 25 = .ok (.iload_n 3, 1) := by decide +kernel
theorem dX10_isAlike_26 : decode cX10_isAlike 26 = .ok (.iload 5, 2) := by decide +kernel
theorem dX10_isAlike_28 : decode cX10_isAlike 28 = .ok (.iadd, 1) := by decide +kernel
theorem dX10_isAlike_29 : decode cX10_isAlike 29 = .ok (.iaload, 1) := by decide +kernel
theorem dX10_isAlike_30 : decode cX10_isAlike 30 = .ok (.if_icmp .ne 7, 3) := by decide +kernel
theorem dX10_isAlike_33 : decode cX10_isAlike 33 = .ok (.iconst 1, 1) := by decide +kernel
theorem dX10_isAlike_34 : decode cX10_isAlike 34 = .ok (.goto 4, 3) := by decide +kernel
theorem dX10_isAlike_37 : decode cX10_isAlike 37 = .ok (.iconst 0, 1) := by decide +kernel
theorem dX10_isAlike_38 : decode cX10_isAlike 38 = .ok (.istore 4, 2) := by decide +kernel
theorem dX10_isAlike_40 : decode cX10_isAlike 40 = .ok (.iinc 5 1, 3) := by decide +kernel
theorem dX10_isAlike_43 : decode cX10_isAlike 43 = .ok (.goto (-37), 3) := by decide +kernel
theorem dX10_isAlike_46 : decode cX10_isAlike 46 = .ok (.iload 4, 2) := by decide +kernel
theorem dX10_isAlike_48 : decode cX10_isAlike 48 = .ok (.ireturn, 1) := by decide +kernel
theorem dX10_copy_0 : decode cX10_copy 0 = .ok (.iconst 0, 1) := by decide +kernel
theorem dX10_copy_1 : decode cX10_copy 1 = .ok (.istore 4, 2) := by decide +kernel
theorem dX10_copy_3 : decode cX10_copy 3 = .ok (.iload 4, 2) := by decide +kernel
theorem dX10_copy_5 : decode cX10_copy 5 = .ok (.bipush 52, 2) := by decide +kernel
theorem dX10_copy_7 : decode cX10_copy 7 = .ok (.if_icmp .ge 21, 3) := by decide +kernel
theorem dX10_copy_10 : decode cX10_copy 10 = .ok (.aload_n 2, 1) := by decide +kernel
theorem dX10_copy_11 : decode cX10_copy 11 = .ok (.iload_n 3, 1) := by decide +kernel
theorem dX10_copy_12 : decode cX10_copy 12 = .ok (.iload 4, 2) := by decide +kernel
theorem dX10_copy_14 : decode cX10_copy 14 = .ok (.iadd, 1) := by decide +kernel
theorem dX10_copy_15 : decode cX10_copy 15 = .ok (.aload_n 0, 1) := by decide +kernel
theorem dX10_copy_16 : decode cX10_copy 16 = .ok (.iload_n 1, 1) := by decide +kernel
theorem dX10_copy_17 : decode cX10_copy 17 = .ok (.iload 4, 2) := by decide +kernel
theorem dX10_copy_19 : decode cX10_copy 19 = .ok (.iadd, 1) := by decide +kernel
theorem dX10_copy_20 : decode cX10_copy 20 = .ok (.iaload, 1) := by decide +kernel
theorem dX10_copy_21 : decode cX10_copy 21 = .ok (.iastore, 1) := by decide +kernel
theorem dX10_copy_22 : decode cX10_copy 22 = .ok (.iinc 4 1, 3) := by decide +kernel
theorem dX10_copy_25 : decode cX10_copy 25 = .ok (.goto (-22), 3) := by decide +kernel
theorem dX10_copy_28 : decode cX10_copy 28 = .ok (.return_, 1) := by decide +kernel
set_option maxRecDepth 20000 in
theorem ggX10_end_X10_worth : GoodIn wsX10_end wsX10_worth := goodIn_r _ [16, 17, 18, 15, 19, 20, 21, 22, 23, 24, 25] (by decide +kernel) (by decide +kernel)
set_option maxRecDepth 20000 in
theorem gX10_end_X10_worth : GoodIn wsX10_end (va_wsS RX10 128 yX10_worth wsX10_worth) := goodIn_app (goodIn_of _ (by decide +kernel)) ggX10_end_X10_worth
set_option maxRecDepth 20000 in
theorem ggX10_end_X10_isAlike : GoodIn wsX10_end wsX10_isAlike := goodIn_r _ [28] (by decide +kernel) (by decide +kernel)
set_option maxRecDepth 20000 in
theorem gX10_end_X10_isAlike : GoodIn wsX10_end (va_wsS RX10 138 yX10_isAlike wsX10_isAlike) := goodIn_app (goodIn_of _ (by decide +kernel)) ggX10_end_X10_isAlike
set_option maxRecDepth 20000 in
theorem ggX10_end_X10_keep : GoodIn wsX10_end wsX10_keep := goodIn_r _ [32, 6, 11, 12, 33, 34, 7, 35, 36, 37, 38, 39, 40, 15, 41, 20, 21, 22, 42, 43, 44, 45, 46, 47, 48, 49, 50, 51, 52, 53, 54, 55, 56, 57, 58, 59, 60, 61, 62, 63, 64, 65, 66, 67, 68, 69, 70, 71, 72, 73, 74, 75, 76, 77, 78, 79, 80, 81, 82, 83, 84, 85, 86, 87, 88, 89, 90, 91, 92, 93, 94, 95] (by decide +kernel) (by decide +kernel)
set_option maxRecDepth 20000 in
theorem gX10_end_X10_keep : GoodIn wsX10_end (wsV RX10 145 RX10 yX10_keep wsX10_keep) := goodIn_app (goodIn_of _ (by decide +kernel)) ggX10_end_X10_keep
theorem dX10_end_0 : decode cX10_end 0 = .ok (.aload_n 0, 1) := by decide +kernel
theorem dX10_end_1 : decode cX10_end 1 = .ok (.getfield 110, 3) := by decide +kernel
theorem dX10_end_4 : decode cX10_end 4 = .ok (.bipush 109, 2) := by decide +kernel
theorem dX10_end_6 : decode cX10_end 6 = .ok (.if_icmp .ne 66, 3) := by decide +kernel
theorem dX10_end_9 : decode cX10_end 9 = .ok (.iload_n 1, 1) := by decide +kernel
theorem dX10_end_10 : decode cX10_end 10 = .ok (.aload_n 0, 1) := by decide +kernel
theorem dX10_end_11 : decode cX10_end 11 = .ok (.getfield 113, 3) := by decide +kernel
theorem dX10_end_14 : decode cX10_end 14 = .ok (.if_icmp .le 7, 3) := by decide +kernel
theorem dX10_end_17 : decode cX10_end 17 = .ok (.iconst 1, 1) := by decide +kernel
theorem dX10_end_18 : decode cX10_end 18 = .ok (.goto 4, 3) := by decide +kernel
theorem dX10_end_21 : decode cX10_end 21 = .ok (.iconst 0, 1) := by decide +kernel
theorem dX10_end_22 : decode cX10_end 22 = .ok (.istore_n 3, 1) := by decide +kernel
theorem dX10_end_23 : decode cX10_end 23 = .ok (.aload_n 0, 1) := by decide +kernel
theorem dX10_end_24 : decode cX10_end 24 = .ok (.iload_n 3, 1) := by decide +kernel
theorem dX10_end_25 : decode cX10_end 25 = .ok (.ifCond .eq 7, 3) := by decide +kernel
theorem dX10_end_28 : decode cX10_end 28 = .ok (.iload_n 1, 1) := by decide +kernel
theorem dX10_end_29 : decode cX10_end 29 = .ok (.goto 7, 3) := by decide +kernel
theorem dX10_end_32 : decode cX10_end 32 = .ok (.aload_n 0, 1) := by decide +kernel
theorem dX10_end_33 : decode cX10_end 33 = .ok (.getfield 113, 3) := by decide +kernel
theorem dX10_end_36 : decode cX10_end 36 = .ok (.putfield 113, 3) := by decide +kernel
theorem dX10_end_39 : decode cX10_end 39 = .ok (.aload_n 0, 1) := by decide +kernel
theorem dX10_end_40 : decode cX10_end 40 = .ok (.iload_n 3, 1) := by decide +kernel
theorem dX10_end_41 : decode cX10_end 41 = .ok (.ifCond .ne 19, 3) := by decide +kernel
theorem dX10_end_44 : decode cX10_end 44 = .ok (.iload_n 1, 1) := by decide +kernel
theorem dX10_end_45 : decode cX10_end 45 = .ok (.aload_n 0, 1) := by decide +kernel
theorem dX10_end_46 : decode cX10_end 46 = .ok (.getfield 113, 3) := by decide +kernel
theorem dX10_end_49 : decode cX10_end 49 = .ok (.if_icmp .ne 15, 3) := by decide +kernel
theorem dX10_end_52 : decode cX10_end 52 = .ok (.iload_n 2, 1) := by decide +kernel
theorem dX10_end_53 : decode cX10_end 53 = .ok (.aload_n 0, 1) := by decide +kernel
theorem dX10_end_54 : decode cX10_end 54 = .ok (.getfield 116, 3) := by decide +kernel
theorem dX10_end_57 : decode cX10_end 57 = .ok (.if_icmp .le 7, 3) := by decide +kernel
theorem dX10_end_60 : decode cX10_end 60 = .ok (.iload_n 2, 1) := by decide +kernel
theorem dX10_end_61 : decode cX10_end 61 = .ok (.goto 7, 3) := by decide +kernel
theorem dX10_end_64 : decode cX10_end 64 = .ok (.aload_n 0, 1) := by decide +kernel
theorem dX10_end_65 : decode cX10_end 65 = .ok (.getfield 116, 3) := by decide +kernel
theorem dX10_end_68 : decode cX10_end 68 = .ok (.putfield 116, 3) := by decide +kernel
theorem dX10_end_71 : decode cX10_end 71 = .ok (.return_, 1) := by decide +kernel
theorem dX10_end_72 : decode cX10_end 72 = .ok (.aload_n 0, 1) := by decide +kernel
theorem dX10_end_73 : decode cX10_end 73 = .ok (.getfield 113, 3) := by decide +kernel
theorem dX10_end_76 : decode cX10_end 76 = .ok (.iconst 1, 1) := by decide +kernel
theorem dX10_end_77 : decode cX10_end 77 = .ok (.if_icmp .ne 18, 3) := by decide +kernel
theorem dX10_end_80 : decode cX10_end 80 = .ok (.aload_n 0, 1) := by decide +kernel
theorem dX10_end_81 : decode cX10_end 81 = .ok (.getfield 119, 3) := by decide +kernel
theorem dX10_end_84 : decode cX10_end 84 = .ok (.aload_n 0, 1) := by decide +kernel
theorem dX10_end_85 : decode cX10_end 85 = .ok (.getfield 122, 3) := by decide +kernel
theorem dX10_end_88 : decode cX10_end 88 = .ok (.if_icmp .eq 7, 3) := by decide +kernel
theorem dX10_end_91 : decode cX10_end 91 = .ok (.iconst 1, 1) := by decide +kernel
theorem dX10_end_92 : decode cX10_end 92 = .ok (.goto 4, 3) := by decide +kernel
theorem dX10_end_95 : decode cX10_end 95 = .ok (.iconst 0, 1) := by decide +kernel
theorem dX10_end_96 : decode cX10_end 96 = .ok (.istore_n 3, 1) := by decide +kernel
theorem dX10_end_97 : decode cX10_end 97 = .ok (.iload_n 1, 1) := by decide +kernel
theorem dX10_end_98 : decode cX10_end 98 = .ok (.aload_n 0, 1) := by decide +kernel
theorem dX10_end_99 : decode cX10_end 99 = .ok (.getfield 113, 3) := by decide +kernel
theorem dX10_end_102 : decode cX10_end 102 = .ok (.if_icmp .lt 15, 3) := by decide +kernel
theorem dX10_end_105 : decode cX10_end 105 = .ok (.iload_n 3, 1) := by decide +kernel
theorem dX10_end_106 : decode cX10_end 106 = .ok (.ifCond .eq 12, 3) := by decide +kernel
theorem dX10_end_109 : decode cX10_end 109 = .ok (.iload_n 2, 1) := by decide +kernel
theorem dX10_end_110 : decode cX10_end 110 = .ok (.aload_n 0, 1) := by decide +kernel
theorem dX10_end_111 : decode cX10_end 111 = .ok (.getfield 116, 3) := by decide +kernel
theorem dX10_end_114 : decode cX10_end 114 = .ok (.if_icmp .eq 4, 3) := by decide +kernel
theorem dX10_end_117 : decode cX10_end 117 = .ok (.return_, 1) := by decide +kernel
theorem dX10_end_118 : decode cX10_end 118 = .ok (.aload_n 0, 1) := by decide +kernel
theorem dX10_end_119 : decode cX10_end 119 = .ok (.getfield 110, 3) := by decide +kernel
theorem dX10_end_122 : decode cX10_end 122 = .ok (.bipush 119, 2) := by decide +kernel
theorem dX10_end_124 : decode cX10_end 124 = .ok (.if_icmp .ne 55, 3) := by decide +kernel
theorem dX10_end_127 : decode cX10_end 127 = .ok (.aload_n 0, 1) := by decide +kernel
theorem dX10_end_128 : decode cX10_end 128 = .ok (.getfield 52, 3) := by decide +kernel
theorem dX10_end_131 : decode cX10_end 131 = .ok (.bipush 52, 2) := by decide +kernel
theorem dX10_end_133 : decode cX10_end 133 = .ok (.iload_n 1, 1) := by decide +kernel
theorem dX10_end_134 : decode cX10_end 134 = .ok (.imul, 1) := by decide +kernel
theorem dX10_end_135 : decode cX10_end 135 = .ok (.aload_n 0, 1) := by decide +kernel
theorem dX10_end_136 : decode cX10_end 136 = .ok (.getfield 125, 3) := by decide +kernel
theorem dX10_end_139 : decode cX10_end 139 = .ok (.invokestatic 128, 3) := by decide +kernel
theorem dX10_end_142 : decode cX10_end 142 = .ok (.istore 4, 2) := by decide +kernel
theorem dX10_end_144 : decode cX10_end 144 = .ok (.aload_n 0, 1) := by decide +kernel
theorem dX10_end_145 : decode cX10_end 145 = .ok (.aload_n 0, 1) := by decide +kernel
theorem dX10_end_146 : decode cX10_end 146 = .ok (.getfield 131, 3) := by decide +kernel
theorem dX10_end_149 : decode cX10_end 149 = .ok (.ifCond .eq 12, 3) := by decide +kernel
theorem dX10_end_152 : decode cX10_end 152 = .ok (.iload 4, 2) := by decide +kernel
theorem dX10_end_154 : decode cX10_end 154 = .ok (.aload_n 0, 1) := by decide +kernel
theorem dX10_end_155 : decode cX10_end 155 = .ok (.getfield 135, 3) := by decide +kernel
theorem dX10_end_158 : decode cX10_end 158 = .ok (.if_icmp .le 8, 3) := by decide +kernel
theorem dX10_end_161 : decode cX10_end 161 = .ok (.iload 4, 2) := by decide +kernel
theorem dX10_end_163 : decode cX10_end 163 = .ok (.goto 7, 3) := by decide +kernel
theorem dX10_end_166 : decode cX10_end 166 = .ok (.aload_n 0, 1) := by decide +kernel
theorem dX10_end_167 : decode cX10_end 167 = .ok (.getfield 135, 3) := by decide +kernel
theorem dX10_end_170 : decode cX10_end 170 = .ok (.putfield 135, 3) := by decide +kernel
theorem dX10_end_173 : decode cX10_end 173 = .ok (.aload_n 0, 1) := by decide +kernel
theorem dX10_end_174 : decode cX10_end 174 = .ok (.iconst 1, 1) := by decide +kernel
theorem dX10_end_175 : decode cX10_end 175 = .ok (.putfield 131, 3) := by decide +kernel
theorem dX10_end_178 : decode cX10_end 178 = .ok (.return_, 1) := by decide +kernel
theorem dX10_end_179 : decode cX10_end 179 = .ok (.iconst 0, 1) := by decide +kernel
theorem dX10_end_180 : decode cX10_end 180 = .ok (.istore 4, 2) := by decide +kernel
theorem dX10_end_182 : decode cX10_end 182 = .ok (.iconst 0, 1) := by decide +kernel
theorem dX10_end_183 : decode cX10_end 183 = .ok (.istore 5, 2) := by decide +kernel
theorem dX10_end_185 : decode cX10_end 185 = .ok (.iload 5, 2) := by decide +kernel
theorem dX10_end_187 : decode cX10_end 187 = .ok (.bipush 52, 2) := by decide +kernel
theorem dX10_end_189 : decode cX10_end 189 = .ok (.if_icmp .ge 29, 3) := by decide +kernel
theorem dX10_end_192 : decode cX10_end 192 = .ok (.bipush 31, 2) := by decide +kernel
theorem dX10_end_194 : decode cX10_end 194 = .ok (.iload 4, 2) := by decide +kernel
theorem dX10_end_196 : decode cX10_end 196 = .ok (.imul, 1) := by decide +kernel
theorem dX10_end_197 : decode cX10_end 197 = .ok (.aload_n 0, 1) := by decide +kernel
theorem dX10_end_198 : decode cX10_end 198 = .ok (.getfield 52, 3) := by decide +kernel
theorem dX10_end_201 : decode cX10_end 201 = .ok (.bipush 52, 2) := by decide +kernel
theorem dX10_end_203 : decode cX10_end 203 = .ok (.iload_n 1, 1) := by decide +kernel
theorem dX10_end_204 : decode cX10_end 204 = .ok (.imul, 1) := by decide +kernel
theorem dX10_end_205 : decode cX10_end 205 = .ok (.iload 5, 2) := by decide +kernel
theorem dX10_end_207 : decode cX10_end 207 = .ok (.iadd, 1) := by decide +kernel
theorem dX10_end_208 : decode cX10_end 208 = .ok (.iaload, 1) := by decide +kernel
theorem dX10_end_209 : decode cX10_end 209 = .ok (.iadd, 1) := by decide +kernel
theorem dX10_end_210 : decode cX10_end 210 = .ok (.istore 4, 2) := by decide +kernel
theorem dX10_end_212 : decode cX10_end 212 = .ok (.iinc 5 1, 3) := by decide +kernel
theorem dX10_end_215 : decode cX10_end 215 = .ok (.goto (-30), 3) := by decide +kernel
theorem dX10_end_218 : decode cX10_end 218 = .ok (.iload 4, 2) := by decide +kernel
theorem dX10_end_220 : decode cX10_end 220 = .ok (.iload 4, 2) := by decide +kernel
theorem dX10_end_222 : decode cX10_end 222 = .ok (.bipush 15, 2) := by decide +kernel
theorem dX10_end_224 : decode cX10_end 224 = .ok (.iushr, 1) := by decide +kernel
theorem dX10_end_225 : decode cX10_end 225 = .ok (.ixor, 1) := by decide +kernel
theorem dX10_end_226 : decode cX10_end 226 = .ok (.sipush 16383, 3) := by decide +kernel
theorem dX10_end_229 : decode cX10_end 229 = .ok (.iand, 1) := by decide +kernel
theorem dX10_end_230 : decode cX10_end 230 = .ok (.istore 5, 2) := by decide +kernel
theorem dX10_end_232 : decode cX10_end 232 = .ok (.aload_n 0, 1) := by decide +kernel
theorem dX10_end_233 : decode cX10_end 233 = .ok (.getfield 49, 3) := by decide +kernel
theorem dX10_end_236 : decode cX10_end 236 = .ok (.iload 5, 2) := by decide +kernel
theorem dX10_end_238 : decode cX10_end 238 = .ok (.iaload, 1) := by decide +kernel
theorem dX10_end_239 : decode cX10_end 239 = .ok (.ifCond .le 46, 3) := by decide +kernel
theorem dX10_end_242 : decode cX10_end 242 = .ok (.aload_n 0, 1) := by decide +kernel
theorem dX10_end_243 : decode cX10_end 243 = .ok (.getfield 34, 3) := by decide +kernel
theorem dX10_end_246 : decode cX10_end 246 = .ok (.bipush 52, 2) := by decide +kernel
theorem dX10_end_248 : decode cX10_end 248 = .ok (.aload_n 0, 1) := by decide +kernel
theorem dX10_end_249 : decode cX10_end 249 = .ok (.getfield 49, 3) := by decide +kernel
theorem dX10_end_252 : decode cX10_end 252 = .ok (.iload 5, 2) := by decide +kernel
theorem dX10_end_254 : decode cX10_end 254 = .ok (.iaload, 1) := by decide +kernel
theorem dX10_end_255 : decode cX10_end 255 = .ok (.iconst 1, 1) := by decide +kernel
theorem dX10_end_256 : decode cX10_end 256 = .ok (.isub, 1) := by decide +kernel
theorem dX10_end_257 : decode cX10_end 257 = .ok (.imul, 1) := by decide +kernel
theorem dX10_end_258 : decode cX10_end 258 = .ok (.aload_n 0, 1) := by decide +kernel
theorem dX10_end_259 : decode cX10_end 259 = .ok (.getfield 52, 3) := by decide +kernel
theorem dX10_end_262 : decode cX10_end 262 = .ok (.bipush 52, 2) := by decide +kernel
theorem dX10_end_264 : decode cX10_end 264 = .ok (.iload_n 1, 1) := by decide +kernel
theorem dX10_end_265 : decode cX10_end 265 = .ok (.imul, 1) := by decide +kernel
theorem dX10_end_266 : decode cX10_end 266 = .ok (.invokestatic 138, 3) := by decide +kernel
theorem dX10_end_269 : decode cX10_end 269 = .ok (.ifCond .ne 16, 3) := by decide +kernel
theorem dX10_end_272 : decode cX10_end 272 = .ok (.iload 5, 2) := by decide +kernel
theorem dX10_end_274 : decode cX10_end 274 = .ok (.iconst 1, 1) := by decide +kernel
theorem dX10_end_275 : decode cX10_end 275 = .ok (.iadd, 1) := by decide +kernel
theorem dX10_end_276 : decode cX10_end 276 = .ok (.sipush 16383, 3) := by decide +kernel
theorem dX10_end_279 : decode cX10_end 279 = .ok (.iand, 1) := by decide +kernel
theorem dX10_end_280 : decode cX10_end 280 = .ok (.istore 5, 2) := by decide +kernel
theorem dX10_end_282 : decode cX10_end 282 = .ok (.goto (-50), 3) := by decide +kernel
theorem dX10_end_285 : decode cX10_end 285 = .ok (.aload_n 0, 1) := by decide +kernel
theorem dX10_end_286 : decode cX10_end 286 = .ok (.getfield 49, 3) := by decide +kernel
theorem dX10_end_289 : decode cX10_end 289 = .ok (.iload 5, 2) := by decide +kernel
theorem dX10_end_291 : decode cX10_end 291 = .ok (.iaload, 1) := by decide +kernel
theorem dX10_end_292 : decode cX10_end 292 = .ok (.ifCond .ne 29, 3) := by decide +kernel
theorem dX10_end_295 : decode cX10_end 295 = .ok (.aload_n 0, 1) := by decide +kernel
theorem dX10_end_296 : decode cX10_end 296 = .ok (.getfield 142, 3) := by decide +kernel
theorem dX10_end_299 : decode cX10_end 299 = .ok (.sipush 4096, 3) := by decide +kernel
theorem dX10_end_302 : decode cX10_end 302 = .ok (.if_icmp .ge 19, 3) := by decide +kernel
theorem dX10_end_305 : decode cX10_end 305 = .ok (.aload_n 0, 1) := by decide +kernel
theorem dX10_end_306 : decode cX10_end 306 = .ok (.iload_n 1, 1) := by decide +kernel
theorem dX10_end_307 : decode cX10_end 307 = .ok (.invokevirtual 145, 3) := by decide +kernel
theorem dX10_end_310 : decode cX10_end 310 = .ok (.aload_n 0, 1) := by decide +kernel
theorem dX10_end_311 : decode cX10_end 311 = .ok (.getfield 49, 3) := by decide +kernel
theorem dX10_end_314 : decode cX10_end 314 = .ok (.iload 5, 2) := by decide +kernel
theorem dX10_end_316 : decode cX10_end 316 = .ok (.aload_n 0, 1) := by decide +kernel
theorem dX10_end_317 : decode cX10_end 317 = .ok (.getfield 142, 3) := by decide +kernel
theorem dX10_end_320 : decode cX10_end 320 = .ok (.iastore, 1) := by decide +kernel
theorem dX10_end_321 : decode cX10_end 321 = .ok (.return_, 1) := by decide +kernel
set_option maxRecDepth 20000 in
theorem ggX10_keep_X10_copy : GoodIn wsX10_keep wsX10_copy := goodIn_r _ [14] (by decide +kernel) (by decide +kernel)
set_option maxRecDepth 20000 in
theorem gX10_keep_X10_copy : GoodIn wsX10_keep (va_wsS RX10 149 yX10_copy wsX10_copy) := goodIn_app (goodIn_of _ (by decide +kernel)) ggX10_keep_X10_copy
set_option maxRecDepth 20000 in
theorem ggX10_keep_X10_on : GoodIn wsX10_keep wsX10_on := goodIn_r _ [17] (by decide +kernel) (by decide +kernel)
set_option maxRecDepth 20000 in
theorem gX10_keep_X10_on : GoodIn wsX10_keep (va_wsS RX10 95 yX10_on wsX10_on) := goodIn_app (goodIn_of _ (by decide +kernel)) ggX10_keep_X10_on
theorem dX10_keep_0 : decode cX10_keep 0 = .ok (.aload_n 0, 1) := by decide +kernel
theorem dX10_keep_1 : decode cX10_keep 1 = .ok (.getfield 52, 3) := by decide +kernel
theorem dX10_keep_4 : decode cX10_keep 4 = .ok (.bipush 52, 2) := by decide +kernel
theorem dX10_keep_6 : decode cX10_keep 6 = .ok (.iload_n 1, 1) := by decide +kernel
theorem dX10_keep_7 : decode cX10_keep 7 = .ok (.imul, 1) := by decide +kernel
theorem dX10_keep_8 : decode cX10_keep 8 = .ok (.aload_n 0, 1) := by decide +kernel
theorem dX10_keep_9 : decode cX10_keep 9 = .ok (.getfield 34, 3) := by decide +kernel
theorem dX10_keep_12 : decode cX10_keep 12 = .ok (.bipush 52, 2) := by decide +kernel
theorem dX10_keep_14 : decode cX10_keep 14 = .ok (.aload_n 0, 1) := by decide +kernel
theorem dX10_keep_15 : decode cX10_keep 15 = .ok (.getfield 142, 3) := by decide +kernel
theorem dX10_keep_18 : decode cX10_keep 18 = .ok (.imul, 1) := by decide +kernel
theorem dX10_keep_19 : decode cX10_keep 19 = .ok (.invokestatic 149, 3) := by decide +kernel
theorem dX10_keep_22 : decode cX10_keep 22 = .ok (.aload_n 0, 1) := by decide +kernel
theorem dX10_keep_23 : decode cX10_keep 23 = .ok (.getfield 43, 3) := by decide +kernel
theorem dX10_keep_26 : decode cX10_keep 26 = .ok (.aload_n 0, 1) := by decide +kernel
theorem dX10_keep_27 : decode cX10_keep 27 = .ok (.getfield 142, 3) := by decide +kernel
theorem dX10_keep_30 : decode cX10_keep 30 = .ok (.iload_n 1, 1) := by decide +kernel
theorem dX10_keep_31 : decode cX10_keep 31 = .ok (.iastore, 1) := by decide +kernel
theorem dX10_keep_32 : decode cX10_keep 32 = .ok (.aload_n 0, 1) := by decide +kernel
theorem dX10_keep_33 : decode cX10_keep 33 = .ok (.getfield 46, 3) := by decide +kernel
theorem dX10_keep_36 : decode cX10_keep 36 = .ok (.aload_n 0, 1) := by decide +kernel
theorem dX10_keep_37 : decode cX10_keep 37 = .ok (.getfield 142, 3) := by decide +kernel
theorem dX10_keep_40 : decode cX10_keep 40 = .ok (.aload_n 0, 1) := by decide +kernel
theorem dX10_keep_41 : decode cX10_keep 41 = .ok (.getfield 52, 3) := by decide +kernel
theorem dX10_keep_44 : decode cX10_keep 44 = .ok (.bipush 52, 2) := by decide +kernel
theorem dX10_keep_46 : decode cX10_keep 46 = .ok (.iload_n 1, 1) := by decide +kernel
theorem dX10_keep_47 : decode cX10_keep 47 = .ok (.imul, 1) := by decide +kernel
theorem dX10_keep_48 : decode cX10_keep 48 = .ok (.iconst 1, 1) := by decide +kernel
theorem dX10_keep_49 : decode cX10_keep 49 = .ok (.aload_n 0, 1) := by decide +kernel
theorem dX10_keep_50 : decode cX10_keep 50 = .ok (.getfield 125, 3) := by decide +kernel
theorem dX10_keep_53 : decode cX10_keep 53 = .ok (.isub, 1) := by decide +kernel
theorem dX10_keep_54 : decode cX10_keep 54 = .ok (.bipush 25, 2) := by decide +kernel
theorem dX10_keep_56 : decode cX10_keep 56 = .ok (.invokestatic 95, 3) := by decide +kernel
theorem dX10_keep_59 : decode cX10_keep 59 = .ok (.aload_n 0, 1) := by decide +kernel
theorem dX10_keep_60 : decode cX10_keep 60 = .ok (.getfield 52, 3) := by decide +kernel
theorem dX10_keep_63 : decode cX10_keep 63 = .ok (.iconst 0, 1) := by decide +kernel
theorem dX10_keep_64 : decode cX10_keep 64 = .ok (.iconst 1, 1) := by decide +kernel
theorem dX10_keep_65 : decode cX10_keep 65 = .ok (.aload_n 0, 1) := by decide +kernel
theorem dX10_keep_66 : decode cX10_keep 66 = .ok (.getfield 125, 3) := by decide +kernel
theorem dX10_keep_69 : decode cX10_keep 69 = .ok (.isub, 1) := by decide +kernel
theorem dX10_keep_70 : decode cX10_keep 70 = .ok (.bipush 25, 2) := by decide +kernel
theorem dX10_keep_72 : decode cX10_keep 72 = .ok (.invokestatic 95, 3) := by decide +kernel
theorem dX10_keep_75 : decode cX10_keep 75 = .ok (.isub, 1) := by decide +kernel
theorem dX10_keep_76 : decode cX10_keep 76 = .ok (.iastore, 1) := by decide +kernel
theorem dX10_keep_77 : decode cX10_keep 77 = .ok (.iconst 0, 1) := by decide +kernel
theorem dX10_keep_78 : decode cX10_keep 78 = .ok (.istore_n 2, 1) := by decide +kernel
theorem dX10_keep_79 : decode cX10_keep 79 = .ok (.iload_n 2, 1) := by decide +kernel
theorem dX10_keep_80 : decode cX10_keep 80 = .ok (.iload_n 1, 1) := by decide +kernel
theorem dX10_keep_81 : decode cX10_keep 81 = .ok (.if_icmp .ge 47, 3) := by decide +kernel
theorem dX10_keep_84 : decode cX10_keep 84 = .ok (.aload_n 0, 1) := by decide +kernel
theorem dX10_keep_85 : decode cX10_keep 85 = .ok (.getfield 37, 3) := by decide +kernel
theorem dX10_keep_88 : decode cX10_keep 88 = .ok (.iconst 4, 1) := by decide +kernel
theorem dX10_keep_89 : decode cX10_keep 89 = .ok (.aload_n 0, 1) := by decide +kernel
theorem dX10_keep_90 : decode cX10_keep 90 = .ok (.getfield 142, 3) := by decide +kernel
theorem dX10_keep_93 : decode cX10_keep 93 = .ok (.imul, 1) := by decide +kernel
theorem dX10_keep_94 : decode cX10_keep 94 = .ok (.iload_n 2, 1) := by decide +kernel
theorem dX10_keep_95 : decode cX10_keep 95 = .ok (.iadd, 1) := by decide +kernel
theorem dX10_keep_96 : decode cX10_keep 96 = .ok (.aload_n 0, 1) := by decide +kernel
theorem dX10_keep_97 : decode cX10_keep 97 = .ok (.getfield 55, 3) := by decide +kernel
theorem dX10_keep_100 : decode cX10_keep 100 = .ok (.iload_n 2, 1) := by decide +kernel
theorem dX10_keep_101 : decode cX10_keep 101 = .ok (.iaload, 1) := by decide +kernel
theorem dX10_keep_102 : decode cX10_keep 102 = .ok (.iastore, 1) := by decide +kernel
theorem dX10_keep_103 : decode cX10_keep 103 = .ok (.aload_n 0, 1) := by decide +kernel
theorem dX10_keep_104 : decode cX10_keep 104 = .ok (.getfield 40, 3) := by decide +kernel
theorem dX10_keep_107 : decode cX10_keep 107 = .ok (.iconst 4, 1) := by decide +kernel
theorem dX10_keep_108 : decode cX10_keep 108 = .ok (.aload_n 0, 1) := by decide +kernel
theorem dX10_keep_109 : decode cX10_keep 109 = .ok (.getfield 142, 3) := by decide +kernel
theorem dX10_keep_112 : decode cX10_keep 112 = .ok (.imul, 1) := by decide +kernel
theorem dX10_keep_113 : decode cX10_keep 113 = .ok (.iload_n 2, 1) := by decide +kernel
theorem dX10_keep_114 : decode cX10_keep 114 = .ok (.iadd, 1) := by decide +kernel
theorem dX10_keep_115 : decode cX10_keep 115 = .ok (.aload_n 0, 1) := by decide +kernel
theorem dX10_keep_116 : decode cX10_keep 116 = .ok (.getfield 58, 3) := by decide +kernel
theorem dX10_keep_119 : decode cX10_keep 119 = .ok (.iload_n 2, 1) := by decide +kernel
theorem dX10_keep_120 : decode cX10_keep 120 = .ok (.iaload, 1) := by decide +kernel
theorem dX10_keep_121 : decode cX10_keep 121 = .ok (.iastore, 1) := by decide +kernel
theorem dX10_keep_122 : decode cX10_keep 122 = .ok (.iinc 2 1, 3) := by decide +kernel
theorem dX10_keep_125 : decode cX10_keep 125 = .ok (.goto (-46), 3) := by decide +kernel
theorem dX10_keep_128 : decode cX10_keep 128 = .ok (.aload_n 0, 1) := by decide +kernel
theorem dX10_keep_129 : decode cX10_keep 129 = .ok (.dup, 1) := by decide +kernel
theorem dX10_keep_130 : decode cX10_keep 130 = .ok (.getfield 142, 3) := by decide +kernel
theorem dX10_keep_133 : decode cX10_keep 133 = .ok (.iconst 1, 1) := by decide +kernel
theorem dX10_keep_134 : decode cX10_keep 134 = .ok (.iadd, 1) := by decide +kernel
theorem dX10_keep_135 : decode cX10_keep 135 = .ok (.putfield 142, 3) := by decide +kernel
theorem dX10_keep_138 : decode cX10_keep 138 = .ok (.return_, 1) := by decide +kernel
set_option maxRecDepth 20000 in
theorem ggX10_goOn_X10_canMove : GoodIn wsX10_goOn wsX10_canMove := goodIn_r _ [10, 11, 12, 9, 13, 14, 15, 16, 17, 18, 19] (by decide +kernel) (by decide +kernel)
set_option maxRecDepth 20000 in
theorem gX10_goOn_X10_canMove : GoodIn wsX10_goOn (va_wsS RX10 153 yX10_canMove wsX10_canMove) := goodIn_app (goodIn_of _ (by decide +kernel)) ggX10_goOn_X10_canMove
set_option maxRecDepth 20000 in
theorem ggX10_goOn_X10_copy : GoodIn wsX10_goOn wsX10_copy := goodIn_r _ [22] (by decide +kernel) (by decide +kernel)
set_option maxRecDepth 20000 in
theorem gX10_goOn_X10_copy : GoodIn wsX10_goOn (va_wsS RX10 149 yX10_copy wsX10_copy) := goodIn_app (goodIn_of _ (by decide +kernel)) ggX10_goOn_X10_copy
set_option maxRecDepth 20000 in
theorem ggX10_goOn_X10_move : GoodIn wsX10_goOn wsX10_move := goodIn_r _ [25, 26, 27, 9, 28, 17, 18, 19] (by decide +kernel) (by decide +kernel)
set_option maxRecDepth 20000 in
theorem gX10_goOn_X10_move : GoodIn wsX10_goOn (va_wsS RX10 156 yX10_move wsX10_move) := goodIn_app (goodIn_of _ (by decide +kernel)) ggX10_goOn_X10_move
set_option maxRecDepth 20000 in
theorem ggX10_goOn_X10_goOn : GoodIn wsX10_goOn wsX10_goOn := goodIn_r _ [0, 1, 2, 3, 4, 5, 6, 7, 8, 9, 10, 11, 12, 13, 14, 15, 16, 17, 18, 19, 20, 21, 22, 23, 24, 25, 26, 27, 28, 29, 30, 31, 32, 33, 34, 35, 36, 37, 38, 39, 40, 41, 42, 43, 44, 45, 46, 47, 48, 49, 50, 51, 52, 53, 54, 55, 56, 57, 58, 59, 60, 61, 62, 63, 64, 65, 66, 67, 68, 69, 70, 71, 72, 73, 74, 75, 76, 77, 78, 79, 80, 81, 82, 83, 84, 85, 86, 87, 88, 89, 90, 91, 92, 93, 94, 95, 96, 97, 98, 99, 100, 101, 102, 103, 104, 105, 106, 107, 108, 109, 110, 111, 112, 113, 114] (by decide +kernel) (by decide +kernel)
set_option maxRecDepth 20000 in
theorem gX10_goOn_X10_goOn : GoodIn wsX10_goOn (wsV RX10 160 RX10 yX10_goOn wsX10_goOn) := goodIn_app (goodIn_of _ (by decide +kernel)) ggX10_goOn_X10_goOn
set_option maxRecDepth 20000 in
theorem ggX10_goOn_X10_end : GoodIn wsX10_goOn wsX10_end := goodIn_r _ [35, 36, 37, 38, 1, 2, 3, 4, 39, 40, 41, 42, 43, 44, 45, 9, 46, 47, 48, 49, 14, 15, 16, 17, 18, 19, 50, 51, 52, 53, 54, 55, 56, 57, 58, 59, 5, 60, 6, 20, 21, 22, 61, 62, 63, 64, 65, 66, 67, 68, 69, 70, 71, 72, 73, 74, 75, 76, 77, 78, 79, 80, 81, 82, 83, 84, 85, 86, 87, 88, 89, 90, 91, 92, 93, 94, 95, 96, 97, 98, 99, 100, 101, 102, 103, 104, 105, 106, 107, 108, 109, 110, 111, 112, 113, 114] (by decide +kernel) (by decide +kernel)
set_option maxRecDepth 20000 in
theorem gX10_goOn_X10_end : GoodIn wsX10_goOn (wsV RX10 164 RX10 yX10_end wsX10_end) := goodIn_app (goodIn_of _ (by decide +kernel)) ggX10_goOn_X10_end
theorem dX10_goOn_0 : decode cX10_goOn 0 = .ok (.iconst 1, 1) := by decide +kernel
theorem dX10_goOn_1 : decode cX10_goOn 1 = .ok (.istore 4, 2) := by decide +kernel
theorem dX10_goOn_3 : decode cX10_goOn 3 = .ok (.bipush 52, 2) := by decide +kernel
theorem dX10_goOn_5 : decode cX10_goOn 5 = .ok (.iload_n 1, 1) := by decide +kernel
theorem dX10_goOn_6 : decode cX10_goOn 6 = .ok (.imul, 1) := by decide +kernel
theorem dX10_goOn_7 : decode cX10_goOn 7 = .ok (.istore 5, 2) := by decide +kernel
theorem dX10_goOn_9 : decode cX10_goOn 9 = .ok (.iconst 0, 1) := by decide +kernel
theorem dX10_goOn_10 : decode cX10_goOn 10 = .ok (.istore 6, 2) := by decide +kernel
theorem dX10_goOn_12 : decode cX10_goOn 12 = .ok (.iload 6, 2) := by decide +kernel
theorem dX10_goOn_14 : decode cX10_goOn 14 = .ok (.iconst 2, 1) := by decide +kernel
theorem dX10_goOn_15 : decode cX10_goOn 15 = .ok (.if_icmp .ge 209, 3) := by decide +kernel
theorem dX10_goOn_18 : decode cX10_goOn 18 = .ok (.aload_n 0, 1) := by decide +kernel
theorem dX10_goOn_19 : decode cX10_goOn 19 = .ok (.getfield 119, 3) := by decide +kernel
theorem dX10_goOn_22 : decode cX10_goOn 22 = .ok (.aload_n 0, 1) := by decide +kernel
theorem dX10_goOn_23 : decode cX10_goOn 23 = .ok (.getfield 122, 3) := by decide +kernel
theorem dX10_goOn_26 : decode cX10_goOn 26 = .ok (.if_icmp .ne 21, 3) := by decide +kernel
theorem dX10_goOn_29 : decode cX10_goOn 29 = .ok (.iload 6, 2) := by decide +kernel
theorem dX10_goOn_31 : decode cX10_goOn 31 = .ok (.ifCond .ne 12, 3) := by decide +kernel
theorem dX10_goOn_34 : decode cX10_goOn 34 = .ok (.iload_n 1, 1) := by decide +kernel
theorem dX10_goOn_35 : decode cX10_goOn 35 = .ok (.iconst 4, 1) := by decide +kernel
theorem dX10_goOn_36 : decode cX10_goOn 36 = .ok (.if_icmp .ge 7, 3) := by decide +kernel
theorem dX10_goOn_39 : decode cX10_goOn 39 = .ok (.iconst 1, 1) := by decide +kernel
theorem dX10_goOn_40 : decode cX10_goOn 40 = .ok (.goto 22, 3) := by decide +kernel
theorem dX10_goOn_43 : decode cX10_goOn 43 = .ok (.iconst 0, 1) := by decide +kernel
theorem dX10_goOn_44 : decode cX10_goOn 44 = .ok (.goto 18, 3) := by decide +kernel
theorem dX10_goOn_47 : decode cX10_goOn 47 = .ok (.iload_n 2, 1) := by decide +kernel
theorem dX10_goOn_48 : decode cX10_goOn 48 = .ok (.iload 6, 2) := by decide +kernel
theorem dX10_goOn_50 : decode cX10_goOn 50 = .ok (.ishr, 1) := by decide +kernel
theorem dX10_goOn_51 : decode cX10_goOn 51 = .ok (.iconst 1, 1) := by decide +kernel
theorem dX10_goOn_52 : decode cX10_goOn 52 = .ok (.iand, 1) := by decide +kernel
theorem dX10_goOn_53 : decode cX10_goOn 53 = .ok (.iconst 1, 1) := by decide +kernel
theorem dX10_goOn_54 : decode cX10_goOn 54 = .ok (.if_icmp .ne 7, 3) := by decide +kernel
theorem dX10_goOn_57 : decode cX10_goOn 57 = .ok (.iconst 1, 1) := by decide +kernel
theorem dX10_goOn_58 : decode cX10_goOn 58 = .ok (.goto 4, 3) := by decide +kernel
theorem dX10_goOn_61 : decode cX10_goOn 61 = .ok (.iconst 0, 1) := by decide +kernel
theorem dX10_goOn_62 : decode cX10_goOn 62 = .ok (.istore 7, 2) := by decide +kernel
theorem dX10_goOn_64 : decode cX10_goOn 64 = .ok (.iload 6, 2) := by decide +kernel
theorem dX10_goOn_66 : decode cX10_goOn 66 = .ok (.ifCond .ne 10, 3) := by decide +kernel
theorem dX10_goOn_69 : decode cX10_goOn 69 = .ok (.aload_n 0, 1) := by decide +kernel
theorem dX10_goOn_70 : decode cX10_goOn 70 = .ok (.getfield 119, 3) := by decide +kernel
theorem dX10_goOn_73 : decode cX10_goOn 73 = .ok (.goto 7, 3) := by decide +kernel
theorem dX10_goOn_76 : decode cX10_goOn 76 = .ok (.aload_n 0, 1) := by decide +kernel
theorem dX10_goOn_77 : decode cX10_goOn 77 = .ok (.getfield 122, 3) := by decide +kernel
theorem dX10_goOn_80 : decode cX10_goOn 80 = .ok (.istore 8, 2) := by decide +kernel
theorem dX10_goOn_82 : decode cX10_goOn 82 = .ok (.bipush 25, 2) := by decide +kernel
theorem dX10_goOn_84 : decode cX10_goOn 84 = .ok (.istore 9, 2) := by decide +kernel
theorem dX10_goOn_86 : decode cX10_goOn 86 = .ok (.iload 7, 2) := by decide +kernel
theorem dX10_goOn_88 : decode cX10_goOn 88 = .ok (.ifCond .eq 130, 3) := by decide +kernel
theorem dX10_goOn_91 : decode cX10_goOn 91 = .ok (.iload 9, 2) := by decide +kernel
theorem dX10_goOn_93 : decode cX10_goOn 93 = .ok (.ifCond .le 125, 3) := by decide +kernel
theorem dX10_goOn_96 : decode cX10_goOn 96 = .ok (.aload_n 0, 1) := by decide +kernel
theorem dX10_goOn_97 : decode cX10_goOn 97 = .ok (.getfield 52, 3) := by decide +kernel
theorem dX10_goOn_100 : decode cX10_goOn 100 = .ok (.iload 5, 2) := by decide +kernel
theorem dX10_goOn_102 : decode cX10_goOn 102 = .ok (.aload_n 0, 1) := by decide +kernel
theorem dX10_goOn_103 : decode cX10_goOn 103 = .ok (.getfield 125, 3) := by decide +kernel
theorem dX10_goOn_106 : decode cX10_goOn 106 = .ok (.iload 9, 2) := by decide +kernel
theorem dX10_goOn_108 : decode cX10_goOn 108 = .ok (.iload 8, 2) := by decide +kernel
theorem dX10_goOn_110 : decode cX10_goOn 110 = .ok (.invokestatic 153, 3) := by decide +kernel
theorem dX10_goOn_113 : decode cX10_goOn 113 = .ok (.ifCond .eq 99, 3) := by decide +kernel
theorem dX10_goOn_116 : decode cX10_goOn 116 = .ok (.iconst 0, 1) := by decide +kernel
theorem dX10_goOn_117 : decode cX10_goOn 117 = .ok (.istore 4, 2) := by decide +kernel
theorem dX10_goOn_119 : decode cX10_goOn 119 = .ok (.aload_n 0, 1) := by decide +kernel
theorem dX10_goOn_120 : decode cX10_goOn 120 = .ok (.getfield 52, 3) := by decide +kernel
theorem dX10_goOn_123 : decode cX10_goOn 123 = .ok (.iload 5, 2) := by decide +kernel
theorem dX10_goOn_125 : decode cX10_goOn 125 = .ok (.aload_n 0, 1) := by decide +kernel
theorem dX10_goOn_126 : decode cX10_goOn 126 = .ok (.getfield 52, 3) := by decide +kernel
theorem dX10_goOn_129 : decode cX10_goOn 129 = .ok (.iload 5, 2) := by decide +kernel
theorem dX10_goOn_131 : decode cX10_goOn 131 = .ok (.bipush 52, 2) := by decide +kernel
theorem dX10_goOn_133 : decode cX10_goOn 133 = .ok (.iadd, 1) := by decide +kernel
theorem dX10_goOn_134 : decode cX10_goOn 134 = .ok (.invokestatic 149, 3) := by decide +kernel
theorem dX10_goOn_137 : decode cX10_goOn 137 = .ok (.aload_n 0, 1) := by decide +kernel
theorem dX10_goOn_138 : decode cX10_goOn 138 = .ok (.getfield 52, 3) := by decide +kernel
theorem dX10_goOn_141 : decode cX10_goOn 141 = .ok (.iload 5, 2) := by decide +kernel
theorem dX10_goOn_143 : decode cX10_goOn 143 = .ok (.bipush 52, 2) := by decide +kernel
theorem dX10_goOn_145 : decode cX10_goOn 145 = .ok (.iadd, 1) := by decide +kernel
theorem dX10_goOn_146 : decode cX10_goOn 146 = .ok (.aload_n 0, 1) := by decide +kernel
theorem dX10_goOn_147 : decode cX10_goOn 147 = .ok (.getfield 125, 3) := by decide +kernel
theorem dX10_goOn_150 : decode cX10_goOn 150 = .ok (.iload 9, 2) := by decide +kernel
theorem dX10_goOn_152 : decode cX10_goOn 152 = .ok (.iload 8, 2) := by decide +kernel
theorem dX10_goOn_154 : decode cX10_goOn 154 = .ok (.invokestatic 156, 3) := by decide +kernel
theorem dX10_goOn_157 : decode cX10_goOn 157 = .ok (.aload_n 0, 1) := by decide +kernel
theorem dX10_goOn_158 : decode cX10_goOn 158 = .ok (.getfield 55, 3) := by decide +kernel
theorem dX10_goOn_161 : decode cX10_goOn 161 = .ok (.iload_n 1, 1) := by decide +kernel
theorem dX10_goOn_162 : decode cX10_goOn 162 = .ok (.iload 9, 2) := by decide +kernel
theorem dX10_goOn_164 : decode cX10_goOn 164 = .ok (.iastore, 1) := by decide +kernel
theorem dX10_goOn_165 : decode cX10_goOn 165 = .ok (.aload_n 0, 1) := by decide +kernel
theorem dX10_goOn_166 : decode cX10_goOn 166 = .ok (.getfield 58, 3) := by decide +kernel
theorem dX10_goOn_169 : decode cX10_goOn 169 = .ok (.iload_n 1, 1) := by decide +kernel
theorem dX10_goOn_170 : decode cX10_goOn 170 = .ok (.iload 9, 2) := by decide +kernel
theorem dX10_goOn_172 : decode cX10_goOn 172 = .ok (.iload 8, 2) := by decide +kernel
theorem dX10_goOn_174 : decode cX10_goOn 174 = .ok (.if_icmp .le 11, 3) := by decide +kernel
theorem dX10_goOn_177 : decode cX10_goOn 177 = .ok (.iload 9, 2) := by decide +kernel
theorem dX10_goOn_179 : decode cX10_goOn 179 = .ok (.iload 8, 2) := by decide +kernel
theorem dX10_goOn_181 : decode cX10_goOn 181 = .ok (.isub, 1) := by decide +kernel
theorem dX10_goOn_182 : decode cX10_goOn 182 = .ok (.goto 4, 3) := by decide +kernel
theorem dX10_goOn_185 : decode cX10_goOn 185 = .ok (.iconst 0, 1) := by decide +kernel
theorem dX10_goOn_186 : decode cX10_goOn 186 = .ok (.iastore, 1) := by decide +kernel
theorem dX10_goOn_187 : decode cX10_goOn 187 = .ok (.aload_n 0, 1) := by decide +kernel
theorem dX10_goOn_188 : decode cX10_goOn 188 = .ok (.iload_n 1, 1) := by decide +kernel
theorem dX10_goOn_189 : decode cX10_goOn 189 = .ok (.iconst 1, 1) := by decide +kernel
theorem dX10_goOn_190 : decode cX10_goOn 190 = .ok (.iadd, 1) := by decide +kernel
theorem dX10_goOn_191 : decode cX10_goOn 191 = .ok (.iload_n 2, 1) := by decide +kernel
theorem dX10_goOn_192 : decode cX10_goOn 192 = .ok (.iconst 1, 1) := by decide +kernel
theorem dX10_goOn_193 : decode cX10_goOn 193 = .ok (.iload 6, 2) := by decide +kernel
theorem dX10_goOn_195 : decode cX10_goOn 195 = .ok (.ishl, 1) := by decide +kernel
theorem dX10_goOn_196 : decode cX10_goOn 196 = .ok (.iconst (-1), 1) := by decide +kernel
theorem dX10_goOn_197 : decode cX10_goOn 197 = .ok (.ixor, 1) := by decide +kernel
theorem dX10_goOn_198 : decode cX10_goOn 198 = .ok (.iand, 1) := by decide +kernel
theorem dX10_goOn_199 : decode cX10_goOn 199 = .ok (.iload_n 1, 1) := by decide +kernel
theorem dX10_goOn_200 : decode cX10_goOn 200 = .ok (.ifCond .ne 8, 3) := by decide +kernel
theorem dX10_goOn_203 : decode cX10_goOn 203 = .ok (.iload 8, 2) := by decide +kernel
theorem dX10_goOn_205 : decode cX10_goOn 205 = .ok (.goto 4, 3) := by decide +kernel
theorem dX10_goOn_208 : decode cX10_goOn 208 = .ok (.iload_n 3, 1) := by decide +kernel
theorem dX10_goOn_209 : decode cX10_goOn 209 = .ok (.invokevirtual 160, 3) := by decide +kernel
theorem dX10_goOn_212 : decode cX10_goOn 212 = .ok (.iinc 9 (-1), 3) := by decide +kernel
theorem dX10_goOn_215 : decode cX10_goOn 215 = .ok (.goto (-129), 3) := by decide +kernel
theorem dX10_goOn_218 : decode cX10_goOn 218 = .ok (.iinc 6 1, 3) := by decide +kernel
theorem dX10_goOn_221 : decode cX10_goOn 221 = .ok (.goto (-209), 3) := by decide +kernel
theorem dX10_goOn_224 : decode cX10_goOn 224 = .ok (.iload 4, 2) := by decide +kernel
theorem dX10_goOn_226 : decode cX10_goOn 226 = .ok (.ifCond .eq 9, 3) := by decide +kernel
theorem dX10_goOn_229 : decode cX10_goOn 229 = .ok (.aload_n 0, 1) := by decide +kernel
theorem dX10_goOn_230 : decode cX10_goOn 230 = .ok (.iload_n 1, 1) := by decide +kernel
theorem dX10_goOn_231 : decode cX10_goOn 231 = .ok (.iload_n 3, 1) := by decide +kernel
theorem dX10_goOn_232 : decode cX10_goOn 232 = .ok (.invokevirtual 164, 3) := by decide +kernel
theorem dX10_goOn_235 : decode cX10_goOn 235 = .ok (.return_, 1) := by decide +kernel
set_option maxRecDepth 20000 in
theorem ggX10_find_X10_copy : GoodIn wsX10_find wsX10_copy := goodIn_r _ [14] (by decide +kernel) (by decide +kernel)
set_option maxRecDepth 20000 in
theorem gX10_find_X10_copy : GoodIn wsX10_find (va_wsS RX10 149 yX10_copy wsX10_copy) := goodIn_app (goodIn_of _ (by decide +kernel)) ggX10_find_X10_copy
set_option maxRecDepth 20000 in
theorem ggX10_find_X10_goOn : GoodIn wsX10_find wsX10_goOn := goodIn_r _ [18, 2, 3, 4, 1, 19, 20, 21, 22, 13, 23, 24, 25, 26, 27, 28, 29, 30, 31, 32, 11, 12, 14, 33, 34, 35, 36, 37, 38, 15, 16, 17, 39, 40, 41, 42, 5, 6, 7, 8, 43, 10, 44, 9, 45, 46, 47, 48, 49, 50, 51, 52, 53, 54, 55, 56, 57, 58, 59, 60, 61, 62, 63, 64, 65, 66, 67, 68, 69, 70, 71, 72, 73, 74, 75, 76, 77, 78, 79, 80, 81, 82, 83, 84, 85, 86, 87, 88, 89, 90, 91, 92, 93, 94, 95, 96, 97, 98, 99, 100, 101, 102, 103, 104, 105, 106, 107, 108, 109, 110, 111, 112, 113, 114, 115] (by decide +kernel) (by decide +kernel)
set_option maxRecDepth 20000 in
theorem gX10_find_X10_goOn : GoodIn wsX10_find (wsV RX10 160 RX10 yX10_goOn wsX10_goOn) := goodIn_app (goodIn_of _ (by decide +kernel)) ggX10_find_X10_goOn
theorem dX10_find_0 : decode cX10_find 0 = .ok (.aload_n 0, 1) := by decide +kernel
theorem dX10_find_1 : decode cX10_find 1 = .ok (.iload 4, 2) := by decide +kernel
theorem dX10_find_3 : decode cX10_find 3 = .ok (.putfield 125, 3) := by decide +kernel
theorem dX10_find_6 : decode cX10_find 6 = .ok (.aload_n 0, 1) := by decide +kernel
theorem dX10_find_7 : decode cX10_find 7 = .ok (.iload 5, 2) := by decide +kernel
theorem dX10_find_9 : decode cX10_find 9 = .ok (.iload 6, 2) := by decide +kernel
theorem dX10_find_11 : decode cX10_find 11 = .ok (.if_icmp .le 8, 3) := by decide +kernel
theorem dX10_find_14 : decode cX10_find 14 = .ok (.iload 5, 2) := by decide +kernel
theorem dX10_find_16 : decode cX10_find 16 = .ok (.goto 5, 3) := by decide +kernel
theorem dX10_find_19 : decode cX10_find 19 = .ok (.iload 6, 2) := by decide +kernel
theorem dX10_find_21 : decode cX10_find 21 = .ok (.putfield 119, 3) := by decide +kernel
theorem dX10_find_24 : decode cX10_find 24 = .ok (.aload_n 0, 1) := by decide +kernel
theorem dX10_find_25 : decode cX10_find 25 = .ok (.iload 5, 2) := by decide +kernel
theorem dX10_find_27 : decode cX10_find 27 = .ok (.iload 6, 2) := by decide +kernel
theorem dX10_find_29 : decode cX10_find 29 = .ok (.if_icmp .le 8, 3) := by decide +kernel
theorem dX10_find_32 : decode cX10_find 32 = .ok (.iload 6, 2) := by decide +kernel
theorem dX10_find_34 : decode cX10_find 34 = .ok (.goto 5, 3) := by decide +kernel
theorem dX10_find_37 : decode cX10_find 37 = .ok (.iload 5, 2) := by decide +kernel
theorem dX10_find_39 : decode cX10_find 39 = .ok (.putfield 122, 3) := by decide +kernel
theorem dX10_find_42 : decode cX10_find 42 = .ok (.aload_n 2, 1) := by decide +kernel
theorem dX10_find_43 : decode cX10_find 43 = .ok (.iload_n 3, 1) := by decide +kernel
theorem dX10_find_44 : decode cX10_find 44 = .ok (.aload_n 0, 1) := by decide +kernel
theorem dX10_find_45 : decode cX10_find 45 = .ok (.getfield 52, 3) := by decide +kernel
theorem dX10_find_48 : decode cX10_find 48 = .ok (.iconst 0, 1) := by decide +kernel
theorem dX10_find_49 : decode cX10_find 49 = .ok (.invokestatic 149, 3) := by decide +kernel
theorem dX10_find_52 : decode cX10_find 52 = .ok (.aload_n 0, 1) := by decide +kernel
theorem dX10_find_53 : decode cX10_find 53 = .ok (.bipush 109, 2) := by decide +kernel
theorem dX10_find_55 : decode cX10_find 55 = .ok (.putfield 110, 3) := by decide +kernel
theorem dX10_find_58 : decode cX10_find 58 = .ok (.aload_n 0, 1) := by decide +kernel
theorem dX10_find_59 : decode cX10_find 59 = .ok (.iconst 0, 1) := by decide +kernel
theorem dX10_find_60 : decode cX10_find 60 = .ok (.putfield 113, 3) := by decide +kernel
theorem dX10_find_63 : decode cX10_find 63 = .ok (.aload_n 0, 1) := by decide +kernel
theorem dX10_find_64 : decode cX10_find 64 = .ok (.iconst 0, 1) := by decide +kernel
theorem dX10_find_65 : decode cX10_find 65 = .ok (.putfield 116, 3) := by decide +kernel
theorem dX10_find_68 : decode cX10_find 68 = .ok (.aload_n 0, 1) := by decide +kernel
theorem dX10_find_69 : decode cX10_find 69 = .ok (.iconst 0, 1) := by decide +kernel
theorem dX10_find_70 : decode cX10_find 70 = .ok (.iconst 3, 1) := by decide +kernel
theorem dX10_find_71 : decode cX10_find 71 = .ok (.iconst 0, 1) := by decide +kernel
theorem dX10_find_72 : decode cX10_find 72 = .ok (.invokevirtual 160, 3) := by decide +kernel
theorem dX10_find_75 : decode cX10_find 75 = .ok (.aload_n 0, 1) := by decide +kernel
theorem dX10_find_76 : decode cX10_find 76 = .ok (.iload_n 1, 1) := by decide +kernel
theorem dX10_find_77 : decode cX10_find 77 = .ok (.putfield 110, 3) := by decide +kernel
theorem dX10_find_80 : decode cX10_find 80 = .ok (.aload_n 0, 1) := by decide +kernel
theorem dX10_find_81 : decode cX10_find 81 = .ok (.iconst 0, 1) := by decide +kernel
theorem dX10_find_82 : decode cX10_find 82 = .ok (.putfield 131, 3) := by decide +kernel
theorem dX10_find_85 : decode cX10_find 85 = .ok (.iload_n 1, 1) := by decide +kernel
theorem dX10_find_86 : decode cX10_find 86 = .ok (.bipush 112, 2) := by decide +kernel
theorem dX10_find_88 : decode cX10_find 88 = .ok (.if_icmp .ne 33, 3) := by decide +kernel
theorem dX10_find_91 : decode cX10_find 91 = .ok (.aload_n 0, 1) := by decide +kernel
theorem dX10_find_92 : decode cX10_find 92 = .ok (.iconst 0, 1) := by decide +kernel
theorem dX10_find_93 : decode cX10_find 93 = .ok (.putfield 142, 3) := by decide +kernel
theorem dX10_find_96 : decode cX10_find 96 = .ok (.iconst 0, 1) := by decide +kernel
theorem dX10_find_97 : decode cX10_find 97 = .ok (.istore 7, 2) := by decide +kernel
theorem dX10_find_99 : decode cX10_find 99 = .ok (.iload 7, 2) := by decide +kernel
theorem dX10_find_101 : decode cX10_find 101 = .ok (.sipush 16384, 3) := by decide +kernel
theorem dX10_find_104 : decode cX10_find 104 = .ok (.if_icmp .ge 17, 3) := by decide +kernel
theorem dX10_find_107 : decode cX10_find 107 = .ok (.aload_n 0, 1) := by decide +kernel
theorem dX10_find_108 : decode cX10_find 108 = .ok (.getfield 49, 3) := by decide +kernel
theorem dX10_find_111 : decode cX10_find 111 = .ok (.iload 7, 2) := by decide +kernel
theorem dX10_find_113 : decode cX10_find 113 = .ok (.iconst 0, 1) := by decide +kernel
theorem dX10_find_114 : decode cX10_find 114 = .ok (.iastore, 1) := by decide +kernel
theorem dX10_find_115 : decode cX10_find 115 = .ok (.iinc 7 1, 3) := by decide +kernel
theorem dX10_find_118 : decode cX10_find 118 = .ok (.goto (-19), 3) := by decide +kernel
theorem dX10_find_121 : decode cX10_find 121 = .ok (.aload_n 0, 1) := by decide +kernel
theorem dX10_find_122 : decode cX10_find 122 = .ok (.iconst 0, 1) := by decide +kernel
theorem dX10_find_123 : decode cX10_find 123 = .ok (.iconst 3, 1) := by decide +kernel
theorem dX10_find_124 : decode cX10_find 124 = .ok (.iconst 0, 1) := by decide +kernel
theorem dX10_find_125 : decode cX10_find 125 = .ok (.invokevirtual 160, 3) := by decide +kernel
theorem dX10_find_128 : decode cX10_find 128 = .ok (.return_, 1) := by decide +kernel
set_option maxRecDepth 20000 in
theorem ggX10_worthBehind_X10_worth : GoodIn wsX10_worthBehind wsX10_worth := goodIn_r _ [6, 7, 8, 5, 9, 10, 11, 12, 13, 14, 15] (by decide +kernel) (by decide +kernel)
set_option maxRecDepth 20000 in
theorem gX10_worthBehind_X10_worth : GoodIn wsX10_worthBehind (va_wsS RX10 128 yX10_worth wsX10_worth) := goodIn_app (goodIn_of _ (by decide +kernel)) ggX10_worthBehind_X10_worth
theorem dX10_worthBehind_0 : decode cX10_worthBehind 0 = .ok (.aload_n 0, 1) := by decide +kernel
theorem dX10_worthBehind_1 : decode cX10_worthBehind 1 = .ok (.getfield 34, 3) := by decide +kernel
theorem dX10_worthBehind_4 : decode cX10_worthBehind 4 = .ok (.bipush 52, 2) := by decide +kernel
theorem dX10_worthBehind_6 : decode cX10_worthBehind 6 = .ok (.iload_n 1, 1) := by decide +kernel
theorem dX10_worthBehind_7 : decode cX10_worthBehind 7 = .ok (.imul, 1) := by decide +kernel
theorem dX10_worthBehind_8 : decode cX10_worthBehind 8 = .ok (.aload_n 0, 1) := by decide +kernel
theorem dX10_worthBehind_9 : decode cX10_worthBehind 9 = .ok (.getfield 168, 3) := by decide +kernel
theorem dX10_worthBehind_12 : decode cX10_worthBehind 12 = .ok (.invokestatic 128, 3) := by decide +kernel
theorem dX10_worthBehind_15 : decode cX10_worthBehind 15 = .ok (.ireturn, 1) := by decide +kernel
set_option maxRecDepth 20000 in
theorem ggX10_bestWorth_X10_worthBehind : GoodIn wsX10_bestWorth wsX10_worthBehind := goodIn_r _ [6, 7, 8, 9, 10, 5, 11, 12, 13, 14, 15, 16, 17, 18, 19, 20, 21, 22, 23, 24, 25, 26, 27, 28, 29, 30, 31, 32, 33, 34, 35, 36, 37, 38, 39, 40, 41, 42, 43, 44, 45, 46, 47, 48, 49, 50, 51, 52, 53, 54, 55, 56, 57, 58, 59, 60, 61, 62, 63, 64, 65, 66, 67, 68, 69, 70, 71, 72, 73, 74] (by decide +kernel) (by decide +kernel)
set_option maxRecDepth 20000 in
theorem gX10_bestWorth_X10_worthBehind : GoodIn wsX10_bestWorth (wsV RX10 171 RX10 yX10_worthBehind wsX10_worthBehind) := goodIn_app (goodIn_of _ (by decide +kernel)) ggX10_bestWorth_X10_worthBehind
theorem dX10_bestWorth_0 : decode cX10_bestWorth 0 = .ok (.aload_n 0, 1) := by decide +kernel
theorem dX10_bestWorth_1 : decode cX10_bestWorth 1 = .ok (.iconst 0, 1) := by decide +kernel
theorem dX10_bestWorth_2 : decode cX10_bestWorth 2 = .ok (.invokevirtual 171, 3) := by decide +kernel
theorem dX10_bestWorth_5 : decode cX10_bestWorth 5 = .ok (.istore_n 1, 1) := by decide +kernel
theorem dX10_bestWorth_6 : decode cX10_bestWorth 6 = .ok (.iconst 1, 1) := by decide +kernel
theorem dX10_bestWorth_7 : decode cX10_bestWorth 7 = .ok (.istore_n 2, 1) := by decide +kernel
theorem dX10_bestWorth_8 : decode cX10_bestWorth 8 = .ok (.iload_n 2, 1) := by decide +kernel
theorem dX10_bestWorth_9 : decode cX10_bestWorth 9 = .ok (.aload_n 0, 1) := by decide +kernel
theorem dX10_bestWorth_10 : decode cX10_bestWorth 10 = .ok (.getfield 142, 3) := by decide +kernel
theorem dX10_bestWorth_13 : decode cX10_bestWorth 13 = .ok (.if_icmp .ge 28, 3) := by decide +kernel
theorem dX10_bestWorth_16 : decode cX10_bestWorth 16 = .ok (.aload_n 0, 1) := by decide +kernel
theorem dX10_bestWorth_17 : decode cX10_bestWorth 17 = .ok (.iload_n 2, 1) := by decide +kernel
theorem dX10_bestWorth_18 : decode cX10_bestWorth 18 = .ok (.invokevirtual 171, 3) := by decide +kernel
theorem dX10_bestWorth_21 : decode cX10_bestWorth 21 = .ok (.iload_n 1, 1) := by decide +kernel
theorem dX10_bestWorth_22 : decode cX10_bestWorth 22 = .ok (.if_icmp .le 11, 3) := by decide +kernel
theorem dX10_bestWorth_25 : decode cX10_bestWorth 25 = .ok (.aload_n 0, 1) := by decide +kernel
theorem dX10_bestWorth_26 : decode cX10_bestWorth 26 = .ok (.iload_n 2, 1) := by decide +kernel
theorem dX10_bestWorth_27 : decode cX10_bestWorth 27 = .ok (.invokevirtual 171, 3) := by decide +kernel
theorem dX10_bestWorth_30 : decode cX10_bestWorth 30 = .ok (.goto 4, 3) := by decide +kernel
theorem dX10_bestWorth_33 : decode cX10_bestWorth 33 = .ok (.iload_n 1, 1) := by decide +kernel
theorem dX10_bestWorth_34 : decode cX10_bestWorth 34 = .ok (.istore_n 1, 1) := by decide +kernel
theorem dX10_bestWorth_35 : decode cX10_bestWorth 35 = .ok (.iinc 2 1, 3) := by decide +kernel
theorem dX10_bestWorth_38 : decode cX10_bestWorth 38 = .ok (.goto (-30), 3) := by decide +kernel
theorem dX10_bestWorth_41 : decode cX10_bestWorth 41 = .ok (.iload_n 1, 1) := by decide +kernel
theorem dX10_bestWorth_42 : decode cX10_bestWorth 42 = .ok (.ireturn, 1) := by decide +kernel
set_option maxRecDepth 20000 in
theorem ggX10_start_X10_in : GoodIn wsX10_start wsX10_in := goodIn_r _ [13] (by decide +kernel) (by decide +kernel)
set_option maxRecDepth 20000 in
theorem gX10_start_X10_in : GoodIn wsX10_start (va_wsS RX10 91 yX10_in wsX10_in) := goodIn_app (goodIn_of _ (by decide +kernel)) ggX10_start_X10_in
set_option maxRecDepth 20000 in
theorem ggX10_start_X10_fails : GoodIn wsX10_start wsX10_fails := goodIn_r _ [17, 18, 19, 20, 21, 22, 23, 24, 25, 26, 27, 28, 29, 30, 31, 32, 33, 34, 35, 36, 37, 38, 39, 40, 41, 42, 43, 44, 45, 46, 47, 48, 49, 50, 51, 52, 53, 54, 55, 56, 57, 58, 59, 60, 61, 62, 63, 64, 65, 66, 67, 68, 69, 70, 71, 72] (by decide +kernel) (by decide +kernel)
set_option maxRecDepth 20000 in
theorem gX10_start_X10_fails : GoodIn wsX10_start (wsV RX10 178 RX10 yX10_fails wsX10_fails) := goodIn_app (goodIn_of _ (by decide +kernel)) ggX10_start_X10_fails
theorem dX10_start_0 : decode cX10_start 0 = .ok (.iload_n 1, 1) := by decide +kernel
theorem dX10_start_1 : decode cX10_start 1 = .ok (.bipush 98, 2) := by decide +kernel
theorem dX10_start_3 : decode cX10_start 3 = .ok (.if_icmp .eq 15, 3) := by decide +kernel
theorem dX10_start_6 : decode cX10_start 6 = .ok (.iload_n 1, 1) := by decide +kernel
theorem dX10_start_7 : decode cX10_start 7 = .ok (.bipush 110, 2) := by decide +kernel
theorem dX10_start_9 : decode cX10_start 9 = .ok (.if_icmp .eq 9, 3) := by decide +kernel
theorem dX10_start_12 : decode cX10_start 12 = .ok (.iload_n 1, 1) := by decide +kernel
theorem dX10_start_13 : decode cX10_start 13 = .ok (.bipush 104, 2) := by decide +kernel
theorem dX10_start_15 : decode cX10_start 15 = .ok (.if_icmp .ne 17, 3) := by decide +kernel
theorem dX10_start_18 : decode cX10_start 18 = .ok (.iload_n 2, 1) := by decide +kernel
theorem dX10_start_19 : decode cX10_start 19 = .ok (.iconst 0, 1) := by decide +kernel
theorem dX10_start_20 : decode cX10_start 20 = .ok (.bipush 25, 2) := by decide +kernel
theorem dX10_start_22 : decode cX10_start 22 = .ok (.invokestatic 91, 3) := by decide +kernel
theorem dX10_start_25 : decode cX10_start 25 = .ok (.ifCond .eq 7, 3) := by decide +kernel
theorem dX10_start_28 : decode cX10_start 28 = .ok (.iconst 1, 1) := by decide +kernel
theorem dX10_start_29 : decode cX10_start 29 = .ok (.goto 4, 3) := by decide +kernel
theorem dX10_start_32 : decode cX10_start 32 = .ok (.iconst 0, 1) := by decide +kernel
theorem dX10_start_33 : decode cX10_start 33 = .ok (.istore 4, 2) := by decide +kernel
theorem dX10_start_35 : decode cX10_start 35 = .ok (.aload_n 0, 1) := by decide +kernel
theorem dX10_start_36 : decode cX10_start 36 = .ok (.iload 4, 2) := by decide +kernel
theorem dX10_start_38 : decode cX10_start 38 = .ok (.ifCond .ne 7, 3) := by decide +kernel
theorem dX10_start_41 : decode cX10_start 41 = .ok (.iconst 1, 1) := by decide +kernel
theorem dX10_start_42 : decode cX10_start 42 = .ok (.goto 28, 3) := by decide +kernel
theorem dX10_start_45 : decode cX10_start 45 = .ok (.aload_n 0, 1) := by decide +kernel
theorem dX10_start_46 : decode cX10_start 46 = .ok (.getfield 13, 3) := by decide +kernel
theorem dX10_start_49 : decode cX10_start 49 = .ok (.bipush 45, 2) := by decide +kernel
theorem dX10_start_51 : decode cX10_start 51 = .ok (.if_icmp .ne 14, 3) := by decide +kernel
theorem dX10_start_54 : decode cX10_start 54 = .ok (.aload_n 0, 1) := by decide +kernel
theorem dX10_start_55 : decode cX10_start 55 = .ok (.getfield 175, 3) := by decide +kernel
theorem dX10_start_58 : decode cX10_start 58 = .ok (.ifCond .le 11, 3) := by decide +kernel
theorem dX10_start_61 : decode cX10_start 61 = .ok (.iload_n 2, 1) := by decide +kernel
theorem dX10_start_62 : decode cX10_start 62 = .ok (.ifCond .le 7, 3) := by decide +kernel
theorem dX10_start_65 : decode cX10_start 65 = .ok (.iconst 2, 1) := by decide +kernel
theorem dX10_start_66 : decode cX10_start 66 = .ok (.goto 4, 3) := by decide +kernel
theorem dX10_start_69 : decode cX10_start 69 = .ok (.iconst 0, 1) := by decide +kernel
theorem dX10_start_70 : decode cX10_start 70 = .ok (.invokevirtual 178, 3) := by decide +kernel
theorem dX10_start_73 : decode cX10_start 73 = .ok (.ifCond .eq 5, 3) := by decide +kernel
theorem dX10_start_76 : decode cX10_start 76 = .ok (.iconst 0, 1) := by decide +kernel
theorem dX10_start_77 : decode cX10_start 77 = .ok (.ireturn, 1) := by decide +kernel
theorem dX10_start_78 : decode cX10_start 78 = .ok (.aload_n 0, 1) := by decide +kernel
theorem dX10_start_79 : decode cX10_start 79 = .ok (.iconst 1, 1) := by decide +kernel
theorem dX10_start_80 : decode cX10_start 80 = .ok (.putfield 182, 3) := by decide +kernel
theorem dX10_start_83 : decode cX10_start 83 = .ok (.aload_n 0, 1) := by decide +kernel
theorem dX10_start_84 : decode cX10_start 84 = .ok (.iload_n 1, 1) := by decide +kernel
theorem dX10_start_85 : decode cX10_start 85 = .ok (.putfield 185, 3) := by decide +kernel
theorem dX10_start_88 : decode cX10_start 88 = .ok (.aload_n 0, 1) := by decide +kernel
theorem dX10_start_89 : decode cX10_start 89 = .ok (.iload_n 2, 1) := by decide +kernel
theorem dX10_start_90 : decode cX10_start 90 = .ok (.putfield 188, 3) := by decide +kernel
theorem dX10_start_93 : decode cX10_start 93 = .ok (.aload_n 0, 1) := by decide +kernel
theorem dX10_start_94 : decode cX10_start 94 = .ok (.iload_n 3, 1) := by decide +kernel
theorem dX10_start_95 : decode cX10_start 95 = .ok (.putfield 191, 3) := by decide +kernel
theorem dX10_start_98 : decode cX10_start 98 = .ok (.aload_n 0, 1) := by decide +kernel
theorem dX10_start_99 : decode cX10_start 99 = .ok (.getfield 7, 3) := by decide +kernel
theorem dX10_start_102 : decode cX10_start 102 = .ok (.iconst 0, 1) := by decide +kernel
theorem dX10_start_103 : decode cX10_start 103 = .ok (.iconst 0, 1) := by decide +kernel
theorem dX10_start_104 : decode cX10_start 104 = .ok (.iastore, 1) := by decide +kernel
theorem dX10_start_105 : decode cX10_start 105 = .ok (.aload_n 0, 1) := by decide +kernel
theorem dX10_start_106 : decode cX10_start 106 = .ok (.getfield 7, 3) := by decide +kernel
theorem dX10_start_109 : decode cX10_start 109 = .ok (.iconst 1, 1) := by decide +kernel
theorem dX10_start_110 : decode cX10_start 110 = .ok (.iconst 0, 1) := by decide +kernel
theorem dX10_start_111 : decode cX10_start 111 = .ok (.iastore, 1) := by decide +kernel
theorem dX10_start_112 : decode cX10_start 112 = .ok (.aload_n 0, 1) := by decide +kernel
theorem dX10_start_113 : decode cX10_start 113 = .ok (.iconst 0, 1) := by decide +kernel
theorem dX10_start_114 : decode cX10_start 114 = .ok (.putfield 194, 3) := by decide +kernel
theorem dX10_start_117 : decode cX10_start 117 = .ok (.aload_n 0, 1) := by decide +kernel
theorem dX10_start_118 : decode cX10_start 118 = .ok (.iconst 0, 1) := by decide +kernel
theorem dX10_start_119 : decode cX10_start 119 = .ok (.putfield 197, 3) := by decide +kernel
theorem dX10_start_122 : decode cX10_start 122 = .ok (.iload_n 1, 1) := by decide +kernel
theorem dX10_start_123 : decode cX10_start 123 = .ok (.bipush 104, 2) := by decide +kernel
theorem dX10_start_125 : decode cX10_start 125 = .ok (.if_icmp .ne 7, 3) := by decide +kernel
theorem dX10_start_128 : decode cX10_start 128 = .ok (.iconst 3, 1) := by decide +kernel
theorem dX10_start_129 : decode cX10_start 129 = .ok (.goto 5, 3) := by decide +kernel
theorem dX10_start_132 : decode cX10_start 132 = .ok (.bipush 15, 2) := by decide +kernel
theorem dX10_start_134 : decode cX10_start 134 = .ok (.ireturn, 1) := by decide +kernel
theorem dX10_isDone_0 : decode cX10_isDone 0 = .ok (.aload_n 0, 1) := by decide +kernel
theorem dX10_isDone_1 : decode cX10_isDone 1 = .ok (.getfield 188, 3) := by decide +kernel
theorem dX10_isDone_4 : decode cX10_isDone 4 = .ok (.ifCond .le 33, 3) := by decide +kernel
theorem dX10_isDone_7 : decode cX10_isDone 7 = .ok (.aload_n 0, 1) := by decide +kernel
theorem dX10_isDone_8 : decode cX10_isDone 8 = .ok (.getfield 7, 3) := by decide +kernel
theorem dX10_isDone_11 : decode cX10_isDone 11 = .ok (.iconst 0, 1) := by decide +kernel
theorem dX10_isDone_12 : decode cX10_isDone 12 = .ok (.iaload, 1) := by decide +kernel
theorem dX10_isDone_13 : decode cX10_isDone 13 = .ok (.aload_n 0, 1) := by decide +kernel
theorem dX10_isDone_14 : decode cX10_isDone 14 = .ok (.getfield 188, 3) := by decide +kernel
theorem dX10_isDone_17 : decode cX10_isDone 17 = .ok (.if_icmp .ge 16, 3) := by decide +kernel
theorem dX10_isDone_20 : decode cX10_isDone 20 = .ok (.aload_n 0, 1) := by decide +kernel
theorem dX10_isDone_21 : decode cX10_isDone 21 = .ok (.getfield 7, 3) := by decide +kernel
theorem dX10_isDone_24 : decode cX10_isDone 24 = .ok (.iconst 1, 1) := by decide +kernel
theorem dX10_isDone_25 : decode cX10_isDone 25 = .ok (.iaload, 1) := by decide +kernel
theorem dX10_isDone_26 : decode cX10_isDone 26 = .ok (.aload_n 0, 1) := by decide +kernel
theorem dX10_isDone_27 : decode cX10_isDone 27 = .ok (.getfield 188, 3) := by decide +kernel
theorem dX10_isDone_30 : decode cX10_isDone 30 = .ok (.if_icmp .lt 7, 3) := by decide +kernel
theorem dX10_isDone_33 : decode cX10_isDone 33 = .ok (.iconst 1, 1) := by decide +kernel
theorem dX10_isDone_34 : decode cX10_isDone 34 = .ok (.goto 4, 3) := by decide +kernel
theorem dX10_isDone_37 : decode cX10_isDone 37 = .ok (.iconst 0, 1) := by decide +kernel
theorem dX10_isDone_38 : decode cX10_isDone 38 = .ok (.ireturn, 1) := by decide +kernel
theorem dX10_place_0 : decode cX10_place 0 = .ok (.aload_n 0, 1) := by decide +kernel
theorem dX10_place_1 : decode cX10_place 1 = .ok (.getfield 17, 3) := by decide +kernel
theorem dX10_place_4 : decode cX10_place 4 = .ok (.iload_n 1, 1) := by decide +kernel
theorem dX10_place_5 : decode cX10_place 5 = .ok (.iload_n 2, 1) := by decide +kernel
theorem dX10_place_6 : decode cX10_place 6 = .ok (.iastore, 1) := by decide +kernel
theorem dX10_place_7 : decode cX10_place 7 = .ok (.aload_n 0, 1) := by decide +kernel
theorem dX10_place_8 : decode cX10_place 8 = .ok (.getfield 17, 3) := by decide +kernel
theorem dX10_place_11 : decode cX10_place 11 = .ok (.bipush 26, 2) := by decide +kernel
theorem dX10_place_13 : decode cX10_place 13 = .ok (.iload_n 1, 1) := by decide +kernel
theorem dX10_place_14 : decode cX10_place 14 = .ok (.iadd, 1) := by decide +kernel
theorem dX10_place_15 : decode cX10_place 15 = .ok (.iload_n 2, 1) := by decide +kernel
theorem dX10_place_16 : decode cX10_place 16 = .ok (.iastore, 1) := by decide +kernel
theorem dX10_place_17 : decode cX10_place 17 = .ok (.return_, 1) := by decide +kernel
set_option maxRecDepth 20000 in
theorem ggX10_begin_X10_in : GoodIn wsX10_begin wsX10_in := goodIn_r _ [14] (by decide +kernel) (by decide +kernel)
set_option maxRecDepth 20000 in
theorem gX10_begin_X10_in : GoodIn wsX10_begin (va_wsS RX10 91 yX10_in wsX10_in) := goodIn_app (goodIn_of _ (by decide +kernel)) ggX10_begin_X10_in
set_option maxRecDepth 20000 in
theorem ggX10_begin_X10_isDone : GoodIn wsX10_begin wsX10_isDone := goodIn_r _ [18, 19, 20, 30, 31, 32, 33, 34, 35, 36, 37, 38, 39, 40, 41, 42, 43, 44, 45, 46, 47, 48, 49, 50, 51, 52, 53, 54, 55, 56, 57, 58, 59, 60, 61, 62, 63, 64, 65, 66, 67, 68, 69, 70, 71, 72, 73, 74, 75, 76, 77, 78, 79, 80, 81, 82, 83] (by decide +kernel) (by decide +kernel)
set_option maxRecDepth 20000 in
theorem gX10_begin_X10_isDone : GoodIn wsX10_begin (wsV RX10 200 RX10 yX10_isDone wsX10_isDone) := goodIn_app (goodIn_of _ (by decide +kernel)) ggX10_begin_X10_isDone
set_option maxRecDepth 20000 in
theorem ggX10_begin_X10_fails : GoodIn wsX10_begin wsX10_fails := goodIn_r _ [24, 25, 30, 31, 32, 33, 34, 35, 36, 37, 38, 39, 40, 41, 42, 43, 44, 45, 46, 47, 48, 49, 50, 51, 52, 53, 54, 55, 56, 57, 58, 59, 60, 61, 62, 63, 64, 65, 66, 67, 68, 69, 70, 71, 72, 73, 74, 75, 76, 77, 78, 79, 80, 81, 82, 83] (by decide +kernel) (by decide +kernel)
set_option maxRecDepth 20000 in
theorem gX10_begin_X10_fails : GoodIn wsX10_begin (wsV RX10 178 RX10 yX10_fails wsX10_fails) := goodIn_app (goodIn_of _ (by decide +kernel)) ggX10_begin_X10_fails
set_option maxRecDepth 20000 in
theorem ggX10_begin_X10_place : GoodIn wsX10_begin wsX10_place := goodIn_r _ [29, 3, 30, 31, 32, 33, 34, 35, 36, 37, 38, 39, 40, 41, 42, 43, 44, 45, 46, 47, 48, 49, 50, 51, 52, 53, 54, 55, 56, 57, 58, 59, 60, 61, 62, 63, 64, 65, 66, 67, 68, 69, 70, 71, 72, 73, 74, 75, 76, 77, 78, 79, 80, 81, 82, 83] (by decide +kernel) (by decide +kernel)
set_option maxRecDepth 20000 in
theorem gX10_begin_X10_place : GoodIn wsX10_begin (wsV RX10 204 RX10 yX10_place wsX10_place) := goodIn_app (goodIn_of _ (by decide +kernel)) ggX10_begin_X10_place
theorem dX10_begin_0 : decode cX10_begin 0 = .ok (.aload_n 0, 1) := by decide +kernel
theorem dX10_begin_1 : decode cX10_begin 1 = .ok (.iload_n 1, 1) := by decide +kernel
theorem dX10_begin_2 : decode cX10_begin 2 = .ok (.iconst 0, 1) := by decide +kernel
theorem dX10_begin_3 : decode cX10_begin 3 = .ok (.iconst 1, 1) := by decide +kernel
theorem dX10_begin_4 : decode cX10_begin 4 = .ok (.invokestatic 91, 3) := by decide +kernel
theorem dX10_begin_7 : decode cX10_begin 7 = .ok (.ifCond .ne 7, 3) := by decide +kernel
theorem dX10_begin_10 : decode cX10_begin 10 = .ok (.iconst 1, 1) := by decide +kernel
theorem dX10_begin_11 : decode cX10_begin 11 = .ok (.goto 31, 3) := by decide +kernel
theorem dX10_begin_14 : decode cX10_begin 14 = .ok (.aload_n 0, 1) := by decide +kernel
theorem dX10_begin_15 : decode cX10_begin 15 = .ok (.getfield 13, 3) := by decide +kernel
theorem dX10_begin_18 : decode cX10_begin 18 = .ok (.bipush 45, 2) := by decide +kernel
theorem dX10_begin_20 : decode cX10_begin 20 = .ok (.if_icmp .ne 17, 3) := by decide +kernel
theorem dX10_begin_23 : decode cX10_begin 23 = .ok (.aload_n 0, 1) := by decide +kernel
theorem dX10_begin_24 : decode cX10_begin 24 = .ok (.getfield 182, 3) := by decide +kernel
theorem dX10_begin_27 : decode cX10_begin 27 = .ok (.ifCond .eq 10, 3) := by decide +kernel
theorem dX10_begin_30 : decode cX10_begin 30 = .ok (.aload_n 0, 1) := by decide +kernel
theorem dX10_begin_31 : decode cX10_begin 31 = .ok (.invokevirtual 200, 3) := by decide +kernel
theorem dX10_begin_34 : decode cX10_begin 34 = .ok (.ifCond .eq 7, 3) := by decide +kernel
theorem dX10_begin_37 : decode cX10_begin 37 = .ok (.iconst 2, 1) := by decide +kernel
theorem dX10_begin_38 : decode cX10_begin 38 = .ok (.goto 4, 3) := by decide +kernel
theorem dX10_begin_41 : decode cX10_begin 41 = .ok (.iconst 0, 1) := by decide +kernel
theorem dX10_begin_42 : decode cX10_begin 42 = .ok (.invokevirtual 178, 3) := by decide +kernel
theorem dX10_begin_45 : decode cX10_begin 45 = .ok (.ifCond .eq 5, 3) := by decide +kernel
theorem dX10_begin_48 : decode cX10_begin 48 = .ok (.iconst 0, 1) := by decide +kernel
theorem dX10_begin_49 : decode cX10_begin 49 = .ok (.ireturn, 1) := by decide +kernel
theorem dX10_begin_50 : decode cX10_begin 50 = .ok (.iconst 0, 1) := by decide +kernel
theorem dX10_begin_51 : decode cX10_begin 51 = .ok (.istore_n 2, 1) := by decide +kernel
theorem dX10_begin_52 : decode cX10_begin 52 = .ok (.iload_n 2, 1) := by decide +kernel
theorem dX10_begin_53 : decode cX10_begin 53 = .ok (.bipush 52, 2) := by decide +kernel
theorem dX10_begin_55 : decode cX10_begin 55 = .ok (.if_icmp .ge 16, 3) := by decide +kernel
theorem dX10_begin_58 : decode cX10_begin 58 = .ok (.aload_n 0, 1) := by decide +kernel
theorem dX10_begin_59 : decode cX10_begin 59 = .ok (.getfield 17, 3) := by decide +kernel
theorem dX10_begin_62 : decode cX10_begin 62 = .ok (.iload_n 2, 1) := by decide +kernel
theorem dX10_begin_63 : decode cX10_begin 63 = .ok (.iconst 0, 1) := by decide +kernel
theorem dX10_begin_64 : decode cX10_begin 64 = .ok (.iastore, 1) := by decide +kernel
theorem dX10_begin_65 : decode cX10_begin 65 = .ok (.iinc 2 1, 3) := by decide +kernel
theorem dX10_begin_68 : decode cX10_begin 68 = .ok (.goto (-16), 3) := by decide +kernel
theorem dX10_begin_71 : decode cX10_begin 71 = .ok (.aload_n 0, 1) := by decide +kernel
theorem dX10_begin_72 : decode cX10_begin 72 = .ok (.getfield 185, 3) := by decide +kernel
theorem dX10_begin_75 : decode cX10_begin 75 = .ok (.bipush 104, 2) := by decide +kernel
theorem dX10_begin_77 : decode cX10_begin 77 = .ok (.if_icmp .ne 27, 3) := by decide +kernel
theorem dX10_begin_80 : decode cX10_begin 80 = .ok (.aload_n 0, 1) := by decide +kernel
theorem dX10_begin_81 : decode cX10_begin 81 = .ok (.bipush 24, 2) := by decide +kernel
theorem dX10_begin_83 : decode cX10_begin 83 = .ok (.iconst 1, 1) := by decide +kernel
theorem dX10_begin_84 : decode cX10_begin 84 = .ok (.invokevirtual 204, 3) := by decide +kernel
theorem dX10_begin_87 : decode cX10_begin 87 = .ok (.aload_n 0, 1) := by decide +kernel
theorem dX10_begin_88 : decode cX10_begin 88 = .ok (.bipush 23, 2) := by decide +kernel
theorem dX10_begin_90 : decode cX10_begin 90 = .ok (.iconst 1, 1) := by decide +kernel
theorem dX10_begin_91 : decode cX10_begin 91 = .ok (.invokevirtual 204, 3) := by decide +kernel
theorem dX10_begin_94 : decode cX10_begin 94 = .ok (.aload_n 0, 1) := by decide +kernel
theorem dX10_begin_95 : decode cX10_begin 95 = .ok (.bipush 22, 2) := by decide +kernel
theorem dX10_begin_97 : decode cX10_begin 97 = .ok (.iconst 1, 1) := by decide +kernel
theorem dX10_begin_98 : decode cX10_begin 98 = .ok (.invokevirtual 204, 3) := by decide +kernel
theorem dX10_begin_101 : decode cX10_begin 101 = .ok (.goto 77, 3) := by decide +kernel
theorem dX10_begin_104 : decode cX10_begin 104 = .ok (.aload_n 0, 1) := by decide +kernel
theorem dX10_begin_105 : decode cX10_begin 105 = .ok (.bipush 24, 2) := by decide +kernel
theorem dX10_begin_107 : decode cX10_begin 107 = .ok (.iconst 2, 1) := by decide +kernel
theorem dX10_begin_108 : decode cX10_begin 108 = .ok (.invokevirtual 204, 3) := by decide +kernel
theorem dX10_begin_111 : decode cX10_begin 111 = .ok (.aload_n 0, 1) := by decide +kernel
theorem dX10_begin_112 : decode cX10_begin 112 = .ok (.bipush 23, 2) := by decide +kernel
theorem dX10_begin_114 : decode cX10_begin 114 = .ok (.aload_n 0, 1) := by decide +kernel
theorem dX10_begin_115 : decode cX10_begin 115 = .ok (.getfield 185, 3) := by decide +kernel
theorem dX10_begin_118 : decode cX10_begin 118 = .ok (.bipush 110, 2) := by decide +kernel
theorem dX10_begin_120 : decode cX10_begin 120 = .ok (.if_icmp .ne 7, 3) := by decide +kernel
theorem dX10_begin_123 : decode cX10_begin 123 = .ok (.iconst 2, 1) := by decide +kernel
theorem dX10_begin_124 : decode cX10_begin 124 = .ok (.goto 4, 3) := by decide +kernel
theorem dX10_begin_127 : decode cX10_begin 127 = .ok (.iconst 0, 1) := by decide +kernel
theorem dX10_begin_128 : decode cX10_begin 128 = .ok (.invokevirtual 204, 3) := by decide +kernel
theorem dX10_begin_131 : decode cX10_begin 131 = .ok (.aload_n 0, 1) := by decide +kernel
theorem dX10_begin_132 : decode cX10_begin 132 = .ok (.bipush 13, 2) := by decide +kernel
theorem dX10_begin_134 : decode cX10_begin 134 = .ok (.aload_n 0, 1) := by decide +kernel
theorem dX10_begin_135 : decode cX10_begin 135 = .ok (.getfield 185, 3) := by decide +kernel
theorem dX10_begin_138 : decode cX10_begin 138 = .ok (.bipush 110, 2) := by decide +kernel
theorem dX10_begin_140 : decode cX10_begin 140 = .ok (.if_icmp .ne 7, 3) := by decide +kernel
theorem dX10_begin_143 : decode cX10_begin 143 = .ok (.iconst 4, 1) := by decide +kernel
theorem dX10_begin_144 : decode cX10_begin 144 = .ok (.goto 4, 3) := by decide +kernel
theorem dX10_begin_147 : decode cX10_begin 147 = .ok (.iconst 5, 1) := by decide +kernel
theorem dX10_begin_148 : decode cX10_begin 148 = .ok (.invokevirtual 204, 3) := by decide +kernel
theorem dX10_begin_151 : decode cX10_begin 151 = .ok (.aload_n 0, 1) := by decide +kernel
theorem dX10_begin_152 : decode cX10_begin 152 = .ok (.bipush 8, 2) := by decide +kernel
theorem dX10_begin_154 : decode cX10_begin 154 = .ok (.iconst 3, 1) := by decide +kernel
theorem dX10_begin_155 : decode cX10_begin 155 = .ok (.invokevirtual 204, 3) := by decide +kernel
theorem dX10_begin_158 : decode cX10_begin 158 = .ok (.aload_n 0, 1) := by decide +kernel
theorem dX10_begin_159 : decode cX10_begin 159 = .ok (.bipush 6, 2) := by decide +kernel
theorem dX10_begin_161 : decode cX10_begin 161 = .ok (.aload_n 0, 1) := by decide +kernel
theorem dX10_begin_162 : decode cX10_begin 162 = .ok (.getfield 185, 3) := by decide +kernel
theorem dX10_begin_165 : decode cX10_begin 165 = .ok (.bipush 110, 2) := by decide +kernel
theorem dX10_begin_167 : decode cX10_begin 167 = .ok (.if_icmp .ne 7, 3) := by decide +kernel
theorem dX10_begin_170 : decode cX10_begin 170 = .ok (.iconst 4, 1) := by decide +kernel
theorem dX10_begin_171 : decode cX10_begin 171 = .ok (.goto 4, 3) := by decide +kernel
theorem dX10_begin_174 : decode cX10_begin 174 = .ok (.iconst 5, 1) := by decide +kernel
theorem dX10_begin_175 : decode cX10_begin 175 = .ok (.invokevirtual 204, 3) := by decide +kernel
theorem dX10_begin_178 : decode cX10_begin 178 = .ok (.aload_n 0, 1) := by decide +kernel
theorem dX10_begin_179 : decode cX10_begin 179 = .ok (.aload_n 0, 1) := by decide +kernel
theorem dX10_begin_180 : decode cX10_begin 180 = .ok (.getfield 197, 3) := by decide +kernel
theorem dX10_begin_183 : decode cX10_begin 183 = .ok (.putfield 207, 3) := by decide +kernel
theorem dX10_begin_186 : decode cX10_begin 186 = .ok (.aload_n 0, 1) := by decide +kernel
theorem dX10_begin_187 : decode cX10_begin 187 = .ok (.iconst 0, 1) := by decide +kernel
theorem dX10_begin_188 : decode cX10_begin 188 = .ok (.putfield 197, 3) := by decide +kernel
theorem dX10_begin_191 : decode cX10_begin 191 = .ok (.aload_n 0, 1) := by decide +kernel
theorem dX10_begin_192 : decode cX10_begin 192 = .ok (.iconst 1, 1) := by decide +kernel
theorem dX10_begin_193 : decode cX10_begin 193 = .ok (.putfield 23, 3) := by decide +kernel
theorem dX10_begin_196 : decode cX10_begin 196 = .ok (.aload_n 0, 1) := by decide +kernel
theorem dX10_begin_197 : decode cX10_begin 197 = .ok (.iconst (-1), 1) := by decide +kernel
theorem dX10_begin_198 : decode cX10_begin 198 = .ok (.putfield 27, 3) := by decide +kernel
theorem dX10_begin_201 : decode cX10_begin 201 = .ok (.aload_n 0, 1) := by decide +kernel
theorem dX10_begin_202 : decode cX10_begin 202 = .ok (.iload_n 1, 1) := by decide +kernel
theorem dX10_begin_203 : decode cX10_begin 203 = .ok (.putfield 168, 3) := by decide +kernel
theorem dX10_begin_206 : decode cX10_begin 206 = .ok (.aload_n 0, 1) := by decide +kernel
theorem dX10_begin_207 : decode cX10_begin 207 = .ok (.bipush 100, 2) := by decide +kernel
theorem dX10_begin_209 : decode cX10_begin 209 = .ok (.putfield 13, 3) := by decide +kernel
theorem dX10_begin_212 : decode cX10_begin 212 = .ok (.aload_n 0, 1) := by decide +kernel
theorem dX10_begin_213 : decode cX10_begin 213 = .ok (.iconst 0, 1) := by decide +kernel
theorem dX10_begin_214 : decode cX10_begin 214 = .ok (.putfield 210, 3) := by decide +kernel
theorem dX10_begin_217 : decode cX10_begin 217 = .ok (.aload_n 0, 1) := by decide +kernel
theorem dX10_begin_218 : decode cX10_begin 218 = .ok (.getfield 207, 3) := by decide +kernel
theorem dX10_begin_221 : decode cX10_begin 221 = .ok (.ireturn, 1) := by decide +kernel
theorem dX10_state_0 : decode cX10_state 0 = .ok (.aload_n 0, 1) := by decide +kernel
theorem dX10_state_1 : decode cX10_state 1 = .ok (.iconst 0, 1) := by decide +kernel
theorem dX10_state_2 : decode cX10_state 2 = .ok (.putfield 88, 3) := by decide +kernel
theorem dX10_state_5 : decode cX10_state 5 = .ok (.aload_n 0, 1) := by decide +kernel
theorem dX10_state_6 : decode cX10_state 6 = .ok (.getfield 13, 3) := by decide +kernel
theorem dX10_state_9 : decode cX10_state 9 = .ok (.ireturn, 1) := by decide +kernel
set_option maxRecDepth 20000 in
theorem ggX10_turn_X10_fails : GoodIn wsX10_turn wsX10_fails := goodIn_r _ [7, 8, 9, 10, 11, 12, 13, 14, 15, 16, 17, 18, 19, 20, 21, 22, 23, 24, 25, 26, 27, 28, 29, 30, 31, 32, 33, 34, 35, 36, 37, 38, 39, 40, 41, 42, 43, 44, 45, 46, 47, 48, 49, 50, 51, 52, 53, 54, 55, 56, 57, 58, 59, 60, 61, 62] (by decide +kernel) (by decide +kernel)
set_option maxRecDepth 20000 in
theorem gX10_turn_X10_fails : GoodIn wsX10_turn (wsV RX10 178 RX10 yX10_fails wsX10_fails) := goodIn_app (goodIn_of _ (by decide +kernel)) ggX10_turn_X10_fails
theorem dX10_turn_0 : decode cX10_turn 0 = .ok (.aload_n 0, 1) := by decide +kernel
theorem dX10_turn_1 : decode cX10_turn 1 = .ok (.aload_n 0, 1) := by decide +kernel
theorem dX10_turn_2 : decode cX10_turn 2 = .ok (.getfield 13, 3) := by decide +kernel
theorem dX10_turn_5 : decode cX10_turn 5 = .ok (.bipush 45, 2) := by decide +kernel
theorem dX10_turn_7 : decode cX10_turn 7 = .ok (.if_icmp .ne 7, 3) := by decide +kernel
theorem dX10_turn_10 : decode cX10_turn 10 = .ok (.iconst 1, 1) := by decide +kernel
theorem dX10_turn_11 : decode cX10_turn 11 = .ok (.goto 4, 3) := by decide +kernel
theorem dX10_turn_14 : decode cX10_turn 14 = .ok (.iconst 0, 1) := by decide +kernel
theorem dX10_turn_15 : decode cX10_turn 15 = .ok (.invokevirtual 178, 3) := by decide +kernel
theorem dX10_turn_18 : decode cX10_turn 18 = .ok (.ifCond .eq 7, 3) := by decide +kernel
theorem dX10_turn_21 : decode cX10_turn 21 = .ok (.iconst 0, 1) := by decide +kernel
theorem dX10_turn_22 : decode cX10_turn 22 = .ok (.goto 25, 3) := by decide +kernel
theorem dX10_turn_25 : decode cX10_turn 25 = .ok (.aload_n 0, 1) := by decide +kernel
theorem dX10_turn_26 : decode cX10_turn 26 = .ok (.getfield 13, 3) := by decide +kernel
theorem dX10_turn_29 : decode cX10_turn 29 = .ok (.bipush 116, 2) := by decide +kernel
theorem dX10_turn_31 : decode cX10_turn 31 = .ok (.if_icmp .ne 12, 3) := by decide +kernel
theorem dX10_turn_34 : decode cX10_turn 34 = .ok (.iconst 1, 1) := by decide +kernel
theorem dX10_turn_35 : decode cX10_turn 35 = .ok (.aload_n 0, 1) := by decide +kernel
theorem dX10_turn_36 : decode cX10_turn 36 = .ok (.getfield 168, 3) := by decide +kernel
theorem dX10_turn_39 : decode cX10_turn 39 = .ok (.isub, 1) := by decide +kernel
theorem dX10_turn_40 : decode cX10_turn 40 = .ok (.goto 7, 3) := by decide +kernel
theorem dX10_turn_43 : decode cX10_turn 43 = .ok (.aload_n 0, 1) := by decide +kernel
theorem dX10_turn_44 : decode cX10_turn 44 = .ok (.getfield 168, 3) := by decide +kernel
theorem dX10_turn_47 : decode cX10_turn 47 = .ok (.ireturn, 1) := by decide +kernel
set_option maxRecDepth 20000 in
theorem ggX10_failsSide_X10_in : GoodIn wsX10_failsSide wsX10_in := goodIn_r _ [4] (by decide +kernel) (by decide +kernel)
set_option maxRecDepth 20000 in
theorem gX10_failsSide_X10_in : GoodIn wsX10_failsSide (va_wsS RX10 91 yX10_in wsX10_in) := goodIn_app (goodIn_of _ (by decide +kernel)) ggX10_failsSide_X10_in
set_option maxRecDepth 20000 in
theorem ggX10_failsSide_X10_fails : GoodIn wsX10_failsSide wsX10_fails := goodIn_r _ [8, 9, 10, 11, 12, 13, 14, 15, 16, 17, 18, 19, 20, 21, 22, 23, 24, 25, 26, 27, 28, 29, 30, 31, 32, 33, 34, 35, 36, 37, 38, 39, 40, 41, 42, 43, 44, 45, 46, 47, 48, 49, 50, 51, 52, 53, 54, 55, 56, 57, 58, 59, 60, 61, 62, 63] (by decide +kernel) (by decide +kernel)
set_option maxRecDepth 20000 in
theorem gX10_failsSide_X10_fails : GoodIn wsX10_failsSide (wsV RX10 178 RX10 yX10_fails wsX10_fails) := goodIn_app (goodIn_of _ (by decide +kernel)) ggX10_failsSide_X10_fails
theorem dX10_failsSide_0 : decode cX10_failsSide 0 = .ok (.aload_n 0, 1) := by decide +kernel
theorem dX10_failsSide_1 : decode cX10_failsSide 1 = .ok (.iload_n 1, 1) := by decide +kernel
theorem dX10_failsSide_2 : decode cX10_failsSide 2 = .ok (.iconst 0, 1) := by decide +kernel
theorem dX10_failsSide_3 : decode cX10_failsSide 3 = .ok (.iconst 1, 1) := by decide +kernel
theorem dX10_failsSide_4 : decode cX10_failsSide 4 = .ok (.invokestatic 91, 3) := by decide +kernel
theorem dX10_failsSide_7 : decode cX10_failsSide 7 = .ok (.ifCond .eq 7, 3) := by decide +kernel
theorem dX10_failsSide_10 : decode cX10_failsSide 10 = .ok (.iconst 0, 1) := by decide +kernel
theorem dX10_failsSide_11 : decode cX10_failsSide 11 = .ok (.goto 4, 3) := by decide +kernel
theorem dX10_failsSide_14 : decode cX10_failsSide 14 = .ok (.iconst 1, 1) := by decide +kernel
theorem dX10_failsSide_15 : decode cX10_failsSide 15 = .ok (.invokevirtual 178, 3) := by decide +kernel
theorem dX10_failsSide_18 : decode cX10_failsSide 18 = .ok (.ireturn, 1) := by decide +kernel
set_option maxRecDepth 20000 in
theorem ggX10_score_X10_failsSide : GoodIn wsX10_score wsX10_failsSide := goodIn_r _ [6, 7, 8, 5, 9, 10, 11, 12, 13, 14, 15, 16, 17, 18, 19, 20, 21, 22, 23, 24, 25, 26, 27, 28, 29, 30, 31, 32, 33, 34, 35, 36, 37, 38, 39, 40, 41, 42, 43, 44, 45, 46, 47, 48, 49, 50, 51, 52, 53, 54, 55, 56, 57, 58, 59, 60, 61, 62, 63, 64, 65, 66, 67, 68] (by decide +kernel) (by decide +kernel)
set_option maxRecDepth 20000 in
theorem gX10_score_X10_failsSide : GoodIn wsX10_score (wsV RX10 213 RX10 yX10_failsSide wsX10_failsSide) := goodIn_app (goodIn_of _ (by decide +kernel)) ggX10_score_X10_failsSide
theorem dX10_score_0 : decode cX10_score 0 = .ok (.aload_n 0, 1) := by decide +kernel
theorem dX10_score_1 : decode cX10_score 1 = .ok (.iload_n 1, 1) := by decide +kernel
theorem dX10_score_2 : decode cX10_score 2 = .ok (.invokevirtual 213, 3) := by decide +kernel
theorem dX10_score_5 : decode cX10_score 5 = .ok (.ifCond .eq 7, 3) := by decide +kernel
theorem dX10_score_8 : decode cX10_score 8 = .ok (.iconst 0, 1) := by decide +kernel
theorem dX10_score_9 : decode cX10_score 9 = .ok (.goto 9, 3) := by decide +kernel
theorem dX10_score_12 : decode cX10_score 12 = .ok (.aload_n 0, 1) := by decide +kernel
theorem dX10_score_13 : decode cX10_score 13 = .ok (.getfield 7, 3) := by decide +kernel
theorem dX10_score_16 : decode cX10_score 16 = .ok (.iload_n 1, 1) := by decide +kernel
theorem dX10_score_17 : decode cX10_score 17 = .ok (.iaload, 1) := by decide +kernel
theorem dX10_score_18 : decode cX10_score 18 = .ok (.ireturn, 1) := by decide +kernel
theorem dX10_won_0 : decode cX10_won 0 = .ok (.aload_n 0, 1) := by decide +kernel
theorem dX10_won_1 : decode cX10_won 1 = .ok (.iconst 0, 1) := by decide +kernel
theorem dX10_won_2 : decode cX10_won 2 = .ok (.putfield 88, 3) := by decide +kernel
theorem dX10_won_5 : decode cX10_won 5 = .ok (.aload_n 0, 1) := by decide +kernel
theorem dX10_won_6 : decode cX10_won 6 = .ok (.getfield 216, 3) := by decide +kernel
theorem dX10_won_9 : decode cX10_won 9 = .ok (.ireturn, 1) := by decide +kernel
set_option maxRecDepth 20000 in
theorem ggX10_isOver_X10_fails : GoodIn wsX10_isOver wsX10_fails := goodIn_r _ [6, 7, 14, 15, 16, 17, 18, 19, 20, 21, 22, 23, 24, 25, 26, 27, 28, 29, 30, 31, 32, 33, 34, 35, 36, 37, 38, 39, 40, 41, 42, 43, 44, 45, 46, 47, 48, 49, 50, 51, 52, 53, 54, 55, 56, 57, 58, 59, 60, 61, 62, 63, 64, 65, 66, 67] (by decide +kernel) (by decide +kernel)
set_option maxRecDepth 20000 in
theorem gX10_isOver_X10_fails : GoodIn wsX10_isOver (wsV RX10 178 RX10 yX10_fails wsX10_fails) := goodIn_app (goodIn_of _ (by decide +kernel)) ggX10_isOver_X10_fails
set_option maxRecDepth 20000 in
theorem ggX10_isOver_X10_isDone : GoodIn wsX10_isOver wsX10_isDone := goodIn_r _ [11, 12, 13, 14, 15, 16, 17, 18, 19, 20, 21, 22, 23, 24, 25, 26, 27, 28, 29, 30, 31, 32, 33, 34, 35, 36, 37, 38, 39, 40, 41, 42, 43, 44, 45, 46, 47, 48, 49, 50, 51, 52, 53, 54, 55, 56, 57, 58, 59, 60, 61, 62, 63, 64, 65, 66, 67] (by decide +kernel) (by decide +kernel)
set_option maxRecDepth 20000 in
theorem gX10_isOver_X10_isDone : GoodIn wsX10_isOver (wsV RX10 200 RX10 yX10_isDone wsX10_isDone) := goodIn_app (goodIn_of _ (by decide +kernel)) ggX10_isOver_X10_isDone
theorem dX10_isOver_0 : decode cX10_isOver 0 = .ok (.aload_n 0, 1) := by decide +kernel
theorem dX10_isOver_1 : decode cX10_isOver 1 = .ok (.aload_n 0, 1) := by decide +kernel
theorem dX10_isOver_2 : decode cX10_isOver 2 = .ok (.getfield 182, 3) := by decide +kernel
theorem dX10_isOver_5 : decode cX10_isOver 5 = .ok (.ifCond .eq 7, 3) := by decide +kernel
theorem dX10_isOver_8 : decode cX10_isOver 8 = .ok (.iconst 0, 1) := by decide +kernel
theorem dX10_isOver_9 : decode cX10_isOver 9 = .ok (.goto 4, 3) := by decide +kernel
theorem dX10_isOver_12 : decode cX10_isOver 12 = .ok (.iconst 1, 1) := by decide +kernel
theorem dX10_isOver_13 : decode cX10_isOver 13 = .ok (.invokevirtual 178, 3) := by decide +kernel
theorem dX10_isOver_16 : decode cX10_isOver 16 = .ok (.ifCond .ne 14, 3) := by decide +kernel
theorem dX10_isOver_19 : decode cX10_isOver 19 = .ok (.aload_n 0, 1) := by decide +kernel
theorem dX10_isOver_20 : decode cX10_isOver 20 = .ok (.invokevirtual 200, 3) := by decide +kernel
theorem dX10_isOver_23 : decode cX10_isOver 23 = .ok (.ifCond .eq 7, 3) := by decide +kernel
theorem dX10_isOver_26 : decode cX10_isOver 26 = .ok (.iconst 1, 1) := by decide +kernel
theorem dX10_isOver_27 : decode cX10_isOver 27 = .ok (.goto 4, 3) := by decide +kernel
theorem dX10_isOver_30 : decode cX10_isOver 30 = .ok (.iconst 0, 1) := by decide +kernel
theorem dX10_isOver_31 : decode cX10_isOver 31 = .ok (.ireturn, 1) := by decide +kernel
set_option maxRecDepth 20000 in
theorem ggX10_end__X10_pay : GoodIn wsX10_end_ wsX10_pay := goodIn_r _ [15, 10, 16, 17, 18, 19, 20, 21, 22, 23, 24, 25, 26, 27, 28, 29, 30, 31, 32, 33, 34, 35, 36, 37, 38, 39, 40, 41, 42, 43, 44, 45, 46, 47, 48, 49, 50, 51, 52, 53, 54, 55, 56, 57, 58, 59, 60, 61, 62, 63, 64, 65, 66, 67, 68, 69, 70, 71, 72, 73, 74] (by decide +kernel) (by decide +kernel)
set_option maxRecDepth 20000 in
theorem gX10_end__X10_pay : GoodIn wsX10_end_ (wsV RX10 219 RX10 yX10_pay wsX10_pay) := goodIn_app (goodIn_of _ (by decide +kernel)) ggX10_end__X10_pay
theorem dX10_end__0 : decode cX10_end_ 0 = .ok (.aload_n 0, 1) := by decide +kernel
theorem dX10_end__1 : decode cX10_end_ 1 = .ok (.getfield 188, 3) := by decide +kernel
theorem dX10_end__4 : decode cX10_end_ 4 = .ok (.ifCond .ne 29, 3) := by decide +kernel
theorem dX10_end__7 : decode cX10_end_ 7 = .ok (.aload_n 0, 1) := by decide +kernel
theorem dX10_end__8 : decode cX10_end_ 8 = .ok (.getfield 191, 3) := by decide +kernel
theorem dX10_end__11 : decode cX10_end_ 11 = .ok (.ifCond .eq 22, 3) := by decide +kernel
theorem dX10_end__14 : decode cX10_end_ 14 = .ok (.aload_n 0, 1) := by decide +kernel
theorem dX10_end__15 : decode cX10_end_ 15 = .ok (.getfield 23, 3) := by decide +kernel
theorem dX10_end__18 : decode cX10_end_ 18 = .ok (.iconst 1, 1) := by decide +kernel
theorem dX10_end__19 : decode cX10_end_ 19 = .ok (.if_icmp .ne 14, 3) := by decide +kernel
theorem dX10_end__22 : decode cX10_end_ 22 = .ok (.aload_n 0, 1) := by decide +kernel
theorem dX10_end__23 : decode cX10_end_ 23 = .ok (.getfield 27, 3) := by decide +kernel
theorem dX10_end__26 : decode cX10_end_ 26 = .ok (.ifCond .ge 7, 3) := by decide +kernel
theorem dX10_end__29 : decode cX10_end_ 29 = .ok (.iconst 1, 1) := by decide +kernel
theorem dX10_end__30 : decode cX10_end_ 30 = .ok (.goto 4, 3) := by decide +kernel
theorem dX10_end__33 : decode cX10_end_ 33 = .ok (.iconst 0, 1) := by decide +kernel
theorem dX10_end__34 : decode cX10_end_ 34 = .ok (.istore 4, 2) := by decide +kernel
theorem dX10_end__36 : decode cX10_end_ 36 = .ok (.aload_n 0, 1) := by decide +kernel
theorem dX10_end__37 : decode cX10_end_ 37 = .ok (.iload 4, 2) := by decide +kernel
theorem dX10_end__39 : decode cX10_end_ 39 = .ok (.ifCond .eq 7, 3) := by decide +kernel
theorem dX10_end__42 : decode cX10_end_ 42 = .ok (.iconst 1, 1) := by decide +kernel
theorem dX10_end__43 : decode cX10_end_ 43 = .ok (.goto 4, 3) := by decide +kernel
theorem dX10_end__46 : decode cX10_end_ 46 = .ok (.iload_n 2, 1) := by decide +kernel
theorem dX10_end__47 : decode cX10_end_ 47 = .ok (.putfield 216, 3) := by decide +kernel
theorem dX10_end__50 : decode cX10_end_ 50 = .ok (.aload_n 0, 1) := by decide +kernel
theorem dX10_end__51 : decode cX10_end_ 51 = .ok (.getfield 23, 3) := by decide +kernel
theorem dX10_end__54 : decode cX10_end_ 54 = .ok (.aload_n 0, 1) := by decide +kernel
theorem dX10_end__55 : decode cX10_end_ 55 = .ok (.getfield 216, 3) := by decide +kernel
theorem dX10_end__58 : decode cX10_end_ 58 = .ok (.imul, 1) := by decide +kernel
theorem dX10_end__59 : decode cX10_end_ 59 = .ok (.istore 5, 2) := by decide +kernel
theorem dX10_end__61 : decode cX10_end_ 61 = .ok (.aload_n 0, 1) := by decide +kernel
theorem dX10_end__62 : decode cX10_end_ 62 = .ok (.getfield 7, 3) := by decide +kernel
theorem dX10_end__65 : decode cX10_end_ 65 = .ok (.iload_n 1, 1) := by decide +kernel
theorem dX10_end__66 : decode cX10_end_ 66 = .ok (.dup2, 1) := by decide +kernel
theorem dX10_end__67 : decode cX10_end_ 67 = .ok (.iaload, 1) := by decide +kernel
theorem dX10_end__68 : decode cX10_end_ 68 = .ok (.iload 5, 2) := by decide +kernel
theorem dX10_end__70 : decode cX10_end_ 70 = .ok (.iadd, 1) := by decide +kernel
theorem dX10_end__71 : decode cX10_end_ 71 = .ok (.iastore, 1) := by decide +kernel
theorem dX10_end__72 : decode cX10_end_ 72 = .ok (.aload_n 0, 1) := by decide +kernel
theorem dX10_end__73 : decode cX10_end_ 73 = .ok (.bipush 45, 2) := by decide +kernel
theorem dX10_end__75 : decode cX10_end_ 75 = .ok (.putfield 13, 3) := by decide +kernel
theorem dX10_end__78 : decode cX10_end_ 78 = .ok (.aload_n 0, 1) := by decide +kernel
theorem dX10_end__79 : decode cX10_end_ 79 = .ok (.getfield 188, 3) := by decide +kernel
theorem dX10_end__82 : decode cX10_end_ 82 = .ok (.ifCond .le 35, 3) := by decide +kernel
theorem dX10_end__85 : decode cX10_end_ 85 = .ok (.aload_n 0, 1) := by decide +kernel
theorem dX10_end__86 : decode cX10_end_ 86 = .ok (.getfield 194, 3) := by decide +kernel
theorem dX10_end__89 : decode cX10_end_ 89 = .ok (.ifCond .ne 28, 3) := by decide +kernel
theorem dX10_end__92 : decode cX10_end_ 92 = .ok (.aload_n 0, 1) := by decide +kernel
theorem dX10_end__93 : decode cX10_end_ 93 = .ok (.getfield 188, 3) := by decide +kernel
theorem dX10_end__96 : decode cX10_end_ 96 = .ok (.aload_n 0, 1) := by decide +kernel
theorem dX10_end__97 : decode cX10_end_ 97 = .ok (.getfield 7, 3) := by decide +kernel
theorem dX10_end__100 : decode cX10_end_ 100 = .ok (.iload_n 1, 1) := by decide +kernel
theorem dX10_end__101 : decode cX10_end_ 101 = .ok (.iaload, 1) := by decide +kernel
theorem dX10_end__102 : decode cX10_end_ 102 = .ok (.isub, 1) := by decide +kernel
theorem dX10_end__103 : decode cX10_end_ 103 = .ok (.iconst 1, 1) := by decide +kernel
theorem dX10_end__104 : decode cX10_end_ 104 = .ok (.if_icmp .ne 13, 3) := by decide +kernel
theorem dX10_end__107 : decode cX10_end_ 107 = .ok (.aload_n 0, 1) := by decide +kernel
theorem dX10_end__108 : decode cX10_end_ 108 = .ok (.iconst 1, 1) := by decide +kernel
theorem dX10_end__109 : decode cX10_end_ 109 = .ok (.putfield 194, 3) := by decide +kernel
theorem dX10_end__112 : decode cX10_end_ 112 = .ok (.aload_n 0, 1) := by decide +kernel
theorem dX10_end__113 : decode cX10_end_ 113 = .ok (.iconst 1, 1) := by decide +kernel
theorem dX10_end__114 : decode cX10_end_ 114 = .ok (.putfield 197, 3) := by decide +kernel
theorem dX10_end__117 : decode cX10_end_ 117 = .ok (.aload_n 0, 1) := by decide +kernel
theorem dX10_end__118 : decode cX10_end_ 118 = .ok (.getfield 175, 3) := by decide +kernel
theorem dX10_end__121 : decode cX10_end_ 121 = .ok (.ifCond .le 10, 3) := by decide +kernel
theorem dX10_end__124 : decode cX10_end_ 124 = .ok (.aload_n 0, 1) := by decide +kernel
theorem dX10_end__125 : decode cX10_end_ 125 = .ok (.iload_n 1, 1) := by decide +kernel
theorem dX10_end__126 : decode cX10_end_ 126 = .ok (.iload 5, 2) := by decide +kernel
theorem dX10_end__128 : decode cX10_end_ 128 = .ok (.invokevirtual 219, 3) := by decide +kernel
theorem dX10_end__131 : decode cX10_end_ 131 = .ok (.iload 5, 2) := by decide +kernel
theorem dX10_end__133 : decode cX10_end_ 133 = .ok (.ireturn, 1) := by decide +kernel
theorem dX10_pay_0 : decode cX10_pay 0 = .ok (.iload_n 1, 1) := by decide +kernel
theorem dX10_pay_1 : decode cX10_pay 1 = .ok (.iconst 1, 1) := by decide +kernel
theorem dX10_pay_2 : decode cX10_pay 2 = .ok (.if_icmp .ne 8, 3) := by decide +kernel
theorem dX10_pay_5 : decode cX10_pay 5 = .ok (.iload_n 2, 1) := by decide +kernel
theorem dX10_pay_6 : decode cX10_pay 6 = .ok (.i2l, 1) := by decide +kernel
theorem dX10_pay_7 : decode cX10_pay 7 = .ok (.goto 6, 3) := by decide +kernel
theorem dX10_pay_10 : decode cX10_pay 10 = .ok (.iload_n 2, 1) := by decide +kernel
theorem dX10_pay_11 : decode cX10_pay 11 = .ok (.ineg, 1) := by decide +kernel
theorem dX10_pay_12 : decode cX10_pay 12 = .ok (.i2l, 1) := by decide +kernel
theorem dX10_pay_13 : decode cX10_pay 13 = .ok (.lstore_n 3, 1) := by decide +kernel
theorem dX10_pay_14 : decode cX10_pay 14 = .ok (.iconst 0, 1) := by decide +kernel
theorem dX10_pay_15 : decode cX10_pay 15 = .ok (.istore 5, 2) := by decide +kernel
theorem dX10_pay_17 : decode cX10_pay 17 = .ok (.iload 5, 2) := by decide +kernel
theorem dX10_pay_19 : decode cX10_pay 19 = .ok (.aload_n 0, 1) := by decide +kernel
theorem dX10_pay_20 : decode cX10_pay 20 = .ok (.getfield 175, 3) := by decide +kernel
theorem dX10_pay_23 : decode cX10_pay 23 = .ok (.if_icmp .ge 42, 3) := by decide +kernel
theorem dX10_pay_26 : decode cX10_pay 26 = .ok (.aload_n 0, 1) := by decide +kernel
theorem dX10_pay_27 : decode cX10_pay 27 = .ok (.getfield 85, 3) := by decide +kernel
theorem dX10_pay_30 : decode cX10_pay 30 = .ok (.iload 5, 2) := by decide +kernel
theorem dX10_pay_32 : decode cX10_pay 32 = .ok (.dup2, 1) := by decide +kernel
theorem dX10_pay_33 : decode cX10_pay 33 = .ok (.laload, 1) := by decide +kernel
theorem dX10_pay_34 : decode cX10_pay 34 = .ok (.iload 5, 2) := by decide +kernel
theorem dX10_pay_36 : decode cX10_pay 36 = .ok (.aload_n 0, 1) := by decide +kernel
theorem dX10_pay_37 : decode cX10_pay 37 = .ok (.getfield 222, 3) := by decide +kernel
theorem dX10_pay_40 : decode cX10_pay 40 = .ok (.if_icmp .ne 16, 3) := by decide +kernel
theorem dX10_pay_43 : decode cX10_pay 43 = .ok (.lload_n 3, 1) := by decide +kernel
theorem dX10_pay_44 : decode cX10_pay 44 = .ok (.lneg, 1) := by decide +kernel
theorem dX10_pay_45 : decode cX10_pay 45 = .ok (.aload_n 0, 1) := by decide +kernel
theorem dX10_pay_46 : decode cX10_pay 46 = .ok (.getfield 175, 3) := by decide +kernel
theorem dX10_pay_49 : decode cX10_pay 49 = .ok (.iconst 1, 1) := by decide +kernel
theorem dX10_pay_50 : decode cX10_pay 50 = .ok (.isub, 1) := by decide +kernel
theorem dX10_pay_51 : decode cX10_pay 51 = .ok (.i2l, 1) := by decide +kernel
theorem dX10_pay_52 : decode cX10_pay 52 = .ok (.lmul, 1) := by decide +kernel
theorem dX10_pay_53 : decode cX10_pay 53 = .ok (.goto 4, 3) := by decide +kernel
theorem dX10_pay_56 : decode cX10_pay 56 = .ok (.lload_n 3, 1) := by decide +kernel
theorem dX10_pay_57 : decode cX10_pay 57 = .ok (.ladd, 1) := by decide +kernel
theorem dX10_pay_58 : decode cX10_pay 58 = .ok (.lastore, 1) := by decide +kernel
theorem dX10_pay_59 : decode cX10_pay 59 = .ok (.iinc 5 1, 3) := by decide +kernel
theorem dX10_pay_62 : decode cX10_pay 62 = .ok (.goto (-45), 3) := by decide +kernel
theorem dX10_pay_65 : decode cX10_pay 65 = .ok (.iload_n 1, 1) := by decide +kernel
theorem dX10_pay_66 : decode cX10_pay 66 = .ok (.iconst 1, 1) := by decide +kernel
theorem dX10_pay_67 : decode cX10_pay 67 = .ok (.if_icmp .ne 10, 3) := by decide +kernel
theorem dX10_pay_70 : decode cX10_pay 70 = .ok (.aload_n 0, 1) := by decide +kernel
theorem dX10_pay_71 : decode cX10_pay 71 = .ok (.getfield 222, 3) := by decide +kernel
theorem dX10_pay_74 : decode cX10_pay 74 = .ok (.goto 7, 3) := by decide +kernel
theorem dX10_pay_77 : decode cX10_pay 77 = .ok (.aload_n 0, 1) := by decide +kernel
theorem dX10_pay_78 : decode cX10_pay 78 = .ok (.getfield 225, 3) := by decide +kernel
theorem dX10_pay_81 : decode cX10_pay 81 = .ok (.istore 5, 2) := by decide +kernel
theorem dX10_pay_83 : decode cX10_pay 83 = .ok (.aload_n 0, 1) := by decide +kernel
theorem dX10_pay_84 : decode cX10_pay 84 = .ok (.iload_n 1, 1) := by decide +kernel
theorem dX10_pay_85 : decode cX10_pay 85 = .ok (.iconst 1, 1) := by decide +kernel
theorem dX10_pay_86 : decode cX10_pay 86 = .ok (.if_icmp .ne 10, 3) := by decide +kernel
theorem dX10_pay_89 : decode cX10_pay 89 = .ok (.aload_n 0, 1) := by decide +kernel
theorem dX10_pay_90 : decode cX10_pay 90 = .ok (.getfield 225, 3) := by decide +kernel
theorem dX10_pay_93 : decode cX10_pay 93 = .ok (.goto 7, 3) := by decide +kernel
theorem dX10_pay_96 : decode cX10_pay 96 = .ok (.aload_n 0, 1) := by decide +kernel
theorem dX10_pay_97 : decode cX10_pay 97 = .ok (.getfield 222, 3) := by decide +kernel
theorem dX10_pay_100 : decode cX10_pay 100 = .ok (.putfield 222, 3) := by decide +kernel
theorem dX10_pay_103 : decode cX10_pay 103 = .ok (.aload_n 0, 1) := by decide +kernel
theorem dX10_pay_104 : decode cX10_pay 104 = .ok (.aload_n 0, 1) := by decide +kernel
theorem dX10_pay_105 : decode cX10_pay 105 = .ok (.getfield 82, 3) := by decide +kernel
theorem dX10_pay_108 : decode cX10_pay 108 = .ok (.iconst 0, 1) := by decide +kernel
theorem dX10_pay_109 : decode cX10_pay 109 = .ok (.iaload, 1) := by decide +kernel
theorem dX10_pay_110 : decode cX10_pay 110 = .ok (.putfield 225, 3) := by decide +kernel
theorem dX10_pay_113 : decode cX10_pay 113 = .ok (.iconst 1, 1) := by decide +kernel
theorem dX10_pay_114 : decode cX10_pay 114 = .ok (.istore 6, 2) := by decide +kernel
theorem dX10_pay_116 : decode cX10_pay 116 = .ok (.iload 6, 2) := by decide +kernel
theorem dX10_pay_118 : decode cX10_pay 118 = .ok (.aload_n 0, 1) := by decide +kernel
theorem dX10_pay_119 : decode cX10_pay 119 = .ok (.getfield 228, 3) := by decide +kernel
theorem dX10_pay_122 : decode cX10_pay 122 = .ok (.if_icmp .ge 25, 3) := by decide +kernel
theorem dX10_pay_125 : decode cX10_pay 125 = .ok (.aload_n 0, 1) := by decide +kernel
theorem dX10_pay_126 : decode cX10_pay 126 = .ok (.getfield 82, 3) := by decide +kernel
theorem dX10_pay_129 : decode cX10_pay 129 = .ok (.iload 6, 2) := by decide +kernel
theorem dX10_pay_131 : decode cX10_pay 131 = .ok (.iconst 1, 1) := by decide +kernel
theorem dX10_pay_132 : decode cX10_pay 132 = .ok (.isub, 1) := by decide +kernel
theorem dX10_pay_133 : decode cX10_pay 133 = .ok (.aload_n 0, 1) := by decide +kernel
theorem dX10_pay_134 : decode cX10_pay 134 = .ok (.getfield 82, 3) := by decide +kernel
theorem dX10_pay_137 : decode cX10_pay 137 = .ok (.iload 6, 2) := by decide +kernel
theorem dX10_pay_139 : decode cX10_pay 139 = .ok (.iaload, 1) := by decide +kernel
theorem dX10_pay_140 : decode cX10_pay 140 = .ok (.iastore, 1) := by decide +kernel
theorem dX10_pay_141 : decode cX10_pay 141 = .ok (.iinc 6 1, 3) := by decide +kernel
theorem dX10_pay_144 : decode cX10_pay 144 = .ok (.goto (-28), 3) := by decide +kernel
theorem dX10_pay_147 : decode cX10_pay 147 = .ok (.aload_n 0, 1) := by decide +kernel
theorem dX10_pay_148 : decode cX10_pay 148 = .ok (.getfield 82, 3) := by decide +kernel
theorem dX10_pay_151 : decode cX10_pay 151 = .ok (.aload_n 0, 1) := by decide +kernel
theorem dX10_pay_152 : decode cX10_pay 152 = .ok (.getfield 228, 3) := by decide +kernel
theorem dX10_pay_155 : decode cX10_pay 155 = .ok (.iconst 1, 1) := by decide +kernel
theorem dX10_pay_156 : decode cX10_pay 156 = .ok (.isub, 1) := by decide +kernel
theorem dX10_pay_157 : decode cX10_pay 157 = .ok (.iload 5, 2) := by decide +kernel
theorem dX10_pay_159 : decode cX10_pay 159 = .ok (.iastore, 1) := by decide +kernel
theorem dX10_pay_160 : decode cX10_pay 160 = .ok (.return_, 1) := by decide +kernel
set_option maxRecDepth 20000 in
theorem ggX10_roll_X10_in : GoodIn wsX10_roll wsX10_in := goodIn_r _ [12] (by decide +kernel) (by decide +kernel)
set_option maxRecDepth 20000 in
theorem gX10_roll_X10_in : GoodIn wsX10_roll (va_wsS RX10 91 yX10_in wsX10_in) := goodIn_app (goodIn_of _ (by decide +kernel)) ggX10_roll_X10_in
set_option maxRecDepth 20000 in
theorem ggX10_roll_X10_fails : GoodIn wsX10_roll wsX10_fails := goodIn_r _ [16, 17, 84, 85, 86, 87, 88, 89, 90, 91, 92, 93, 94, 95, 96, 97, 98, 99, 100, 101, 102, 103, 104, 105, 106, 107, 108, 109, 110, 111, 112, 113, 114, 115, 116, 117, 118, 119, 120, 121, 122, 123, 124, 125, 126, 127, 128, 129, 130, 131, 132, 133, 134, 135, 136, 137] (by decide +kernel) (by decide +kernel)
set_option maxRecDepth 20000 in
theorem gX10_roll_X10_fails : GoodIn wsX10_roll (wsV RX10 178 RX10 yX10_fails wsX10_fails) := goodIn_app (goodIn_of _ (by decide +kernel)) ggX10_roll_X10_fails
set_option maxRecDepth 20000 in
theorem ggX10_roll_X10_find : GoodIn wsX10_roll wsX10_find := goodIn_r _ [21, 22, 23, 24, 25, 26, 27, 28, 29, 8, 30, 31, 32, 11, 33, 34, 35, 36, 37, 38, 39, 40, 41, 42, 9, 10, 12, 43, 44, 45, 46, 47, 48, 49, 50, 51, 52, 53, 54, 55, 56, 57, 58, 59, 60, 61, 62, 63, 64, 65, 66, 67, 68, 69, 70, 71, 72, 73, 74, 75, 76, 77, 84, 85, 86, 87, 88, 89, 90, 91, 92, 93, 94, 95, 96, 97, 98, 99, 100, 101, 102, 103, 104, 105, 106, 107, 108, 109, 110, 111, 112, 113, 114, 115, 116, 117, 118, 119, 120, 121, 122, 123, 124, 125, 126, 127, 128, 129, 130, 131, 132, 133, 134, 135, 136, 137] (by decide +kernel) (by decide +kernel)
set_option maxRecDepth 20000 in
theorem gX10_roll_X10_find : GoodIn wsX10_roll (wsV RX10 237 RX10 yX10_find wsX10_find) := goodIn_app (goodIn_of _ (by decide +kernel)) ggX10_roll_X10_find
set_option maxRecDepth 20000 in
theorem ggX10_roll_X10_copy : GoodIn wsX10_roll wsX10_copy := goodIn_r _ [33] (by decide +kernel) (by decide +kernel)
set_option maxRecDepth 20000 in
theorem gX10_roll_X10_copy : GoodIn wsX10_roll (va_wsS RX10 149 yX10_copy wsX10_copy) := goodIn_app (goodIn_of _ (by decide +kernel)) ggX10_roll_X10_copy
set_option maxRecDepth 20000 in
theorem ggX10_roll_X10_giveDice : GoodIn wsX10_roll wsX10_giveDice := goodIn_r _ [81, 82, 2, 3, 83, 84, 85, 86, 87, 88, 89, 90, 91, 92, 93, 94, 95, 96, 97, 98, 99, 100, 101, 102, 103, 104, 105, 106, 107, 108, 109, 110, 111, 112, 113, 114, 115, 116, 117, 118, 119, 120, 121, 122, 123, 124, 125, 126, 127, 128, 129, 130, 131, 132, 133, 134, 135, 136, 137] (by decide +kernel) (by decide +kernel)
set_option maxRecDepth 20000 in
theorem gX10_roll_X10_giveDice : GoodIn wsX10_roll (wsV RX10 241 RX10 yX10_giveDice wsX10_giveDice) := goodIn_app (goodIn_of _ (by decide +kernel)) ggX10_roll_X10_giveDice
theorem dX10_roll_0 : decode cX10_roll 0 = .ok (.aload_n 0, 1) := by decide +kernel
theorem dX10_roll_1 : decode cX10_roll 1 = .ok (.iload_n 1, 1) := by decide +kernel
theorem dX10_roll_2 : decode cX10_roll 2 = .ok (.iconst 1, 1) := by decide +kernel
theorem dX10_roll_3 : decode cX10_roll 3 = .ok (.bipush 6, 2) := by decide +kernel
theorem dX10_roll_5 : decode cX10_roll 5 = .ok (.invokestatic 91, 3) := by decide +kernel
theorem dX10_roll_8 : decode cX10_roll 8 = .ok (.ifCond .eq 13, 3) := by decide +kernel
theorem dX10_roll_11 : decode cX10_roll 11 = .ok (.iload_n 2, 1) := by decide +kernel
theorem dX10_roll_12 : decode cX10_roll 12 = .ok (.iconst 1, 1) := by decide +kernel
theorem dX10_roll_13 : decode cX10_roll 13 = .ok (.bipush 6, 2) := by decide +kernel
theorem dX10_roll_15 : decode cX10_roll 15 = .ok (.invokestatic 91, 3) := by decide +kernel
theorem dX10_roll_18 : decode cX10_roll 18 = .ok (.ifCond .ne 7, 3) := by decide +kernel
theorem dX10_roll_21 : decode cX10_roll 21 = .ok (.iconst 1, 1) := by decide +kernel
theorem dX10_roll_22 : decode cX10_roll 22 = .ok (.goto 17, 3) := by decide +kernel
theorem dX10_roll_25 : decode cX10_roll 25 = .ok (.aload_n 0, 1) := by decide +kernel
theorem dX10_roll_26 : decode cX10_roll 26 = .ok (.getfield 13, 3) := by decide +kernel
theorem dX10_roll_29 : decode cX10_roll 29 = .ok (.bipush 100, 2) := by decide +kernel
theorem dX10_roll_31 : decode cX10_roll 31 = .ok (.if_icmp .eq 7, 3) := by decide +kernel
theorem dX10_roll_34 : decode cX10_roll 34 = .ok (.iconst 2, 1) := by decide +kernel
theorem dX10_roll_35 : decode cX10_roll 35 = .ok (.goto 4, 3) := by decide +kernel
theorem dX10_roll_38 : decode cX10_roll 38 = .ok (.iconst 0, 1) := by decide +kernel
theorem dX10_roll_39 : decode cX10_roll 39 = .ok (.invokevirtual 178, 3) := by decide +kernel
theorem dX10_roll_42 : decode cX10_roll 42 = .ok (.ifCond .eq 5, 3) := by decide +kernel
theorem dX10_roll_45 : decode cX10_roll 45 = .ok (.iconst 0, 1) := by decide +kernel
theorem dX10_roll_46 : decode cX10_roll 46 = .ok (.ireturn, 1) := by decide +kernel
theorem dX10_roll_47 : decode cX10_roll 47 = .ok (.aload_n 0, 1) := by decide +kernel
theorem dX10_roll_48 : decode cX10_roll 48 = .ok (.iload_n 1, 1) := by decide +kernel
theorem dX10_roll_49 : decode cX10_roll 49 = .ok (.iload_n 2, 1) := by decide +kernel
theorem dX10_roll_50 : decode cX10_roll 50 = .ok (.if_icmp .le 7, 3) := by decide +kernel
theorem dX10_roll_53 : decode cX10_roll 53 = .ok (.iload_n 1, 1) := by decide +kernel
theorem dX10_roll_54 : decode cX10_roll 54 = .ok (.goto 4, 3) := by decide +kernel
theorem dX10_roll_57 : decode cX10_roll 57 = .ok (.iload_n 2, 1) := by decide +kernel
theorem dX10_roll_58 : decode cX10_roll 58 = .ok (.putfield 231, 3) := by decide +kernel
theorem dX10_roll_61 : decode cX10_roll 61 = .ok (.aload_n 0, 1) := by decide +kernel
theorem dX10_roll_62 : decode cX10_roll 62 = .ok (.iload_n 1, 1) := by decide +kernel
theorem dX10_roll_63 : decode cX10_roll 63 = .ok (.iload_n 2, 1) := by decide +kernel
theorem dX10_roll_64 : decode cX10_roll 64 = .ok (.if_icmp .le 7, 3) := by decide +kernel
theorem dX10_roll_67 : decode cX10_roll 67 = .ok (.iload_n 2, 1) := by decide +kernel
theorem dX10_roll_68 : decode cX10_roll 68 = .ok (.goto 4, 3) := by decide +kernel
theorem dX10_roll_71 : decode cX10_roll 71 = .ok (.iload_n 1, 1) := by decide +kernel
theorem dX10_roll_72 : decode cX10_roll 72 = .ok (.putfield 234, 3) := by decide +kernel
theorem dX10_roll_75 : decode cX10_roll 75 = .ok (.aload_n 0, 1) := by decide +kernel
theorem dX10_roll_76 : decode cX10_roll 76 = .ok (.getfield 79, 3) := by decide +kernel
theorem dX10_roll_79 : decode cX10_roll 79 = .ok (.iload_n 1, 1) := by decide +kernel
theorem dX10_roll_80 : decode cX10_roll 80 = .ok (.dup2, 1) := by decide +kernel
theorem dX10_roll_81 : decode cX10_roll 81 = .ok (.laload, 1) := by decide +kernel
theorem dX10_roll_82 : decode cX10_roll 82 = .ok (.lconst 1, 1) := by decide +kernel
theorem dX10_roll_83 : decode cX10_roll 83 = .ok (.ladd, 1) := by decide +kernel
theorem dX10_roll_84 : decode cX10_roll 84 = .ok (.lastore, 1) := by decide +kernel
theorem dX10_roll_85 : decode cX10_roll 85 = .ok (.aload_n 0, 1) := by decide +kernel
theorem dX10_roll_86 : decode cX10_roll 86 = .ok (.getfield 79, 3) := by decide +kernel
theorem dX10_roll_89 : decode cX10_roll 89 = .ok (.iload_n 2, 1) := by decide +kernel
theorem dX10_roll_90 : decode cX10_roll 90 = .ok (.dup2, 1) := by decide +kernel
theorem dX10_roll_91 : decode cX10_roll 91 = .ok (.laload, 1) := by decide +kernel
theorem dX10_roll_92 : decode cX10_roll 92 = .ok (.lconst 1, 1) := by decide +kernel
theorem dX10_roll_93 : decode cX10_roll 93 = .ok (.ladd, 1) := by decide +kernel
theorem dX10_roll_94 : decode cX10_roll 94 = .ok (.lastore, 1) := by decide +kernel
theorem dX10_roll_95 : decode cX10_roll 95 = .ok (.aload_n 0, 1) := by decide +kernel
theorem dX10_roll_96 : decode cX10_roll 96 = .ok (.bipush 112, 2) := by decide +kernel
theorem dX10_roll_98 : decode cX10_roll 98 = .ok (.aload_n 0, 1) := by decide +kernel
theorem dX10_roll_99 : decode cX10_roll 99 = .ok (.getfield 17, 3) := by decide +kernel
theorem dX10_roll_102 : decode cX10_roll 102 = .ok (.iconst 0, 1) := by decide +kernel
theorem dX10_roll_103 : decode cX10_roll 103 = .ok (.aload_n 0, 1) := by decide +kernel
theorem dX10_roll_104 : decode cX10_roll 104 = .ok (.getfield 168, 3) := by decide +kernel
theorem dX10_roll_107 : decode cX10_roll 107 = .ok (.iload_n 1, 1) := by decide +kernel
theorem dX10_roll_108 : decode cX10_roll 108 = .ok (.iload_n 2, 1) := by decide +kernel
theorem dX10_roll_109 : decode cX10_roll 109 = .ok (.invokevirtual 237, 3) := by decide +kernel
theorem dX10_roll_112 : decode cX10_roll 112 = .ok (.aload_n 0, 1) := by decide +kernel
theorem dX10_roll_113 : decode cX10_roll 113 = .ok (.getfield 17, 3) := by decide +kernel
theorem dX10_roll_116 : decode cX10_roll 116 = .ok (.iconst 0, 1) := by decide +kernel
theorem dX10_roll_117 : decode cX10_roll 117 = .ok (.aload_n 0, 1) := by decide +kernel
theorem dX10_roll_118 : decode cX10_roll 118 = .ok (.getfield 20, 3) := by decide +kernel
theorem dX10_roll_121 : decode cX10_roll 121 = .ok (.iconst 0, 1) := by decide +kernel
theorem dX10_roll_122 : decode cX10_roll 122 = .ok (.invokestatic 149, 3) := by decide +kernel
theorem dX10_roll_125 : decode cX10_roll 125 = .ok (.aload_n 0, 1) := by decide +kernel
theorem dX10_roll_126 : decode cX10_roll 126 = .ok (.invokevirtual 241, 3) := by decide +kernel
theorem dX10_roll_129 : decode cX10_roll 129 = .ok (.aload_n 0, 1) := by decide +kernel
theorem dX10_roll_130 : decode cX10_roll 130 = .ok (.bipush 114, 2) := by decide +kernel
theorem dX10_roll_132 : decode cX10_roll 132 = .ok (.putfield 13, 3) := by decide +kernel
theorem dX10_roll_135 : decode cX10_roll 135 = .ok (.aload_n 0, 1) := by decide +kernel
theorem dX10_roll_136 : decode cX10_roll 136 = .ok (.getfield 142, 3) := by decide +kernel
theorem dX10_roll_139 : decode cX10_roll 139 = .ok (.ireturn, 1) := by decide +kernel
theorem dX10_giveDice_0 : decode cX10_giveDice 0 = .ok (.iconst 1, 1) := by decide +kernel
theorem dX10_giveDice_1 : decode cX10_giveDice 1 = .ok (.istore_n 1, 1) := by decide +kernel
theorem dX10_giveDice_2 : decode cX10_giveDice 2 = .ok (.iload_n 1, 1) := by decide +kernel
theorem dX10_giveDice_3 : decode cX10_giveDice 3 = .ok (.bipush 6, 2) := by decide +kernel
theorem dX10_giveDice_5 : decode cX10_giveDice 5 = .ok (.if_icmp .gt 56, 3) := by decide +kernel
theorem dX10_giveDice_8 : decode cX10_giveDice 8 = .ok (.aload_n 0, 1) := by decide +kernel
theorem dX10_giveDice_9 : decode cX10_giveDice 9 = .ok (.getfield 30, 3) := by decide +kernel
theorem dX10_giveDice_12 : decode cX10_giveDice 12 = .ok (.iload_n 1, 1) := by decide +kernel
theorem dX10_giveDice_13 : decode cX10_giveDice 13 = .ok (.iload_n 1, 1) := by decide +kernel
theorem dX10_giveDice_14 : decode cX10_giveDice 14 = .ok (.aload_n 0, 1) := by decide +kernel
theorem dX10_giveDice_15 : decode cX10_giveDice 15 = .ok (.getfield 231, 3) := by decide +kernel
theorem dX10_giveDice_18 : decode cX10_giveDice 18 = .ok (.if_icmp .ne 15, 3) := by decide +kernel
theorem dX10_giveDice_21 : decode cX10_giveDice 21 = .ok (.iload_n 1, 1) := by decide +kernel
theorem dX10_giveDice_22 : decode cX10_giveDice 22 = .ok (.aload_n 0, 1) := by decide +kernel
theorem dX10_giveDice_23 : decode cX10_giveDice 23 = .ok (.getfield 234, 3) := by decide +kernel
theorem dX10_giveDice_26 : decode cX10_giveDice 26 = .ok (.if_icmp .ne 7, 3) := by decide +kernel
theorem dX10_giveDice_29 : decode cX10_giveDice 29 = .ok (.iconst 4, 1) := by decide +kernel
theorem dX10_giveDice_30 : decode cX10_giveDice 30 = .ok (.goto 24, 3) := by decide +kernel
theorem dX10_giveDice_33 : decode cX10_giveDice 33 = .ok (.iload_n 1, 1) := by decide +kernel
theorem dX10_giveDice_34 : decode cX10_giveDice 34 = .ok (.aload_n 0, 1) := by decide +kernel
theorem dX10_giveDice_35 : decode cX10_giveDice 35 = .ok (.getfield 231, 3) := by decide +kernel
theorem dX10_giveDice_38 : decode cX10_giveDice 38 = .ok (.if_icmp .eq 11, 3) := by decide +kernel
theorem dX10_giveDice_41 : decode cX10_giveDice 41 = .ok (.iload_n 1, 1) := by decide +kernel
theorem dX10_giveDice_42 : decode cX10_giveDice 42 = .ok (.aload_n 0, 1) := by decide +kernel
theorem dX10_giveDice_43 : decode cX10_giveDice 43 = .ok (.getfield 234, 3) := by decide +kernel
theorem dX10_giveDice_46 : decode cX10_giveDice 46 = .ok (.if_icmp .ne 7, 3) := by decide +kernel
theorem dX10_giveDice_49 : decode cX10_giveDice 49 = .ok (.iconst 1, 1) := by decide +kernel
theorem dX10_giveDice_50 : decode cX10_giveDice 50 = .ok (.goto 4, 3) := by decide +kernel
theorem dX10_giveDice_53 : decode cX10_giveDice 53 = .ok (.iconst 0, 1) := by decide +kernel
theorem dX10_giveDice_54 : decode cX10_giveDice 54 = .ok (.iastore, 1) := by decide +kernel
theorem dX10_giveDice_55 : decode cX10_giveDice 55 = .ok (.iinc 1 1, 3) := by decide +kernel
theorem dX10_giveDice_58 : decode cX10_giveDice 58 = .ok (.goto (-56), 3) := by decide +kernel
theorem dX10_giveDice_61 : decode cX10_giveDice 61 = .ok (.aload_n 0, 1) := by decide +kernel
theorem dX10_giveDice_62 : decode cX10_giveDice 62 = .ok (.iconst 0, 1) := by decide +kernel
theorem dX10_giveDice_63 : decode cX10_giveDice 63 = .ok (.putfield 244, 3) := by decide +kernel
theorem dX10_giveDice_66 : decode cX10_giveDice 66 = .ok (.return_, 1) := by decide +kernel
set_option maxRecDepth 20000 in
theorem ggX10_failsRoll_X10_fails : GoodIn wsX10_failsRoll wsX10_fails := goodIn_r _ [6, 7, 8, 9, 10, 11, 12, 13, 14, 15, 16, 17, 18, 19, 20, 21, 22, 23, 24, 25, 26, 27, 28, 29, 30, 31, 32, 33, 34, 35, 36, 37, 38, 39, 40, 41, 42, 43, 44, 45, 46, 47, 48, 49, 50, 51, 52, 53, 54, 55, 56, 57, 58, 59, 60, 61] (by decide +kernel) (by decide +kernel)
set_option maxRecDepth 20000 in
theorem gX10_failsRoll_X10_fails : GoodIn wsX10_failsRoll (wsV RX10 178 RX10 yX10_fails wsX10_fails) := goodIn_app (goodIn_of _ (by decide +kernel)) ggX10_failsRoll_X10_fails
theorem dX10_failsRoll_0 : decode cX10_failsRoll 0 = .ok (.aload_n 0, 1) := by decide +kernel
theorem dX10_failsRoll_1 : decode cX10_failsRoll 1 = .ok (.aload_n 0, 1) := by decide +kernel
theorem dX10_failsRoll_2 : decode cX10_failsRoll 2 = .ok (.getfield 13, 3) := by decide +kernel
theorem dX10_failsRoll_5 : decode cX10_failsRoll 5 = .ok (.bipush 114, 2) := by decide +kernel
theorem dX10_failsRoll_7 : decode cX10_failsRoll 7 = .ok (.if_icmp .ne 7, 3) := by decide +kernel
theorem dX10_failsRoll_10 : decode cX10_failsRoll 10 = .ok (.iconst 0, 1) := by decide +kernel
theorem dX10_failsRoll_11 : decode cX10_failsRoll 11 = .ok (.goto 4, 3) := by decide +kernel
theorem dX10_failsRoll_14 : decode cX10_failsRoll 14 = .ok (.iconst 1, 1) := by decide +kernel
theorem dX10_failsRoll_15 : decode cX10_failsRoll 15 = .ok (.invokevirtual 178, 3) := by decide +kernel
theorem dX10_failsRoll_18 : decode cX10_failsRoll 18 = .ok (.ireturn, 1) := by decide +kernel
set_option maxRecDepth 20000 in
theorem ggX10_failsPlay_X10_failsRoll : GoodIn wsX10_failsPlay wsX10_failsRoll := goodIn_r _ [6, 7, 8, 9, 10, 5, 11, 12, 16, 17, 18, 19, 20, 21, 22, 23, 24, 25, 26, 27, 28, 29, 30, 31, 32, 33, 34, 35, 36, 37, 38, 39, 40, 41, 42, 43, 44, 45, 46, 47, 48, 49, 50, 51, 52, 53, 54, 55, 56, 57, 58, 59, 60, 61, 62, 63, 64, 65, 66, 67, 68, 69] (by decide +kernel) (by decide +kernel)
set_option maxRecDepth 20000 in
theorem gX10_failsPlay_X10_failsRoll : GoodIn wsX10_failsPlay (wsV RX10 247 RX10 yX10_failsRoll wsX10_failsRoll) := goodIn_app (goodIn_of _ (by decide +kernel)) ggX10_failsPlay_X10_failsRoll
set_option maxRecDepth 20000 in
theorem ggX10_failsPlay_X10_in : GoodIn wsX10_failsPlay wsX10_in := goodIn_r _ [15] (by decide +kernel) (by decide +kernel)
set_option maxRecDepth 20000 in
theorem gX10_failsPlay_X10_in : GoodIn wsX10_failsPlay (va_wsS RX10 91 yX10_in wsX10_in) := goodIn_app (goodIn_of _ (by decide +kernel)) ggX10_failsPlay_X10_in
set_option maxRecDepth 20000 in
theorem ggX10_failsPlay_X10_fails : GoodIn wsX10_failsPlay wsX10_fails := goodIn_r _ [11, 12, 16, 17, 18, 19, 20, 21, 22, 23, 24, 25, 26, 27, 28, 29, 30, 31, 32, 33, 34, 35, 36, 37, 38, 39, 40, 41, 42, 43, 44, 45, 46, 47, 48, 49, 50, 51, 52, 53, 54, 55, 56, 57, 58, 59, 60, 61, 62, 63, 64, 65, 66, 67, 68, 69] (by decide +kernel) (by decide +kernel)
set_option maxRecDepth 20000 in
theorem gX10_failsPlay_X10_fails : GoodIn wsX10_failsPlay (wsV RX10 178 RX10 yX10_fails wsX10_fails) := goodIn_app (goodIn_of _ (by decide +kernel)) ggX10_failsPlay_X10_fails
theorem dX10_failsPlay_0 : decode cX10_failsPlay 0 = .ok (.aload_n 0, 1) := by decide +kernel
theorem dX10_failsPlay_1 : decode cX10_failsPlay 1 = .ok (.invokevirtual 247, 3) := by decide +kernel
theorem dX10_failsPlay_4 : decode cX10_failsPlay 4 = .ok (.ifCond .ne 29, 3) := by decide +kernel
theorem dX10_failsPlay_7 : decode cX10_failsPlay 7 = .ok (.aload_n 0, 1) := by decide +kernel
theorem dX10_failsPlay_8 : decode cX10_failsPlay 8 = .ok (.iload_n 1, 1) := by decide +kernel
theorem dX10_failsPlay_9 : decode cX10_failsPlay 9 = .ok (.iconst 0, 1) := by decide +kernel
theorem dX10_failsPlay_10 : decode cX10_failsPlay 10 = .ok (.aload_n 0, 1) := by decide +kernel
theorem dX10_failsPlay_11 : decode cX10_failsPlay 11 = .ok (.getfield 142, 3) := by decide +kernel
theorem dX10_failsPlay_14 : decode cX10_failsPlay 14 = .ok (.iconst 1, 1) := by decide +kernel
theorem dX10_failsPlay_15 : decode cX10_failsPlay 15 = .ok (.isub, 1) := by decide +kernel
theorem dX10_failsPlay_16 : decode cX10_failsPlay 16 = .ok (.invokestatic 91, 3) := by decide +kernel
theorem dX10_failsPlay_19 : decode cX10_failsPlay 19 = .ok (.ifCond .eq 7, 3) := by decide +kernel
theorem dX10_failsPlay_22 : decode cX10_failsPlay 22 = .ok (.iconst 0, 1) := by decide +kernel
theorem dX10_failsPlay_23 : decode cX10_failsPlay 23 = .ok (.goto 4, 3) := by decide +kernel
theorem dX10_failsPlay_26 : decode cX10_failsPlay 26 = .ok (.iconst 2, 1) := by decide +kernel
theorem dX10_failsPlay_27 : decode cX10_failsPlay 27 = .ok (.invokevirtual 178, 3) := by decide +kernel
theorem dX10_failsPlay_30 : decode cX10_failsPlay 30 = .ok (.ifCond .eq 7, 3) := by decide +kernel
theorem dX10_failsPlay_33 : decode cX10_failsPlay 33 = .ok (.iconst 1, 1) := by decide +kernel
theorem dX10_failsPlay_34 : decode cX10_failsPlay 34 = .ok (.goto 4, 3) := by decide +kernel
theorem dX10_failsPlay_37 : decode cX10_failsPlay 37 = .ok (.iconst 0, 1) := by decide +kernel
theorem dX10_failsPlay_38 : decode cX10_failsPlay 38 = .ok (.ireturn, 1) := by decide +kernel
set_option maxRecDepth 20000 in
theorem ggX10_plays_X10_failsRoll : GoodIn wsX10_plays wsX10_failsRoll := goodIn_r _ [6, 7, 8, 9, 10, 5, 11, 12, 13, 14, 15, 16, 17, 18, 19, 20, 21, 22, 23, 24, 25, 26, 27, 28, 29, 30, 31, 32, 33, 34, 35, 36, 37, 38, 39, 40, 41, 42, 43, 44, 45, 46, 47, 48, 49, 50, 51, 52, 53, 54, 55, 56, 57, 58, 59, 60, 61, 62, 63, 64, 65, 66] (by decide +kernel) (by decide +kernel)
set_option maxRecDepth 20000 in
theorem gX10_plays_X10_failsRoll : GoodIn wsX10_plays (wsV RX10 247 RX10 yX10_failsRoll wsX10_failsRoll) := goodIn_app (goodIn_of _ (by decide +kernel)) ggX10_plays_X10_failsRoll
theorem dX10_plays_0 : decode cX10_plays 0 = .ok (.aload_n 0, 1) := by decide +kernel
theorem dX10_plays_1 : decode cX10_plays 1 = .ok (.invokevirtual 247, 3) := by decide +kernel
theorem dX10_plays_4 : decode cX10_plays 4 = .ok (.ifCond .eq 7, 3) := by decide +kernel
theorem dX10_plays_7 : decode cX10_plays 7 = .ok (.iconst 0, 1) := by decide +kernel
theorem dX10_plays_8 : decode cX10_plays 8 = .ok (.goto 7, 3) := by decide +kernel
theorem dX10_plays_11 : decode cX10_plays 11 = .ok (.aload_n 0, 1) := by decide +kernel
theorem dX10_plays_12 : decode cX10_plays 12 = .ok (.getfield 142, 3) := by decide +kernel
theorem dX10_plays_15 : decode cX10_plays 15 = .ok (.ireturn, 1) := by decide +kernel
set_option maxRecDepth 20000 in
theorem ggX10_moves_X10_failsPlay : GoodIn wsX10_moves wsX10_failsPlay := goodIn_r _ [6, 7, 8, 9, 10, 5, 11, 12, 13, 14, 15, 16, 17, 18, 19, 20, 21, 22, 23, 24, 25, 26, 27, 28, 29, 30, 31, 32, 33, 34, 35, 36, 37, 38, 39, 40, 41, 42, 43, 44, 45, 46, 47, 48, 49, 50, 51, 52, 53, 54, 55, 56, 57, 58, 59, 60, 61, 62, 63, 64, 65, 66, 67, 68, 69, 70, 71, 72, 73, 74] (by decide +kernel) (by decide +kernel)
set_option maxRecDepth 20000 in
theorem gX10_moves_X10_failsPlay : GoodIn wsX10_moves (wsV RX10 250 RX10 yX10_failsPlay wsX10_failsPlay) := goodIn_app (goodIn_of _ (by decide +kernel)) ggX10_moves_X10_failsPlay
theorem dX10_moves_0 : decode cX10_moves 0 = .ok (.aload_n 0, 1) := by decide +kernel
theorem dX10_moves_1 : decode cX10_moves 1 = .ok (.iload_n 1, 1) := by decide +kernel
theorem dX10_moves_2 : decode cX10_moves 2 = .ok (.invokevirtual 250, 3) := by decide +kernel
theorem dX10_moves_5 : decode cX10_moves 5 = .ok (.ifCond .eq 7, 3) := by decide +kernel
theorem dX10_moves_8 : decode cX10_moves 8 = .ok (.iconst 0, 1) := by decide +kernel
theorem dX10_moves_9 : decode cX10_moves 9 = .ok (.goto 9, 3) := by decide +kernel
theorem dX10_moves_12 : decode cX10_moves 12 = .ok (.aload_n 0, 1) := by decide +kernel
theorem dX10_moves_13 : decode cX10_moves 13 = .ok (.getfield 43, 3) := by decide +kernel
theorem dX10_moves_16 : decode cX10_moves 16 = .ok (.iload_n 1, 1) := by decide +kernel
theorem dX10_moves_17 : decode cX10_moves 17 = .ok (.iaload, 1) := by decide +kernel
theorem dX10_moves_18 : decode cX10_moves 18 = .ok (.ireturn, 1) := by decide +kernel
set_option maxRecDepth 20000 in
theorem ggX10_failsMove_X10_failsPlay : GoodIn wsX10_failsMove wsX10_failsPlay := goodIn_r _ [6, 7, 8, 9, 10, 5, 11, 12, 13, 14, 15, 16, 17, 18, 19, 20, 21, 22, 23, 24, 25, 26, 27, 28, 29, 30, 31, 32, 33, 34, 35, 36, 37, 38, 39, 40, 41, 42, 43, 44, 45, 46, 47, 48, 49, 50, 51, 52, 53, 54, 55, 56, 57, 58, 59, 60, 61, 62, 63, 64, 65, 66, 67, 68, 69, 70, 71, 72, 73, 74] (by decide +kernel) (by decide +kernel)
set_option maxRecDepth 20000 in
theorem gX10_failsMove_X10_failsPlay : GoodIn wsX10_failsMove (wsV RX10 250 RX10 yX10_failsPlay wsX10_failsPlay) := goodIn_app (goodIn_of _ (by decide +kernel)) ggX10_failsMove_X10_failsPlay
set_option maxRecDepth 20000 in
theorem ggX10_failsMove_X10_in : GoodIn wsX10_failsMove wsX10_in := goodIn_r _ [20] (by decide +kernel) (by decide +kernel)
set_option maxRecDepth 20000 in
theorem gX10_failsMove_X10_in : GoodIn wsX10_failsMove (va_wsS RX10 91 yX10_in wsX10_in) := goodIn_app (goodIn_of _ (by decide +kernel)) ggX10_failsMove_X10_in
set_option maxRecDepth 20000 in
theorem ggX10_failsMove_X10_fails : GoodIn wsX10_failsMove wsX10_fails := goodIn_r _ [16, 17, 21, 22, 23, 24, 25, 26, 27, 28, 29, 30, 31, 32, 33, 34, 35, 36, 37, 38, 39, 40, 41, 42, 43, 44, 45, 46, 47, 48, 49, 50, 51, 52, 53, 54, 55, 56, 57, 58, 59, 60, 61, 62, 63, 64, 65, 66, 67, 68, 69, 70, 71, 72, 73, 74] (by decide +kernel) (by decide +kernel)
set_option maxRecDepth 20000 in
theorem gX10_failsMove_X10_fails : GoodIn wsX10_failsMove (wsV RX10 178 RX10 yX10_fails wsX10_fails) := goodIn_app (goodIn_of _ (by decide +kernel)) ggX10_failsMove_X10_fails
theorem dX10_failsMove_0 : decode cX10_failsMove 0 = .ok (.aload_n 0, 1) := by decide +kernel
theorem dX10_failsMove_1 : decode cX10_failsMove 1 = .ok (.iload_n 1, 1) := by decide +kernel
theorem dX10_failsMove_2 : decode cX10_failsMove 2 = .ok (.invokevirtual 250, 3) := by decide +kernel
theorem dX10_failsMove_5 : decode cX10_failsMove 5 = .ok (.ifCond .ne 31, 3) := by decide +kernel
theorem dX10_failsMove_8 : decode cX10_failsMove 8 = .ok (.aload_n 0, 1) := by decide +kernel
theorem dX10_failsMove_9 : decode cX10_failsMove 9 = .ok (.iload_n 2, 1) := by decide +kernel
theorem dX10_failsMove_10 : decode cX10_failsMove 10 = .ok (.iconst 0, 1) := by decide +kernel
theorem dX10_failsMove_11 : decode cX10_failsMove 11 = .ok (.aload_n 0, 1) := by decide +kernel
theorem dX10_failsMove_12 : decode cX10_failsMove 12 = .ok (.getfield 43, 3) := by decide +kernel
theorem dX10_failsMove_15 : decode cX10_failsMove 15 = .ok (.iload_n 1, 1) := by decide +kernel
theorem dX10_failsMove_16 : decode cX10_failsMove 16 = .ok (.iaload, 1) := by decide +kernel
theorem dX10_failsMove_17 : decode cX10_failsMove 17 = .ok (.iconst 1, 1) := by decide +kernel
theorem dX10_failsMove_18 : decode cX10_failsMove 18 = .ok (.isub, 1) := by decide +kernel
theorem dX10_failsMove_19 : decode cX10_failsMove 19 = .ok (.invokestatic 91, 3) := by decide +kernel
theorem dX10_failsMove_22 : decode cX10_failsMove 22 = .ok (.ifCond .eq 7, 3) := by decide +kernel
theorem dX10_failsMove_25 : decode cX10_failsMove 25 = .ok (.iconst 0, 1) := by decide +kernel
theorem dX10_failsMove_26 : decode cX10_failsMove 26 = .ok (.goto 4, 3) := by decide +kernel
theorem dX10_failsMove_29 : decode cX10_failsMove 29 = .ok (.iconst 2, 1) := by decide +kernel
theorem dX10_failsMove_30 : decode cX10_failsMove 30 = .ok (.invokevirtual 178, 3) := by decide +kernel
theorem dX10_failsMove_33 : decode cX10_failsMove 33 = .ok (.ifCond .eq 7, 3) := by decide +kernel
theorem dX10_failsMove_36 : decode cX10_failsMove 36 = .ok (.iconst 1, 1) := by decide +kernel
theorem dX10_failsMove_37 : decode cX10_failsMove 37 = .ok (.goto 4, 3) := by decide +kernel
theorem dX10_failsMove_40 : decode cX10_failsMove 40 = .ok (.iconst 0, 1) := by decide +kernel
theorem dX10_failsMove_41 : decode cX10_failsMove 41 = .ok (.ireturn, 1) := by decide +kernel
set_option maxRecDepth 20000 in
theorem ggX10_moveFrom_X10_failsMove : GoodIn wsX10_moveFrom wsX10_failsMove := goodIn_r _ [6, 7, 8, 9, 10, 5, 11, 12, 13, 14, 15, 16, 17, 18, 19, 20, 21, 22, 23, 24, 25, 26, 27, 28, 29, 30, 31, 32, 33, 34, 35, 36, 37, 38, 39, 40, 41, 42, 43, 44, 45, 46, 47, 48, 49, 50, 51, 52, 53, 54, 55, 56, 57, 58, 59, 60, 61, 62, 63, 64, 65, 66, 67, 68, 69, 70, 71, 72, 73, 74, 75, 76, 77, 78, 79] (by decide +kernel) (by decide +kernel)
set_option maxRecDepth 20000 in
theorem gX10_moveFrom_X10_failsMove : GoodIn wsX10_moveFrom (wsV RX10 253 RX10 yX10_failsMove wsX10_failsMove) := goodIn_app (goodIn_of _ (by decide +kernel)) ggX10_moveFrom_X10_failsMove
theorem dX10_moveFrom_0 : decode cX10_moveFrom 0 = .ok (.aload_n 0, 1) := by decide +kernel
theorem dX10_moveFrom_1 : decode cX10_moveFrom 1 = .ok (.iload_n 1, 1) := by decide +kernel
theorem dX10_moveFrom_2 : decode cX10_moveFrom 2 = .ok (.iload_n 2, 1) := by decide +kernel
theorem dX10_moveFrom_3 : decode cX10_moveFrom 3 = .ok (.invokevirtual 253, 3) := by decide +kernel
theorem dX10_moveFrom_6 : decode cX10_moveFrom 6 = .ok (.ifCond .eq 7, 3) := by decide +kernel
theorem dX10_moveFrom_9 : decode cX10_moveFrom 9 = .ok (.iconst 0, 1) := by decide +kernel
theorem dX10_moveFrom_10 : decode cX10_moveFrom 10 = .ok (.goto 13, 3) := by decide +kernel
theorem dX10_moveFrom_13 : decode cX10_moveFrom 13 = .ok (.aload_n 0, 1) := by decide +kernel
theorem dX10_moveFrom_14 : decode cX10_moveFrom 14 = .ok (.getfield 37, 3) := by decide +kernel
theorem dX10_moveFrom_17 : decode cX10_moveFrom 17 = .ok (.iconst 4, 1) := by decide +kernel
theorem dX10_moveFrom_18 : decode cX10_moveFrom 18 = .ok (.iload_n 1, 1) := by decide +kernel
theorem dX10_moveFrom_19 : decode cX10_moveFrom 19 = .ok (.imul, 1) := by decide +kernel
theorem dX10_moveFrom_20 : decode cX10_moveFrom 20 = .ok (.iload_n 2, 1) := by decide +kernel
theorem dX10_moveFrom_21 : decode cX10_moveFrom 21 = .ok (.iadd, 1) := by decide +kernel
theorem dX10_moveFrom_22 : decode cX10_moveFrom 22 = .ok (.iaload, 1) := by decide +kernel
theorem dX10_moveFrom_23 : decode cX10_moveFrom 23 = .ok (.ireturn, 1) := by decide +kernel
set_option maxRecDepth 20000 in
theorem ggX10_moveTo_X10_failsMove : GoodIn wsX10_moveTo wsX10_failsMove := goodIn_r _ [6, 7, 8, 9, 10, 5, 11, 12, 13, 14, 15, 16, 17, 18, 19, 20, 21, 22, 23, 24, 25, 26, 27, 28, 29, 30, 31, 32, 33, 34, 35, 36, 37, 38, 39, 40, 41, 42, 43, 44, 45, 46, 47, 48, 49, 50, 51, 52, 53, 54, 55, 56, 57, 58, 59, 60, 61, 62, 63, 64, 65, 66, 67, 68, 69, 70, 71, 72, 73, 74, 75, 76, 77, 78, 79] (by decide +kernel) (by decide +kernel)
set_option maxRecDepth 20000 in
theorem gX10_moveTo_X10_failsMove : GoodIn wsX10_moveTo (wsV RX10 253 RX10 yX10_failsMove wsX10_failsMove) := goodIn_app (goodIn_of _ (by decide +kernel)) ggX10_moveTo_X10_failsMove
theorem dX10_moveTo_0 : decode cX10_moveTo 0 = .ok (.aload_n 0, 1) := by decide +kernel
theorem dX10_moveTo_1 : decode cX10_moveTo 1 = .ok (.iload_n 1, 1) := by decide +kernel
theorem dX10_moveTo_2 : decode cX10_moveTo 2 = .ok (.iload_n 2, 1) := by decide +kernel
theorem dX10_moveTo_3 : decode cX10_moveTo 3 = .ok (.invokevirtual 253, 3) := by decide +kernel
theorem dX10_moveTo_6 : decode cX10_moveTo 6 = .ok (.ifCond .eq 7, 3) := by decide +kernel
theorem dX10_moveTo_9 : decode cX10_moveTo 9 = .ok (.iconst 0, 1) := by decide +kernel
theorem dX10_moveTo_10 : decode cX10_moveTo 10 = .ok (.goto 13, 3) := by decide +kernel
theorem dX10_moveTo_13 : decode cX10_moveTo 13 = .ok (.aload_n 0, 1) := by decide +kernel
theorem dX10_moveTo_14 : decode cX10_moveTo 14 = .ok (.getfield 40, 3) := by decide +kernel
theorem dX10_moveTo_17 : decode cX10_moveTo 17 = .ok (.iconst 4, 1) := by decide +kernel
theorem dX10_moveTo_18 : decode cX10_moveTo 18 = .ok (.iload_n 1, 1) := by decide +kernel
theorem dX10_moveTo_19 : decode cX10_moveTo 19 = .ok (.imul, 1) := by decide +kernel
theorem dX10_moveTo_20 : decode cX10_moveTo 20 = .ok (.iload_n 2, 1) := by decide +kernel
theorem dX10_moveTo_21 : decode cX10_moveTo 21 = .ok (.iadd, 1) := by decide +kernel
theorem dX10_moveTo_22 : decode cX10_moveTo 22 = .ok (.iaload, 1) := by decide +kernel
theorem dX10_moveTo_23 : decode cX10_moveTo 23 = .ok (.ireturn, 1) := by decide +kernel
set_option maxRecDepth 20000 in
theorem ggX10_countMen_X10_on : GoodIn wsX10_countMen wsX10_on := goodIn_r _ [5] (by decide +kernel) (by decide +kernel)
set_option maxRecDepth 20000 in
theorem gX10_countMen_X10_on : GoodIn wsX10_countMen (va_wsS RX10 95 yX10_on wsX10_on) := goodIn_app (goodIn_of _ (by decide +kernel)) ggX10_countMen_X10_on
theorem dX10_countMen_0 : decode cX10_countMen 0 = .ok (.iconst 0, 1) := by decide +kernel
theorem dX10_countMen_1 : decode cX10_countMen 1 = .ok (.istore 4, 2) := by decide +kernel
theorem dX10_countMen_3 : decode cX10_countMen 3 = .ok (.iload_n 2, 1) := by decide +kernel
theorem dX10_countMen_4 : decode cX10_countMen 4 = .ok (.istore 5, 2) := by decide +kernel
theorem dX10_countMen_6 : decode cX10_countMen 6 = .ok (.iload 5, 2) := by decide +kernel
theorem dX10_countMen_8 : decode cX10_countMen 8 = .ok (.iload_n 3, 1) := by decide +kernel
theorem dX10_countMen_9 : decode cX10_countMen 9 = .ok (.if_icmp .gt 25, 3) := by decide +kernel
theorem dX10_countMen_12 : decode cX10_countMen 12 = .ok (.iload 4, 2) := by decide +kernel
theorem dX10_countMen_14 : decode cX10_countMen 14 = .ok (.aload_n 0, 1) := by decide +kernel
theorem dX10_countMen_15 : decode cX10_countMen 15 = .ok (.getfield 17, 3) := by decide +kernel
theorem dX10_countMen_18 : decode cX10_countMen 18 = .ok (.iconst 0, 1) := by decide +kernel
theorem dX10_countMen_19 : decode cX10_countMen 19 = .ok (.iload_n 1, 1) := by decide +kernel
theorem dX10_countMen_20 : decode cX10_countMen 20 = .ok (.iload 5, 2) := by decide +kernel
theorem dX10_countMen_22 : decode cX10_countMen 22 = .ok (.invokestatic 95, 3) := by decide +kernel
theorem dX10_countMen_25 : decode cX10_countMen 25 = .ok (.iadd, 1) := by decide +kernel
theorem dX10_countMen_26 : decode cX10_countMen 26 = .ok (.istore 4, 2) := by decide +kernel
theorem dX10_countMen_28 : decode cX10_countMen 28 = .ok (.iinc 5 1, 3) := by decide +kernel
theorem dX10_countMen_31 : decode cX10_countMen 31 = .ok (.goto (-25), 3) := by decide +kernel
theorem dX10_countMen_34 : decode cX10_countMen 34 = .ok (.iload 4, 2) := by decide +kernel
theorem dX10_countMen_36 : decode cX10_countMen 36 = .ok (.ireturn, 1) := by decide +kernel
set_option maxRecDepth 20000 in
theorem ggX10_make_X10_bestWorth : GoodIn wsX10_make wsX10_bestWorth := goodIn_r _ [18, 19, 20, 21, 22, 17, 23, 10, 13, 24, 25, 26, 27, 28, 29, 30, 31, 32, 33, 34, 35, 65, 66, 67, 68, 69, 70, 71, 72, 73, 74, 75, 76, 77, 78, 79, 80, 81, 82, 83, 84, 85, 86, 87, 88, 89, 90, 91, 92, 93, 94, 95, 96, 97, 98, 99, 100, 101, 102, 103, 104, 105, 106, 107, 108, 109, 110, 111, 112, 113, 114, 115, 116, 117, 118] (by decide +kernel) (by decide +kernel)
set_option maxRecDepth 20000 in
theorem gX10_make_X10_bestWorth : GoodIn wsX10_make (wsV RX10 267 RX10 yX10_bestWorth wsX10_bestWorth) := goodIn_app (goodIn_of _ (by decide +kernel)) ggX10_make_X10_bestWorth
set_option maxRecDepth 20000 in
theorem ggX10_make_X10_worthBehind : GoodIn wsX10_make wsX10_worthBehind := goodIn_r _ [23, 10, 13, 24, 25, 17, 26, 27, 28, 29, 30, 31, 32, 33, 34, 35, 65, 66, 67, 68, 69, 70, 71, 72, 73, 74, 75, 76, 77, 78, 79, 80, 81, 82, 83, 84, 85, 86, 87, 88, 89, 90, 91, 92, 93, 94, 95, 96, 97, 98, 99, 100, 101, 102, 103, 104, 105, 106, 107, 108, 109, 110, 111, 112, 113, 114, 115, 116, 117, 118] (by decide +kernel) (by decide +kernel)
set_option maxRecDepth 20000 in
theorem gX10_make_X10_worthBehind : GoodIn wsX10_make (wsV RX10 171 RX10 yX10_worthBehind wsX10_worthBehind) := goodIn_app (goodIn_of _ (by decide +kernel)) ggX10_make_X10_worthBehind
set_option maxRecDepth 20000 in
theorem ggX10_make_X10_copy : GoodIn wsX10_make wsX10_copy := goodIn_r _ [38] (by decide +kernel) (by decide +kernel)
set_option maxRecDepth 20000 in
theorem gX10_make_X10_copy : GoodIn wsX10_make (va_wsS RX10 149 yX10_copy wsX10_copy) := goodIn_app (goodIn_of _ (by decide +kernel)) ggX10_make_X10_copy
set_option maxRecDepth 20000 in
theorem ggX10_make_X10_countMen : GoodIn wsX10_make wsX10_countMen := goodIn_r _ [42, 11, 30, 31, 17, 32, 65, 66, 67, 68, 69, 70, 71, 72, 73, 74, 75, 76, 77, 78, 79, 80, 81, 82, 83, 84, 85, 86, 87, 88, 89, 90, 91, 92, 93, 94, 95, 96, 97, 98, 99, 100, 101, 102, 103, 104, 105, 106, 107, 108, 109, 110, 111, 112, 113, 114, 115, 116, 117, 118] (by decide +kernel) (by decide +kernel)
set_option maxRecDepth 20000 in
theorem gX10_make_X10_countMen : GoodIn wsX10_make (wsV RX10 271 RX10 yX10_countMen wsX10_countMen) := goodIn_app (goodIn_of _ (by decide +kernel)) ggX10_make_X10_countMen
set_option maxRecDepth 20000 in
theorem ggX10_make_X10_on : GoodIn wsX10_make wsX10_on := goodIn_r _ [32] (by decide +kernel) (by decide +kernel)
set_option maxRecDepth 20000 in
theorem gX10_make_X10_on : GoodIn wsX10_make (va_wsS RX10 95 yX10_on wsX10_on) := goodIn_app (goodIn_of _ (by decide +kernel)) ggX10_make_X10_on
set_option maxRecDepth 20000 in
theorem ggX10_make_X10_end_ : GoodIn wsX10_make wsX10_end_ := goodIn_r _ [46, 47, 48, 49, 50, 51, 52, 12, 53, 54, 55, 56, 57, 58, 17, 59, 60, 61, 62, 63, 64, 65, 66, 67, 68, 69, 70, 71, 72, 73, 74, 75, 76, 77, 78, 79, 80, 81, 82, 83, 84, 85, 86, 87, 88, 89, 90, 91, 92, 93, 94, 95, 96, 97, 98, 99, 100, 101, 102, 103, 104, 105, 106, 107, 108, 109, 110, 111, 112, 113, 114, 115, 116, 117, 118] (by decide +kernel) (by decide +kernel)
set_option maxRecDepth 20000 in
theorem gX10_make_X10_end_ : GoodIn wsX10_make (wsV RX10 275 RX10 yX10_end_ wsX10_end_) := goodIn_app (goodIn_of _ (by decide +kernel)) ggX10_make_X10_end_
theorem dX10_make_0 : decode cX10_make 0 = .ok (.aload_n 0, 1) := by decide +kernel
theorem dX10_make_1 : decode cX10_make 1 = .ok (.getfield 46, 3) := by decide +kernel
theorem dX10_make_4 : decode cX10_make 4 = .ok (.iload_n 1, 1) := by decide +kernel
theorem dX10_make_5 : decode cX10_make 5 = .ok (.iaload, 1) := by decide +kernel
theorem dX10_make_6 : decode cX10_make 6 = .ok (.istore_n 2, 1) := by decide +kernel
theorem dX10_make_7 : decode cX10_make 7 = .ok (.aload_n 0, 1) := by decide +kernel
theorem dX10_make_8 : decode cX10_make 8 = .ok (.dup, 1) := by decide +kernel
theorem dX10_make_9 : decode cX10_make 9 = .ok (.getfield 257, 3) := by decide +kernel
theorem dX10_make_12 : decode cX10_make 12 = .ok (.iconst 1, 1) := by decide +kernel
theorem dX10_make_13 : decode cX10_make 13 = .ok (.iadd, 1) := by decide +kernel
theorem dX10_make_14 : decode cX10_make 14 = .ok (.putfield 257, 3) := by decide +kernel
theorem dX10_make_17 : decode cX10_make 17 = .ok (.aload_n 0, 1) := by decide +kernel
theorem dX10_make_18 : decode cX10_make 18 = .ok (.dup, 1) := by decide +kernel
theorem dX10_make_19 : decode cX10_make 19 = .ok (.getfield 260, 3) := by decide +kernel
theorem dX10_make_22 : decode cX10_make 22 = .ok (.iload_n 2, 1) := by decide +kernel
theorem dX10_make_23 : decode cX10_make 23 = .ok (.ifCond .le 7, 3) := by decide +kernel
theorem dX10_make_26 : decode cX10_make 26 = .ok (.iconst 1, 1) := by decide +kernel
theorem dX10_make_27 : decode cX10_make 27 = .ok (.goto 4, 3) := by decide +kernel
theorem dX10_make_30 : decode cX10_make 30 = .ok (.iconst 0, 1) := by decide +kernel
theorem dX10_make_31 : decode cX10_make 31 = .ok (.iadd, 1) := by decide +kernel
theorem dX10_make_32 : decode cX10_make 32 = .ok (.putfield 260, 3) := by decide +kernel
theorem dX10_make_35 : decode cX10_make 35 = .ok (.aload_n 0, 1) := by decide +kernel
theorem dX10_make_36 : decode cX10_make 36 = .ok (.dup, 1) := by decide +kernel
theorem dX10_make_37 : decode cX10_make 37 = .ok (.getfield 263, 3) := by decide +kernel
theorem dX10_make_40 : decode cX10_make 40 = .ok (.aload_n 0, 1) := by decide +kernel
theorem dX10_make_41 : decode cX10_make 41 = .ok (.invokevirtual 267, 3) := by decide +kernel
theorem dX10_make_44 : decode cX10_make 44 = .ok (.aload_n 0, 1) := by decide +kernel
theorem dX10_make_45 : decode cX10_make 45 = .ok (.iload_n 1, 1) := by decide +kernel
theorem dX10_make_46 : decode cX10_make 46 = .ok (.invokevirtual 171, 3) := by decide +kernel
theorem dX10_make_49 : decode cX10_make 49 = .ok (.isub, 1) := by decide +kernel
theorem dX10_make_50 : decode cX10_make 50 = .ok (.i2l, 1) := by decide +kernel
theorem dX10_make_51 : decode cX10_make 51 = .ok (.ladd, 1) := by decide +kernel
theorem dX10_make_52 : decode cX10_make 52 = .ok (.putfield 263, 3) := by decide +kernel
theorem dX10_make_55 : decode cX10_make 55 = .ok (.aload_n 0, 1) := by decide +kernel
theorem dX10_make_56 : decode cX10_make 56 = .ok (.getfield 210, 3) := by decide +kernel
theorem dX10_make_59 : decode cX10_make 59 = .ok (.sipush 2048, 3) := by decide +kernel
theorem dX10_make_62 : decode cX10_make 62 = .ok (.if_icmp .ge 44, 3) := by decide +kernel
theorem dX10_make_65 : decode cX10_make 65 = .ok (.aload_n 0, 1) := by decide +kernel
theorem dX10_make_66 : decode cX10_make 66 = .ok (.getfield 73, 3) := by decide +kernel
theorem dX10_make_69 : decode cX10_make 69 = .ok (.aload_n 0, 1) := by decide +kernel
theorem dX10_make_70 : decode cX10_make 70 = .ok (.getfield 210, 3) := by decide +kernel
theorem dX10_make_73 : decode cX10_make 73 = .ok (.iload_n 1, 1) := by decide +kernel
theorem dX10_make_74 : decode cX10_make 74 = .ok (.iastore, 1) := by decide +kernel
theorem dX10_make_75 : decode cX10_make 75 = .ok (.aload_n 0, 1) := by decide +kernel
theorem dX10_make_76 : decode cX10_make 76 = .ok (.getfield 76, 3) := by decide +kernel
theorem dX10_make_79 : decode cX10_make 79 = .ok (.aload_n 0, 1) := by decide +kernel
theorem dX10_make_80 : decode cX10_make 80 = .ok (.getfield 210, 3) := by decide +kernel
theorem dX10_make_83 : decode cX10_make 83 = .ok (.bipush 10, 2) := by decide +kernel
theorem dX10_make_85 : decode cX10_make 85 = .ok (.aload_n 0, 1) := by decide +kernel
theorem dX10_make_86 : decode cX10_make 86 = .ok (.getfield 231, 3) := by decide +kernel
theorem dX10_make_89 : decode cX10_make 89 = .ok (.imul, 1) := by decide +kernel
theorem dX10_make_90 : decode cX10_make 90 = .ok (.aload_n 0, 1) := by decide +kernel
theorem dX10_make_91 : decode cX10_make 91 = .ok (.getfield 234, 3) := by decide +kernel
theorem dX10_make_94 : decode cX10_make 94 = .ok (.iadd, 1) := by decide +kernel
theorem dX10_make_95 : decode cX10_make 95 = .ok (.iastore, 1) := by decide +kernel
theorem dX10_make_96 : decode cX10_make 96 = .ok (.aload_n 0, 1) := by decide +kernel
theorem dX10_make_97 : decode cX10_make 97 = .ok (.dup, 1) := by decide +kernel
theorem dX10_make_98 : decode cX10_make 98 = .ok (.getfield 210, 3) := by decide +kernel
theorem dX10_make_101 : decode cX10_make 101 = .ok (.iconst 1, 1) := by decide +kernel
theorem dX10_make_102 : decode cX10_make 102 = .ok (.iadd, 1) := by decide +kernel
theorem dX10_make_103 : decode cX10_make 103 = .ok (.putfield 210, 3) := by decide +kernel
theorem dX10_make_106 : decode cX10_make 106 = .ok (.aload_n 0, 1) := by decide +kernel
theorem dX10_make_107 : decode cX10_make 107 = .ok (.getfield 34, 3) := by decide +kernel
theorem dX10_make_110 : decode cX10_make 110 = .ok (.bipush 52, 2) := by decide +kernel
theorem dX10_make_112 : decode cX10_make 112 = .ok (.iload_n 1, 1) := by decide +kernel
theorem dX10_make_113 : decode cX10_make 113 = .ok (.imul, 1) := by decide +kernel
theorem dX10_make_114 : decode cX10_make 114 = .ok (.aload_n 0, 1) := by decide +kernel
theorem dX10_make_115 : decode cX10_make 115 = .ok (.getfield 17, 3) := by decide +kernel
theorem dX10_make_118 : decode cX10_make 118 = .ok (.iconst 0, 1) := by decide +kernel
theorem dX10_make_119 : decode cX10_make 119 = .ok (.invokestatic 149, 3) := by decide +kernel
theorem dX10_make_122 : decode cX10_make 122 = .ok (.aload_n 0, 1) := by decide +kernel
theorem dX10_make_123 : decode cX10_make 123 = .ok (.bipush 100, 2) := by decide +kernel
theorem dX10_make_125 : decode cX10_make 125 = .ok (.putfield 13, 3) := by decide +kernel
theorem dX10_make_128 : decode cX10_make 128 = .ok (.aload_n 0, 1) := by decide +kernel
theorem dX10_make_129 : decode cX10_make 129 = .ok (.aload_n 0, 1) := by decide +kernel
theorem dX10_make_130 : decode cX10_make 130 = .ok (.getfield 168, 3) := by decide +kernel
theorem dX10_make_133 : decode cX10_make 133 = .ok (.iconst 1, 1) := by decide +kernel
theorem dX10_make_134 : decode cX10_make 134 = .ok (.bipush 25, 2) := by decide +kernel
theorem dX10_make_136 : decode cX10_make 136 = .ok (.invokevirtual 271, 3) := by decide +kernel
theorem dX10_make_139 : decode cX10_make 139 = .ok (.ifCond .ne 70, 3) := by decide +kernel
theorem dX10_make_142 : decode cX10_make 142 = .ok (.iconst 1, 1) := by decide +kernel
theorem dX10_make_143 : decode cX10_make 143 = .ok (.aload_n 0, 1) := by decide +kernel
theorem dX10_make_144 : decode cX10_make 144 = .ok (.getfield 168, 3) := by decide +kernel
theorem dX10_make_147 : decode cX10_make 147 = .ok (.isub, 1) := by decide +kernel
theorem dX10_make_148 : decode cX10_make 148 = .ok (.istore_n 3, 1) := by decide +kernel
theorem dX10_make_149 : decode cX10_make 149 = .ok (.aload_n 0, 1) := by decide +kernel
theorem dX10_make_150 : decode cX10_make 150 = .ok (.iload_n 3, 1) := by decide +kernel
theorem dX10_make_151 : decode cX10_make 151 = .ok (.bipush 19, 2) := by decide +kernel
theorem dX10_make_153 : decode cX10_make 153 = .ok (.bipush 25, 2) := by decide +kernel
theorem dX10_make_155 : decode cX10_make 155 = .ok (.invokevirtual 271, 3) := by decide +kernel
theorem dX10_make_158 : decode cX10_make 158 = .ok (.ifCond .le 7, 3) := by decide +kernel
theorem dX10_make_161 : decode cX10_make 161 = .ok (.iconst 1, 1) := by decide +kernel
theorem dX10_make_162 : decode cX10_make 162 = .ok (.goto 4, 3) := by decide +kernel
theorem dX10_make_165 : decode cX10_make 165 = .ok (.iconst 0, 1) := by decide +kernel
theorem dX10_make_166 : decode cX10_make 166 = .ok (.istore 4, 2) := by decide +kernel
theorem dX10_make_168 : decode cX10_make 168 = .ok (.aload_n 0, 1) := by decide +kernel
theorem dX10_make_169 : decode cX10_make 169 = .ok (.aload_n 0, 1) := by decide +kernel
theorem dX10_make_170 : decode cX10_make 170 = .ok (.getfield 168, 3) := by decide +kernel
theorem dX10_make_173 : decode cX10_make 173 = .ok (.aload_n 0, 1) := by decide +kernel
theorem dX10_make_174 : decode cX10_make 174 = .ok (.getfield 17, 3) := by decide +kernel
theorem dX10_make_177 : decode cX10_make 177 = .ok (.iconst 0, 1) := by decide +kernel
theorem dX10_make_178 : decode cX10_make 178 = .ok (.iload_n 3, 1) := by decide +kernel
theorem dX10_make_179 : decode cX10_make 179 = .ok (.iconst 0, 1) := by decide +kernel
theorem dX10_make_180 : decode cX10_make 180 = .ok (.invokestatic 95, 3) := by decide +kernel
theorem dX10_make_183 : decode cX10_make 183 = .ok (.ifCond .le 7, 3) := by decide +kernel
theorem dX10_make_186 : decode cX10_make 186 = .ok (.iconst 1, 1) := by decide +kernel
theorem dX10_make_187 : decode cX10_make 187 = .ok (.goto 13, 3) := by decide +kernel
theorem dX10_make_190 : decode cX10_make 190 = .ok (.iload 4, 2) := by decide +kernel
theorem dX10_make_192 : decode cX10_make 192 = .ok (.ifCond .eq 7, 3) := by decide +kernel
theorem dX10_make_195 : decode cX10_make 195 = .ok (.iconst 3, 1) := by decide +kernel
theorem dX10_make_196 : decode cX10_make 196 = .ok (.goto 4, 3) := by decide +kernel
theorem dX10_make_199 : decode cX10_make 199 = .ok (.iconst 2, 1) := by decide +kernel
theorem dX10_make_200 : decode cX10_make 200 = .ok (.iconst 0, 1) := by decide +kernel
theorem dX10_make_201 : decode cX10_make 201 = .ok (.invokevirtual 275, 3) := by decide +kernel
theorem dX10_make_204 : decode cX10_make 204 = .ok (.istore 5, 2) := by decide +kernel
theorem dX10_make_206 : decode cX10_make 206 = .ok (.goto 13, 3) := by decide +kernel
theorem dX10_make_209 : decode cX10_make 209 = .ok (.aload_n 0, 1) := by decide +kernel
theorem dX10_make_210 : decode cX10_make 210 = .ok (.iconst 1, 1) := by decide +kernel
theorem dX10_make_211 : decode cX10_make 211 = .ok (.aload_n 0, 1) := by decide +kernel
theorem dX10_make_212 : decode cX10_make 212 = .ok (.getfield 168, 3) := by decide +kernel
theorem dX10_make_215 : decode cX10_make 215 = .ok (.isub, 1) := by decide +kernel
theorem dX10_make_216 : decode cX10_make 216 = .ok (.putfield 168, 3) := by decide +kernel
theorem dX10_make_219 : decode cX10_make 219 = .ok (.iload_n 2, 1) := by decide +kernel
theorem dX10_make_220 : decode cX10_make 220 = .ok (.ireturn, 1) := by decide +kernel
set_option maxRecDepth 20000 in
theorem ggX10_play_X10_failsPlay : GoodIn wsX10_play wsX10_failsPlay := goodIn_r _ [5, 6, 7, 8, 9, 4, 10, 11, 12, 13, 14, 15, 16, 17, 18, 19, 85, 86, 87, 88, 89, 90, 91, 92, 93, 94, 95, 96, 97, 98, 99, 100, 101, 102, 103, 104, 105, 106, 107, 108, 109, 110, 111, 112, 113, 114, 115, 116, 117, 118, 119, 120, 121, 122, 123, 124, 125, 126, 127, 128, 129, 130, 131, 132, 133, 134, 135, 136, 137, 138] (by decide +kernel) (by decide +kernel)
set_option maxRecDepth 20000 in
theorem gX10_play_X10_failsPlay : GoodIn wsX10_play (wsV RX10 250 RX10 yX10_failsPlay wsX10_failsPlay) := goodIn_app (goodIn_of _ (by decide +kernel)) ggX10_play_X10_failsPlay
set_option maxRecDepth 20000 in
theorem ggX10_play_X10_make : GoodIn wsX10_play wsX10_make := goodIn_r _ [23, 24, 25, 26, 27, 28, 29, 30, 31, 32, 33, 34, 11, 35, 36, 37, 38, 4, 39, 6, 40, 41, 42, 43, 44, 45, 46, 47, 48, 49, 50, 51, 52, 53, 54, 55, 56, 57, 58, 59, 60, 61, 62, 63, 64, 65, 66, 67, 68, 69, 70, 71, 72, 73, 74, 75, 76, 77, 78, 79, 80, 81, 82, 83, 84, 85, 86, 87, 88, 89, 90, 91, 92, 93, 94, 95, 96, 97, 98, 99, 100, 101, 102, 103, 104, 105, 106, 107, 108, 109, 110, 111, 112, 113, 114, 115, 116, 117, 118, 119, 120, 121, 122, 123, 124, 125, 126, 127, 128, 129, 130, 131, 132, 133, 134, 135, 136, 137, 138] (by decide +kernel) (by decide +kernel)
set_option maxRecDepth 20000 in
theorem gX10_play_X10_make : GoodIn wsX10_play (wsV RX10 277 RX10 yX10_make wsX10_make) := goodIn_app (goodIn_of _ (by decide +kernel)) ggX10_play_X10_make
theorem dX10_play_0 : decode cX10_play 0 = .ok (.aload_n 0, 1) := by decide +kernel
theorem dX10_play_1 : decode cX10_play 1 = .ok (.iload_n 1, 1) := by decide +kernel
theorem dX10_play_2 : decode cX10_play 2 = .ok (.invokevirtual 250, 3) := by decide +kernel
theorem dX10_play_5 : decode cX10_play 5 = .ok (.ifCond .eq 7, 3) := by decide +kernel
theorem dX10_play_8 : decode cX10_play 8 = .ok (.iconst 0, 1) := by decide +kernel
theorem dX10_play_9 : decode cX10_play 9 = .ok (.goto 8, 3) := by decide +kernel
theorem dX10_play_12 : decode cX10_play 12 = .ok (.aload_n 0, 1) := by decide +kernel
theorem dX10_play_13 : decode cX10_play 13 = .ok (.iload_n 1, 1) := by decide +kernel
theorem dX10_play_14 : decode cX10_play 14 = .ok (.invokevirtual 277, 3) := by decide +kernel
theorem dX10_play_17 : decode cX10_play 17 = .ok (.ireturn, 1) := by decide +kernel
set_option maxRecDepth 20000 in
theorem ggX10_move__X10_failsRoll : GoodIn wsX10_move_ wsX10_failsRoll := goodIn_r _ [9, 10, 11, 12, 13, 8, 14, 15, 34, 35, 36, 37, 38, 39, 40, 41, 42, 43, 44, 45, 46, 47, 48, 49, 50, 51, 52, 53, 54, 55, 56, 57, 58, 59, 60, 61, 62, 63, 64, 65, 66, 67, 68, 69, 70, 71, 72, 73, 74, 75, 76, 77, 78, 79, 80, 81, 82, 83, 84, 85, 86, 87] (by decide +kernel) (by decide +kernel)
set_option maxRecDepth 20000 in
theorem gX10_move__X10_failsRoll : GoodIn wsX10_move_ (wsV RX10 247 RX10 yX10_failsRoll wsX10_failsRoll) := goodIn_app (goodIn_of _ (by decide +kernel)) ggX10_move__X10_failsRoll
set_option maxRecDepth 20000 in
theorem ggX10_move__X10_in : GoodIn wsX10_move_ wsX10_in := goodIn_r _ [18] (by decide +kernel) (by decide +kernel)
set_option maxRecDepth 20000 in
theorem gX10_move__X10_in : GoodIn wsX10_move_ (va_wsS RX10 91 yX10_in wsX10_in) := goodIn_app (goodIn_of _ (by decide +kernel)) ggX10_move__X10_in
set_option maxRecDepth 20000 in
theorem ggX10_move__X10_canMove : GoodIn wsX10_move_ wsX10_canMove := goodIn_r _ [21, 16, 17, 8, 18, 22, 23, 24, 25, 26, 27] (by decide +kernel) (by decide +kernel)
set_option maxRecDepth 20000 in
theorem gX10_move__X10_canMove : GoodIn wsX10_move_ (va_wsS RX10 153 yX10_canMove wsX10_canMove) := goodIn_app (goodIn_of _ (by decide +kernel)) ggX10_move__X10_canMove
set_option maxRecDepth 20000 in
theorem ggX10_move__X10_fails : GoodIn wsX10_move_ wsX10_fails := goodIn_r _ [14, 15, 34, 35, 36, 37, 38, 39, 40, 41, 42, 43, 44, 45, 46, 47, 48, 49, 50, 51, 52, 53, 54, 55, 56, 57, 58, 59, 60, 61, 62, 63, 64, 65, 66, 67, 68, 69, 70, 71, 72, 73, 74, 75, 76, 77, 78, 79, 80, 81, 82, 83, 84, 85, 86, 87] (by decide +kernel) (by decide +kernel)
set_option maxRecDepth 20000 in
theorem gX10_move__X10_fails : GoodIn wsX10_move_ (wsV RX10 178 RX10 yX10_fails wsX10_fails) := goodIn_app (goodIn_of _ (by decide +kernel)) ggX10_move__X10_fails
set_option maxRecDepth 20000 in
theorem ggX10_move__X10_hits : GoodIn wsX10_move_ wsX10_hits := goodIn_r _ [30, 25, 26, 8, 27] (by decide +kernel) (by decide +kernel)
set_option maxRecDepth 20000 in
theorem gX10_move__X10_hits : GoodIn wsX10_move_ (va_wsS RX10 102 yX10_hits wsX10_hits) := goodIn_app (goodIn_of _ (by decide +kernel)) ggX10_move__X10_hits
set_option maxRecDepth 20000 in
theorem ggX10_move__X10_move : GoodIn wsX10_move_ wsX10_move := goodIn_r _ [33, 28, 29, 8, 30, 25, 26, 27] (by decide +kernel) (by decide +kernel)
set_option maxRecDepth 20000 in
theorem gX10_move__X10_move : GoodIn wsX10_move_ (va_wsS RX10 156 yX10_move wsX10_move) := goodIn_app (goodIn_of _ (by decide +kernel)) ggX10_move__X10_move
theorem dX10_move__0 : decode cX10_move_ 0 = .ok (.aload_n 0, 1) := by decide +kernel
theorem dX10_move__1 : decode cX10_move_ 1 = .ok (.invokevirtual 247, 3) := by decide +kernel
theorem dX10_move__4 : decode cX10_move_ 4 = .ok (.ifCond .eq 5, 3) := by decide +kernel
theorem dX10_move__7 : decode cX10_move_ 7 = .ok (.iconst 0, 1) := by decide +kernel
theorem dX10_move__8 : decode cX10_move_ 8 = .ok (.ireturn, 1) := by decide +kernel
theorem dX10_move__9 : decode cX10_move_ 9 = .ok (.iload_n 2, 1) := by decide +kernel
theorem dX10_move__10 : decode cX10_move_ 10 = .ok (.iconst 1, 1) := by decide +kernel
theorem dX10_move__11 : decode cX10_move_ 11 = .ok (.bipush 6, 2) := by decide +kernel
theorem dX10_move__13 : decode cX10_move_ 13 = .ok (.invokestatic 91, 3) := by decide +kernel
theorem dX10_move__16 : decode cX10_move_ 16 = .ok (.ifCond .eq 33, 3) := by decide +kernel
theorem dX10_move__19 : decode cX10_move_ 19 = .ok (.aload_n 0, 1) := by decide +kernel
theorem dX10_move__20 : decode cX10_move_ 20 = .ok (.getfield 30, 3) := by decide +kernel
theorem dX10_move__23 : decode cX10_move_ 23 = .ok (.iload_n 2, 1) := by decide +kernel
theorem dX10_move__24 : decode cX10_move_ 24 = .ok (.iaload, 1) := by decide +kernel
theorem dX10_move__25 : decode cX10_move_ 25 = .ok (.ifCond .le 24, 3) := by decide +kernel
theorem dX10_move__28 : decode cX10_move_ 28 = .ok (.aload_n 0, 1) := by decide +kernel
theorem dX10_move__29 : decode cX10_move_ 29 = .ok (.getfield 17, 3) := by decide +kernel
theorem dX10_move__32 : decode cX10_move_ 32 = .ok (.iconst 0, 1) := by decide +kernel
theorem dX10_move__33 : decode cX10_move_ 33 = .ok (.aload_n 0, 1) := by decide +kernel
theorem dX10_move__34 : decode cX10_move_ 34 = .ok (.getfield 168, 3) := by decide +kernel
theorem dX10_move__37 : decode cX10_move_ 37 = .ok (.iload_n 1, 1) := by decide +kernel
theorem dX10_move__38 : decode cX10_move_ 38 = .ok (.iload_n 2, 1) := by decide +kernel
theorem dX10_move__39 : decode cX10_move_ 39 = .ok (.invokestatic 153, 3) := by decide +kernel
theorem dX10_move__42 : decode cX10_move_ 42 = .ok (.ifCond .eq 7, 3) := by decide +kernel
theorem dX10_move__45 : decode cX10_move_ 45 = .ok (.iconst 1, 1) := by decide +kernel
theorem dX10_move__46 : decode cX10_move_ 46 = .ok (.goto 4, 3) := by decide +kernel
theorem dX10_move__49 : decode cX10_move_ 49 = .ok (.iconst 0, 1) := by decide +kernel
theorem dX10_move__50 : decode cX10_move_ 50 = .ok (.istore_n 3, 1) := by decide +kernel
theorem dX10_move__51 : decode cX10_move_ 51 = .ok (.aload_n 0, 1) := by decide +kernel
theorem dX10_move__52 : decode cX10_move_ 52 = .ok (.iload_n 3, 1) := by decide +kernel
theorem dX10_move__53 : decode cX10_move_ 53 = .ok (.ifCond .eq 7, 3) := by decide +kernel
theorem dX10_move__56 : decode cX10_move_ 56 = .ok (.iconst 0, 1) := by decide +kernel
theorem dX10_move__57 : decode cX10_move_ 57 = .ok (.goto 4, 3) := by decide +kernel
theorem dX10_move__60 : decode cX10_move_ 60 = .ok (.iconst 2, 1) := by decide +kernel
theorem dX10_move__61 : decode cX10_move_ 61 = .ok (.invokevirtual 178, 3) := by decide +kernel
theorem dX10_move__64 : decode cX10_move_ 64 = .ok (.ifCond .eq 5, 3) := by decide +kernel
theorem dX10_move__67 : decode cX10_move_ 67 = .ok (.iconst 0, 1) := by decide +kernel
theorem dX10_move__68 : decode cX10_move_ 68 = .ok (.ireturn, 1) := by decide +kernel
theorem dX10_move__69 : decode cX10_move_ 69 = .ok (.aload_n 0, 1) := by decide +kernel
theorem dX10_move__70 : decode cX10_move_ 70 = .ok (.getfield 17, 3) := by decide +kernel
theorem dX10_move__73 : decode cX10_move_ 73 = .ok (.iconst 0, 1) := by decide +kernel
theorem dX10_move__74 : decode cX10_move_ 74 = .ok (.aload_n 0, 1) := by decide +kernel
theorem dX10_move__75 : decode cX10_move_ 75 = .ok (.getfield 168, 3) := by decide +kernel
theorem dX10_move__78 : decode cX10_move_ 78 = .ok (.iload_n 1, 1) := by decide +kernel
theorem dX10_move__79 : decode cX10_move_ 79 = .ok (.iload_n 2, 1) := by decide +kernel
theorem dX10_move__80 : decode cX10_move_ 80 = .ok (.invokestatic 102, 3) := by decide +kernel
theorem dX10_move__83 : decode cX10_move_ 83 = .ok (.istore 4, 2) := by decide +kernel
theorem dX10_move__85 : decode cX10_move_ 85 = .ok (.aload_n 0, 1) := by decide +kernel
theorem dX10_move__86 : decode cX10_move_ 86 = .ok (.getfield 17, 3) := by decide +kernel
theorem dX10_move__89 : decode cX10_move_ 89 = .ok (.iconst 0, 1) := by decide +kernel
theorem dX10_move__90 : decode cX10_move_ 90 = .ok (.aload_n 0, 1) := by decide +kernel
theorem dX10_move__91 : decode cX10_move_ 91 = .ok (.getfield 168, 3) := by decide +kernel
theorem dX10_move__94 : decode cX10_move_ 94 = .ok (.iload_n 1, 1) := by decide +kernel
theorem dX10_move__95 : decode cX10_move_ 95 = .ok (.iload_n 2, 1) := by decide +kernel
theorem dX10_move__96 : decode cX10_move_ 96 = .ok (.invokestatic 156, 3) := by decide +kernel
theorem dX10_move__99 : decode cX10_move_ 99 = .ok (.aload_n 0, 1) := by decide +kernel
theorem dX10_move__100 : decode cX10_move_ 100 = .ok (.getfield 30, 3) := by decide +kernel
theorem dX10_move__103 : decode cX10_move_ 103 = .ok (.iload_n 2, 1) := by decide +kernel
theorem dX10_move__104 : decode cX10_move_ 104 = .ok (.dup2, 1) := by decide +kernel
theorem dX10_move__105 : decode cX10_move_ 105 = .ok (.iaload, 1) := by decide +kernel
theorem dX10_move__106 : decode cX10_move_ 106 = .ok (.iconst 1, 1) := by decide +kernel
theorem dX10_move__107 : decode cX10_move_ 107 = .ok (.isub, 1) := by decide +kernel
theorem dX10_move__108 : decode cX10_move_ 108 = .ok (.iastore, 1) := by decide +kernel
theorem dX10_move__109 : decode cX10_move_ 109 = .ok (.aload_n 0, 1) := by decide +kernel
theorem dX10_move__110 : decode cX10_move_ 110 = .ok (.dup, 1) := by decide +kernel
theorem dX10_move__111 : decode cX10_move_ 111 = .ok (.getfield 244, 3) := by decide +kernel
theorem dX10_move__114 : decode cX10_move_ 114 = .ok (.iconst 1, 1) := by decide +kernel
theorem dX10_move__115 : decode cX10_move_ 115 = .ok (.iadd, 1) := by decide +kernel
theorem dX10_move__116 : decode cX10_move_ 116 = .ok (.putfield 244, 3) := by decide +kernel
theorem dX10_move__119 : decode cX10_move_ 119 = .ok (.iload 4, 2) := by decide +kernel
theorem dX10_move__121 : decode cX10_move_ 121 = .ok (.ireturn, 1) := by decide +kernel
set_option maxRecDepth 20000 in
theorem ggX10_undo_X10_failsRoll : GoodIn wsX10_undo wsX10_failsRoll := goodIn_r _ [8, 9, 10, 11, 12, 7, 13, 14, 25, 26, 27, 28, 29, 30, 31, 32, 33, 34, 35, 36, 37, 38, 39, 40, 41, 42, 43, 44, 45, 46, 47, 48, 49, 50, 51, 52, 53, 54, 55, 56, 57, 58, 59, 60, 61, 62, 63, 64, 65, 66, 67, 68, 69, 70, 71, 72, 73, 74, 75, 76, 77, 78] (by decide +kernel) (by decide +kernel)
set_option maxRecDepth 20000 in
theorem gX10_undo_X10_failsRoll : GoodIn wsX10_undo (wsV RX10 247 RX10 yX10_failsRoll wsX10_failsRoll) := goodIn_app (goodIn_of _ (by decide +kernel)) ggX10_undo_X10_failsRoll
set_option maxRecDepth 20000 in
theorem ggX10_undo_X10_copy : GoodIn wsX10_undo wsX10_copy := goodIn_r _ [17] (by decide +kernel) (by decide +kernel)
set_option maxRecDepth 20000 in
theorem gX10_undo_X10_copy : GoodIn wsX10_undo (va_wsS RX10 149 yX10_copy wsX10_copy) := goodIn_app (goodIn_of _ (by decide +kernel)) ggX10_undo_X10_copy
set_option maxRecDepth 20000 in
theorem ggX10_undo_X10_giveDice : GoodIn wsX10_undo wsX10_giveDice := goodIn_r _ [21, 22, 23, 24, 1, 25, 26, 27, 28, 29, 30, 31, 32, 33, 34, 35, 36, 37, 38, 39, 40, 41, 42, 43, 44, 45, 46, 47, 48, 49, 50, 51, 52, 53, 54, 55, 56, 57, 58, 59, 60, 61, 62, 63, 64, 65, 66, 67, 68, 69, 70, 71, 72, 73, 74, 75, 76, 77, 78] (by decide +kernel) (by decide +kernel)
set_option maxRecDepth 20000 in
theorem gX10_undo_X10_giveDice : GoodIn wsX10_undo (wsV RX10 241 RX10 yX10_giveDice wsX10_giveDice) := goodIn_app (goodIn_of _ (by decide +kernel)) ggX10_undo_X10_giveDice
theorem dX10_undo_0 : decode cX10_undo 0 = .ok (.aload_n 0, 1) := by decide +kernel
theorem dX10_undo_1 : decode cX10_undo 1 = .ok (.invokevirtual 247, 3) := by decide +kernel
theorem dX10_undo_4 : decode cX10_undo 4 = .ok (.ifCond .eq 5, 3) := by decide +kernel
theorem dX10_undo_7 : decode cX10_undo 7 = .ok (.iconst 0, 1) := by decide +kernel
theorem dX10_undo_8 : decode cX10_undo 8 = .ok (.ireturn, 1) := by decide +kernel
theorem dX10_undo_9 : decode cX10_undo 9 = .ok (.aload_n 0, 1) := by decide +kernel
theorem dX10_undo_10 : decode cX10_undo 10 = .ok (.getfield 244, 3) := by decide +kernel
theorem dX10_undo_13 : decode cX10_undo 13 = .ok (.istore_n 1, 1) := by decide +kernel
theorem dX10_undo_14 : decode cX10_undo 14 = .ok (.aload_n 0, 1) := by decide +kernel
theorem dX10_undo_15 : decode cX10_undo 15 = .ok (.getfield 20, 3) := by decide +kernel
theorem dX10_undo_18 : decode cX10_undo 18 = .ok (.iconst 0, 1) := by decide +kernel
theorem dX10_undo_19 : decode cX10_undo 19 = .ok (.aload_n 0, 1) := by decide +kernel
theorem dX10_undo_20 : decode cX10_undo 20 = .ok (.getfield 17, 3) := by decide +kernel
theorem dX10_undo_23 : decode cX10_undo 23 = .ok (.iconst 0, 1) := by decide +kernel
theorem dX10_undo_24 : decode cX10_undo 24 = .ok (.invokestatic 149, 3) := by decide +kernel
theorem dX10_undo_27 : decode cX10_undo 27 = .ok (.aload_n 0, 1) := by decide +kernel
theorem dX10_undo_28 : decode cX10_undo 28 = .ok (.invokevirtual 241, 3) := by decide +kernel
theorem dX10_undo_31 : decode cX10_undo 31 = .ok (.iload_n 1, 1) := by decide +kernel
theorem dX10_undo_32 : decode cX10_undo 32 = .ok (.ireturn, 1) := by decide +kernel
set_option maxRecDepth 20000 in
theorem ggX10_finish_X10_failsRoll : GoodIn wsX10_finish wsX10_failsRoll := goodIn_r _ [8, 9, 10, 11, 12, 7, 13, 14, 81, 82, 83, 84, 85, 86, 87, 88, 89, 90, 91, 92, 93, 94, 95, 96, 97, 98, 99, 100, 101, 102, 103, 104, 105, 106, 107, 108, 109, 110, 111, 112, 113, 114, 115, 116, 117, 118, 119, 120, 121, 122, 123, 124, 125, 126, 127, 128, 129, 130, 131, 132, 133, 134] (by decide +kernel) (by decide +kernel)
set_option maxRecDepth 20000 in
theorem gX10_finish_X10_failsRoll : GoodIn wsX10_finish (wsV RX10 247 RX10 yX10_failsRoll wsX10_failsRoll) := goodIn_app (goodIn_of _ (by decide +kernel)) ggX10_finish_X10_failsRoll
set_option maxRecDepth 20000 in
theorem ggX10_finish_X10_isAlike : GoodIn wsX10_finish wsX10_isAlike := goodIn_r _ [17] (by decide +kernel) (by decide +kernel)
set_option maxRecDepth 20000 in
theorem gX10_finish_X10_isAlike : GoodIn wsX10_finish (va_wsS RX10 138 yX10_isAlike wsX10_isAlike) := goodIn_app (goodIn_of _ (by decide +kernel)) ggX10_finish_X10_isAlike
set_option maxRecDepth 20000 in
theorem ggX10_finish_X10_fails : GoodIn wsX10_finish wsX10_fails := goodIn_r _ [13, 14, 81, 82, 83, 84, 85, 86, 87, 88, 89, 90, 91, 92, 93, 94, 95, 96, 97, 98, 99, 100, 101, 102, 103, 104, 105, 106, 107, 108, 109, 110, 111, 112, 113, 114, 115, 116, 117, 118, 119, 120, 121, 122, 123, 124, 125, 126, 127, 128, 129, 130, 131, 132, 133, 134] (by decide +kernel) (by decide +kernel)
set_option maxRecDepth 20000 in
theorem gX10_finish_X10_fails : GoodIn wsX10_finish (wsV RX10 178 RX10 yX10_fails wsX10_fails) := goodIn_app (goodIn_of _ (by decide +kernel)) ggX10_finish_X10_fails
set_option maxRecDepth 20000 in
theorem ggX10_finish_X10_make : GoodIn wsX10_finish wsX10_make := goodIn_r _ [21, 22, 23, 24, 25, 26, 27, 28, 29, 30, 2, 3, 9, 31, 32, 33, 34, 7, 35, 1, 36, 37, 38, 39, 40, 41, 42, 43, 44, 45, 46, 47, 48, 49, 50, 51, 52, 53, 54, 55, 56, 57, 58, 59, 60, 61, 62, 63, 64, 65, 66, 67, 68, 69, 70, 71, 72, 73, 74, 75, 76, 77, 78, 79, 80, 81, 82, 83, 84, 85, 86, 87, 88, 89, 90, 91, 92, 93, 94, 95, 96, 97, 98, 99, 100, 101, 102, 103, 104, 105, 106, 107, 108, 109, 110, 111, 112, 113, 114, 115, 116, 117, 118, 119, 120, 121, 122, 123, 124, 125, 126, 127, 128, 129, 130, 131, 132, 133, 134] (by decide +kernel) (by decide +kernel)
set_option maxRecDepth 20000 in
theorem gX10_finish_X10_make : GoodIn wsX10_finish (wsV RX10 277 RX10 yX10_make wsX10_make) := goodIn_app (goodIn_of _ (by decide +kernel)) ggX10_finish_X10_make
theorem dX10_finish_0 : decode cX10_finish 0 = .ok (.aload_n 0, 1) := by decide +kernel
theorem dX10_finish_1 : decode cX10_finish 1 = .ok (.invokevirtual 247, 3) := by decide +kernel
theorem dX10_finish_4 : decode cX10_finish 4 = .ok (.ifCond .eq 5, 3) := by decide +kernel
theorem dX10_finish_7 : decode cX10_finish 7 = .ok (.iconst 0, 1) := by decide +kernel
theorem dX10_finish_8 : decode cX10_finish 8 = .ok (.ireturn, 1) := by decide +kernel
theorem dX10_finish_9 : decode cX10_finish 9 = .ok (.iconst (-1), 1) := by decide +kernel
theorem dX10_finish_10 : decode cX10_finish 10 = .ok (.istore_n 1, 1) := by decide +kernel
theorem dX10_finish_11 : decode cX10_finish 11 = .ok (.aload_n 0, 1) := by decide +kernel
theorem dX10_finish_12 : decode cX10_finish 12 = .ok (.getfield 142, 3) := by decide +kernel
theorem dX10_finish_15 : decode cX10_finish 15 = .ok (.iconst 1, 1) := by decide +kernel
theorem dX10_finish_16 : decode cX10_finish 16 = .ok (.isub, 1) := by decide +kernel
theorem dX10_finish_17 : decode cX10_finish 17 = .ok (.istore_n 2, 1) := by decide +kernel
theorem dX10_finish_18 : decode cX10_finish 18 = .ok (.iload_n 2, 1) := by decide +kernel
theorem dX10_finish_19 : decode cX10_finish 19 = .ok (.ifCond .lt 34, 3) := by decide +kernel
theorem dX10_finish_22 : decode cX10_finish 22 = .ok (.aload_n 0, 1) := by decide +kernel
theorem dX10_finish_23 : decode cX10_finish 23 = .ok (.getfield 34, 3) := by decide +kernel
theorem dX10_finish_26 : decode cX10_finish 26 = .ok (.bipush 52, 2) := by decide +kernel
theorem dX10_finish_28 : decode cX10_finish 28 = .ok (.iload_n 2, 1) := by decide +kernel
theorem dX10_finish_29 : decode cX10_finish 29 = .ok (.imul, 1) := by decide +kernel
theorem dX10_finish_30 : decode cX10_finish 30 = .ok (.aload_n 0, 1) := by decide +kernel
theorem dX10_finish_31 : decode cX10_finish 31 = .ok (.getfield 17, 3) := by decide +kernel
theorem dX10_finish_34 : decode cX10_finish 34 = .ok (.iconst 0, 1) := by decide +kernel
theorem dX10_finish_35 : decode cX10_finish 35 = .ok (.invokestatic 138, 3) := by decide +kernel
theorem dX10_finish_38 : decode cX10_finish 38 = .ok (.ifCond .eq 7, 3) := by decide +kernel
theorem dX10_finish_41 : decode cX10_finish 41 = .ok (.iload_n 2, 1) := by decide +kernel
theorem dX10_finish_42 : decode cX10_finish 42 = .ok (.goto 4, 3) := by decide +kernel
theorem dX10_finish_45 : decode cX10_finish 45 = .ok (.iload_n 1, 1) := by decide +kernel
theorem dX10_finish_46 : decode cX10_finish 46 = .ok (.istore_n 1, 1) := by decide +kernel
theorem dX10_finish_47 : decode cX10_finish 47 = .ok (.iinc 2 (-1), 3) := by decide +kernel
theorem dX10_finish_50 : decode cX10_finish 50 = .ok (.goto (-32), 3) := by decide +kernel
theorem dX10_finish_53 : decode cX10_finish 53 = .ok (.aload_n 0, 1) := by decide +kernel
theorem dX10_finish_54 : decode cX10_finish 54 = .ok (.iload_n 1, 1) := by decide +kernel
theorem dX10_finish_55 : decode cX10_finish 55 = .ok (.ifCond .ge 7, 3) := by decide +kernel
theorem dX10_finish_58 : decode cX10_finish 58 = .ok (.iconst 2, 1) := by decide +kernel
theorem dX10_finish_59 : decode cX10_finish 59 = .ok (.goto 4, 3) := by decide +kernel
theorem dX10_finish_62 : decode cX10_finish 62 = .ok (.iconst 0, 1) := by decide +kernel
theorem dX10_finish_63 : decode cX10_finish 63 = .ok (.invokevirtual 178, 3) := by decide +kernel
theorem dX10_finish_66 : decode cX10_finish 66 = .ok (.ifCond .eq 5, 3) := by decide +kernel
theorem dX10_finish_69 : decode cX10_finish 69 = .ok (.iconst 0, 1) := by decide +kernel
theorem dX10_finish_70 : decode cX10_finish 70 = .ok (.ireturn, 1) := by decide +kernel
theorem dX10_finish_71 : decode cX10_finish 71 = .ok (.aload_n 0, 1) := by decide +kernel
theorem dX10_finish_72 : decode cX10_finish 72 = .ok (.iload_n 1, 1) := by decide +kernel
theorem dX10_finish_73 : decode cX10_finish 73 = .ok (.invokevirtual 277, 3) := by decide +kernel
theorem dX10_finish_76 : decode cX10_finish 76 = .ok (.istore_n 2, 1) := by decide +kernel
theorem dX10_finish_77 : decode cX10_finish 77 = .ok (.iload_n 1, 1) := by decide +kernel
theorem dX10_finish_78 : decode cX10_finish 78 = .ok (.ireturn, 1) := by decide +kernel
set_option maxRecDepth 20000 in
theorem ggX10_men_X10_in : GoodIn wsX10_men wsX10_in := goodIn_r _ [5] (by decide +kernel) (by decide +kernel)
set_option maxRecDepth 20000 in
theorem gX10_men_X10_in : GoodIn wsX10_men (va_wsS RX10 91 yX10_in wsX10_in) := goodIn_app (goodIn_of _ (by decide +kernel)) ggX10_men_X10_in
set_option maxRecDepth 20000 in
theorem ggX10_men_X10_fails : GoodIn wsX10_men wsX10_fails := goodIn_r _ [9, 10, 14, 15, 16, 17, 18, 19, 20, 21, 22, 23, 24, 25, 26, 27, 28, 29, 30, 31, 32, 33, 34, 35, 36, 37, 38, 39, 40, 41, 42, 43, 44, 45, 46, 47, 48, 49, 50, 51, 52, 53, 54, 55, 56, 57, 58, 59, 60, 61, 62, 63, 64, 65, 66, 67] (by decide +kernel) (by decide +kernel)
set_option maxRecDepth 20000 in
theorem gX10_men_X10_fails : GoodIn wsX10_men (wsV RX10 178 RX10 yX10_fails wsX10_fails) := goodIn_app (goodIn_of _ (by decide +kernel)) ggX10_men_X10_fails
set_option maxRecDepth 20000 in
theorem ggX10_men_X10_on : GoodIn wsX10_men wsX10_on := goodIn_r _ [13] (by decide +kernel) (by decide +kernel)
set_option maxRecDepth 20000 in
theorem gX10_men_X10_on : GoodIn wsX10_men (va_wsS RX10 95 yX10_on wsX10_on) := goodIn_app (goodIn_of _ (by decide +kernel)) ggX10_men_X10_on
theorem dX10_men_0 : decode cX10_men 0 = .ok (.aload_n 0, 1) := by decide +kernel
theorem dX10_men_1 : decode cX10_men 1 = .ok (.iload_n 1, 1) := by decide +kernel
theorem dX10_men_2 : decode cX10_men 2 = .ok (.iconst 0, 1) := by decide +kernel
theorem dX10_men_3 : decode cX10_men 3 = .ok (.iconst 1, 1) := by decide +kernel
theorem dX10_men_4 : decode cX10_men 4 = .ok (.invokestatic 91, 3) := by decide +kernel
theorem dX10_men_7 : decode cX10_men 7 = .ok (.ifCond .ne 7, 3) := by decide +kernel
theorem dX10_men_10 : decode cX10_men 10 = .ok (.iconst 1, 1) := by decide +kernel
theorem dX10_men_11 : decode cX10_men 11 = .ok (.goto 18, 3) := by decide +kernel
theorem dX10_men_14 : decode cX10_men 14 = .ok (.iload_n 2, 1) := by decide +kernel
theorem dX10_men_15 : decode cX10_men 15 = .ok (.iconst 0, 1) := by decide +kernel
theorem dX10_men_16 : decode cX10_men 16 = .ok (.bipush 25, 2) := by decide +kernel
theorem dX10_men_18 : decode cX10_men 18 = .ok (.invokestatic 91, 3) := by decide +kernel
theorem dX10_men_21 : decode cX10_men 21 = .ok (.ifCond .ne 7, 3) := by decide +kernel
theorem dX10_men_24 : decode cX10_men 24 = .ok (.iconst 2, 1) := by decide +kernel
theorem dX10_men_25 : decode cX10_men 25 = .ok (.goto 4, 3) := by decide +kernel
theorem dX10_men_28 : decode cX10_men 28 = .ok (.iconst 0, 1) := by decide +kernel
theorem dX10_men_29 : decode cX10_men 29 = .ok (.invokevirtual 178, 3) := by decide +kernel
theorem dX10_men_32 : decode cX10_men 32 = .ok (.ifCond .eq 7, 3) := by decide +kernel
theorem dX10_men_35 : decode cX10_men 35 = .ok (.iconst 0, 1) := by decide +kernel
theorem dX10_men_36 : decode cX10_men 36 = .ok (.goto 13, 3) := by decide +kernel
theorem dX10_men_39 : decode cX10_men 39 = .ok (.aload_n 0, 1) := by decide +kernel
theorem dX10_men_40 : decode cX10_men 40 = .ok (.getfield 17, 3) := by decide +kernel
theorem dX10_men_43 : decode cX10_men 43 = .ok (.iconst 0, 1) := by decide +kernel
theorem dX10_men_44 : decode cX10_men 44 = .ok (.iload_n 1, 1) := by decide +kernel
theorem dX10_men_45 : decode cX10_men 45 = .ok (.iload_n 2, 1) := by decide +kernel
theorem dX10_men_46 : decode cX10_men 46 = .ok (.invokestatic 95, 3) := by decide +kernel
theorem dX10_men_49 : decode cX10_men 49 = .ok (.ireturn, 1) := by decide +kernel
set_option maxRecDepth 20000 in
theorem ggX10_pips__X10_failsSide : GoodIn wsX10_pips_ wsX10_failsSide := goodIn_r _ [6, 7, 8, 5, 9, 10, 11, 12, 13, 14, 21, 22, 23, 24, 25, 26, 27, 28, 29, 30, 31, 32, 33, 34, 35, 36, 37, 38, 39, 40, 41, 42, 43, 44, 45, 46, 47, 48, 49, 50, 51, 52, 53, 54, 55, 56, 57, 58, 59, 60, 61, 62, 63, 64, 65, 66, 67, 68, 69, 70, 71, 72, 73, 74] (by decide +kernel) (by decide +kernel)
set_option maxRecDepth 20000 in
theorem gX10_pips__X10_failsSide : GoodIn wsX10_pips_ (wsV RX10 213 RX10 yX10_failsSide wsX10_failsSide) := goodIn_app (goodIn_of _ (by decide +kernel)) ggX10_pips__X10_failsSide
set_option maxRecDepth 20000 in
theorem ggX10_pips__X10_pips : GoodIn wsX10_pips_ wsX10_pips := goodIn_r _ [17, 18, 19, 5, 20] (by decide +kernel) (by decide +kernel)
set_option maxRecDepth 20000 in
theorem gX10_pips__X10_pips : GoodIn wsX10_pips_ (va_wsS RX10 106 yX10_pips wsX10_pips) := goodIn_app (goodIn_of _ (by decide +kernel)) ggX10_pips__X10_pips
theorem dX10_pips__0 : decode cX10_pips_ 0 = .ok (.aload_n 0, 1) := by decide +kernel
theorem dX10_pips__1 : decode cX10_pips_ 1 = .ok (.iload_n 1, 1) := by decide +kernel
theorem dX10_pips__2 : decode cX10_pips_ 2 = .ok (.invokevirtual 213, 3) := by decide +kernel
theorem dX10_pips__5 : decode cX10_pips_ 5 = .ok (.ifCond .eq 7, 3) := by decide +kernel
theorem dX10_pips__8 : decode cX10_pips_ 8 = .ok (.iconst 0, 1) := by decide +kernel
theorem dX10_pips__9 : decode cX10_pips_ 9 = .ok (.goto 12, 3) := by decide +kernel
theorem dX10_pips__12 : decode cX10_pips_ 12 = .ok (.aload_n 0, 1) := by decide +kernel
theorem dX10_pips__13 : decode cX10_pips_ 13 = .ok (.getfield 17, 3) := by decide +kernel
theorem dX10_pips__16 : decode cX10_pips_ 16 = .ok (.iconst 0, 1) := by decide +kernel
theorem dX10_pips__17 : decode cX10_pips_ 17 = .ok (.iload_n 1, 1) := by decide +kernel
theorem dX10_pips__18 : decode cX10_pips_ 18 = .ok (.invokestatic 106, 3) := by decide +kernel
theorem dX10_pips__21 : decode cX10_pips_ 21 = .ok (.ireturn, 1) := by decide +kernel
theorem dX10_cube_0 : decode cX10_cube 0 = .ok (.aload_n 0, 1) := by decide +kernel
theorem dX10_cube_1 : decode cX10_cube 1 = .ok (.iconst 0, 1) := by decide +kernel
theorem dX10_cube_2 : decode cX10_cube 2 = .ok (.putfield 88, 3) := by decide +kernel
theorem dX10_cube_5 : decode cX10_cube 5 = .ok (.aload_n 0, 1) := by decide +kernel
theorem dX10_cube_6 : decode cX10_cube 6 = .ok (.getfield 23, 3) := by decide +kernel
theorem dX10_cube_9 : decode cX10_cube 9 = .ok (.ireturn, 1) := by decide +kernel
theorem dX10_owner_0 : decode cX10_owner 0 = .ok (.aload_n 0, 1) := by decide +kernel
theorem dX10_owner_1 : decode cX10_owner 1 = .ok (.iconst 0, 1) := by decide +kernel
theorem dX10_owner_2 : decode cX10_owner 2 = .ok (.putfield 88, 3) := by decide +kernel
theorem dX10_owner_5 : decode cX10_owner 5 = .ok (.aload_n 0, 1) := by decide +kernel
theorem dX10_owner_6 : decode cX10_owner 6 = .ok (.getfield 27, 3) := by decide +kernel
theorem dX10_owner_9 : decode cX10_owner 9 = .ok (.ireturn, 1) := by decide +kernel
set_option maxRecDepth 20000 in
theorem ggX10_offer_X10_fails : GoodIn wsX10_offer wsX10_fails := goodIn_r _ [10, 11, 12, 13, 14, 15, 16, 17, 18, 19, 20, 21, 22, 23, 24, 25, 26, 27, 28, 29, 30, 31, 32, 33, 34, 35, 36, 37, 38, 39, 40, 41, 42, 43, 44, 45, 46, 47, 48, 49, 50, 51, 52, 53, 54, 55, 56, 57, 58, 59, 60, 61, 62, 63, 64, 65] (by decide +kernel) (by decide +kernel)
set_option maxRecDepth 20000 in
theorem gX10_offer_X10_fails : GoodIn wsX10_offer (wsV RX10 178 RX10 yX10_fails wsX10_fails) := goodIn_app (goodIn_of _ (by decide +kernel)) ggX10_offer_X10_fails
theorem dX10_offer_0 : decode cX10_offer 0 = .ok (.aload_n 0, 1) := by decide +kernel
theorem dX10_offer_1 : decode cX10_offer 1 = .ok (.aload_n 0, 1) := by decide +kernel
theorem dX10_offer_2 : decode cX10_offer 2 = .ok (.getfield 13, 3) := by decide +kernel
theorem dX10_offer_5 : decode cX10_offer 5 = .ok (.bipush 100, 2) := by decide +kernel
theorem dX10_offer_7 : decode cX10_offer 7 = .ok (.if_icmp .eq 7, 3) := by decide +kernel
theorem dX10_offer_10 : decode cX10_offer 10 = .ok (.iconst 1, 1) := by decide +kernel
theorem dX10_offer_11 : decode cX10_offer 11 = .ok (.goto 37, 3) := by decide +kernel
theorem dX10_offer_14 : decode cX10_offer 14 = .ok (.aload_n 0, 1) := by decide +kernel
theorem dX10_offer_15 : decode cX10_offer 15 = .ok (.getfield 23, 3) := by decide +kernel
theorem dX10_offer_18 : decode cX10_offer 18 = .ok (.bipush 64, 2) := by decide +kernel
theorem dX10_offer_20 : decode cX10_offer 20 = .ok (.if_icmp .ge 23, 3) := by decide +kernel
theorem dX10_offer_23 : decode cX10_offer 23 = .ok (.aload_n 0, 1) := by decide +kernel
theorem dX10_offer_24 : decode cX10_offer 24 = .ok (.getfield 27, 3) := by decide +kernel
theorem dX10_offer_27 : decode cX10_offer 27 = .ok (.iconst 1, 1) := by decide +kernel
theorem dX10_offer_28 : decode cX10_offer 28 = .ok (.aload_n 0, 1) := by decide +kernel
theorem dX10_offer_29 : decode cX10_offer 29 = .ok (.getfield 168, 3) := by decide +kernel
theorem dX10_offer_32 : decode cX10_offer 32 = .ok (.isub, 1) := by decide +kernel
theorem dX10_offer_33 : decode cX10_offer 33 = .ok (.if_icmp .eq 10, 3) := by decide +kernel
theorem dX10_offer_36 : decode cX10_offer 36 = .ok (.aload_n 0, 1) := by decide +kernel
theorem dX10_offer_37 : decode cX10_offer 37 = .ok (.getfield 207, 3) := by decide +kernel
theorem dX10_offer_40 : decode cX10_offer 40 = .ok (.ifCond .eq 7, 3) := by decide +kernel
theorem dX10_offer_43 : decode cX10_offer 43 = .ok (.iconst 2, 1) := by decide +kernel
theorem dX10_offer_44 : decode cX10_offer 44 = .ok (.goto 4, 3) := by decide +kernel
theorem dX10_offer_47 : decode cX10_offer 47 = .ok (.iconst 0, 1) := by decide +kernel
theorem dX10_offer_48 : decode cX10_offer 48 = .ok (.invokevirtual 178, 3) := by decide +kernel
theorem dX10_offer_51 : decode cX10_offer 51 = .ok (.ifCond .eq 5, 3) := by decide +kernel
theorem dX10_offer_54 : decode cX10_offer 54 = .ok (.iconst 0, 1) := by decide +kernel
theorem dX10_offer_55 : decode cX10_offer 55 = .ok (.ireturn, 1) := by decide +kernel
theorem dX10_offer_56 : decode cX10_offer 56 = .ok (.aload_n 0, 1) := by decide +kernel
theorem dX10_offer_57 : decode cX10_offer 57 = .ok (.bipush 116, 2) := by decide +kernel
theorem dX10_offer_59 : decode cX10_offer 59 = .ok (.putfield 13, 3) := by decide +kernel
theorem dX10_offer_62 : decode cX10_offer 62 = .ok (.iconst 2, 1) := by decide +kernel
theorem dX10_offer_63 : decode cX10_offer 63 = .ok (.aload_n 0, 1) := by decide +kernel
theorem dX10_offer_64 : decode cX10_offer 64 = .ok (.getfield 23, 3) := by decide +kernel
theorem dX10_offer_67 : decode cX10_offer 67 = .ok (.imul, 1) := by decide +kernel
theorem dX10_offer_68 : decode cX10_offer 68 = .ok (.ireturn, 1) := by decide +kernel
set_option maxRecDepth 20000 in
theorem ggX10_failsDouble_X10_fails : GoodIn wsX10_failsDouble wsX10_fails := goodIn_r _ [6, 7, 8, 9, 10, 11, 12, 13, 14, 15, 16, 17, 18, 19, 20, 21, 22, 23, 24, 25, 26, 27, 28, 29, 30, 31, 32, 33, 34, 35, 36, 37, 38, 39, 40, 41, 42, 43, 44, 45, 46, 47, 48, 49, 50, 51, 52, 53, 54, 55, 56, 57, 58, 59, 60, 61] (by decide +kernel) (by decide +kernel)
set_option maxRecDepth 20000 in
theorem gX10_failsDouble_X10_fails : GoodIn wsX10_failsDouble (wsV RX10 178 RX10 yX10_fails wsX10_fails) := goodIn_app (goodIn_of _ (by decide +kernel)) ggX10_failsDouble_X10_fails
theorem dX10_failsDouble_0 : decode cX10_failsDouble 0 = .ok (.aload_n 0, 1) := by decide +kernel
theorem dX10_failsDouble_1 : decode cX10_failsDouble 1 = .ok (.aload_n 0, 1) := by decide +kernel
theorem dX10_failsDouble_2 : decode cX10_failsDouble 2 = .ok (.getfield 13, 3) := by decide +kernel
theorem dX10_failsDouble_5 : decode cX10_failsDouble 5 = .ok (.bipush 116, 2) := by decide +kernel
theorem dX10_failsDouble_7 : decode cX10_failsDouble 7 = .ok (.if_icmp .ne 7, 3) := by decide +kernel
theorem dX10_failsDouble_10 : decode cX10_failsDouble 10 = .ok (.iconst 0, 1) := by decide +kernel
theorem dX10_failsDouble_11 : decode cX10_failsDouble 11 = .ok (.goto 4, 3) := by decide +kernel
theorem dX10_failsDouble_14 : decode cX10_failsDouble 14 = .ok (.iconst 1, 1) := by decide +kernel
theorem dX10_failsDouble_15 : decode cX10_failsDouble 15 = .ok (.invokevirtual 178, 3) := by decide +kernel
theorem dX10_failsDouble_18 : decode cX10_failsDouble 18 = .ok (.ireturn, 1) := by decide +kernel
theorem dX10_turned_0 : decode cX10_turned 0 = .ok (.aload_n 0, 1) := by decide +kernel
theorem dX10_turned_1 : decode cX10_turned 1 = .ok (.dup, 1) := by decide +kernel
theorem dX10_turned_2 : decode cX10_turned 2 = .ok (.getfield 23, 3) := by decide +kernel
theorem dX10_turned_5 : decode cX10_turned 5 = .ok (.iload_n 1, 1) := by decide +kernel
theorem dX10_turned_6 : decode cX10_turned 6 = .ok (.imul, 1) := by decide +kernel
theorem dX10_turned_7 : decode cX10_turned 7 = .ok (.putfield 23, 3) := by decide +kernel
theorem dX10_turned_10 : decode cX10_turned 10 = .ok (.aload_n 0, 1) := by decide +kernel
theorem dX10_turned_11 : decode cX10_turned 11 = .ok (.iconst 1, 1) := by decide +kernel
theorem dX10_turned_12 : decode cX10_turned 12 = .ok (.aload_n 0, 1) := by decide +kernel
theorem dX10_turned_13 : decode cX10_turned 13 = .ok (.getfield 168, 3) := by decide +kernel
theorem dX10_turned_16 : decode cX10_turned 16 = .ok (.isub, 1) := by decide +kernel
theorem dX10_turned_17 : decode cX10_turned 17 = .ok (.putfield 27, 3) := by decide +kernel
theorem dX10_turned_20 : decode cX10_turned 20 = .ok (.aload_n 0, 1) := by decide +kernel
theorem dX10_turned_21 : decode cX10_turned 21 = .ok (.bipush 100, 2) := by decide +kernel
theorem dX10_turned_23 : decode cX10_turned 23 = .ok (.putfield 13, 3) := by decide +kernel
theorem dX10_turned_26 : decode cX10_turned 26 = .ok (.aload_n 0, 1) := by decide +kernel
theorem dX10_turned_27 : decode cX10_turned 27 = .ok (.getfield 23, 3) := by decide +kernel
theorem dX10_turned_30 : decode cX10_turned 30 = .ok (.ireturn, 1) := by decide +kernel
set_option maxRecDepth 20000 in
theorem ggX10_take_X10_failsDouble : GoodIn wsX10_take wsX10_failsDouble := goodIn_r _ [5, 6, 7, 8, 9, 4, 10, 11, 19, 20, 21, 22, 23, 24, 25, 26, 27, 28, 29, 30, 31, 32, 33, 34, 35, 36, 37, 38, 39, 40, 41, 42, 43, 44, 45, 46, 47, 48, 49, 50, 51, 52, 53, 54, 55, 56, 57, 58, 59, 60, 61, 62, 63, 64, 65, 66, 67, 68, 69, 70, 71, 72] (by decide +kernel) (by decide +kernel)
set_option maxRecDepth 20000 in
theorem gX10_take_X10_failsDouble : GoodIn wsX10_take (wsV RX10 280 RX10 yX10_failsDouble wsX10_failsDouble) := goodIn_app (goodIn_of _ (by decide +kernel)) ggX10_take_X10_failsDouble
set_option maxRecDepth 20000 in
theorem ggX10_take_X10_turned : GoodIn wsX10_take wsX10_turned := goodIn_r _ [15, 16, 17, 18, 6, 19, 20, 21, 22, 23, 24, 25, 26, 27, 28, 29, 30, 31, 32, 33, 34, 35, 36, 37, 38, 39, 40, 41, 42, 43, 44, 45, 46, 47, 48, 49, 50, 51, 52, 53, 54, 55, 56, 57, 58, 59, 60, 61, 62, 63, 64, 65, 66, 67, 68, 69, 70, 71, 72] (by decide +kernel) (by decide +kernel)
set_option maxRecDepth 20000 in
theorem gX10_take_X10_turned : GoodIn wsX10_take (wsV RX10 283 RX10 yX10_turned wsX10_turned) := goodIn_app (goodIn_of _ (by decide +kernel)) ggX10_take_X10_turned
theorem dX10_take_0 : decode cX10_take 0 = .ok (.aload_n 0, 1) := by decide +kernel
theorem dX10_take_1 : decode cX10_take 1 = .ok (.invokevirtual 280, 3) := by decide +kernel
theorem dX10_take_4 : decode cX10_take 4 = .ok (.ifCond .eq 7, 3) := by decide +kernel
theorem dX10_take_7 : decode cX10_take 7 = .ok (.iconst 0, 1) := by decide +kernel
theorem dX10_take_8 : decode cX10_take 8 = .ok (.goto 8, 3) := by decide +kernel
theorem dX10_take_11 : decode cX10_take 11 = .ok (.aload_n 0, 1) := by decide +kernel
theorem dX10_take_12 : decode cX10_take 12 = .ok (.iconst 2, 1) := by decide +kernel
theorem dX10_take_13 : decode cX10_take 13 = .ok (.invokevirtual 283, 3) := by decide +kernel
theorem dX10_take_16 : decode cX10_take 16 = .ok (.ireturn, 1) := by decide +kernel
set_option maxRecDepth 20000 in
theorem ggX10_drop_X10_failsDouble : GoodIn wsX10_drop wsX10_failsDouble := goodIn_r _ [6, 7, 8, 9, 10, 5, 11, 12, 35, 36, 37, 38, 39, 40, 41, 42, 43, 44, 45, 46, 47, 48, 49, 50, 51, 52, 53, 54, 55, 56, 57, 58, 59, 60, 61, 62, 63, 64, 65, 66, 67, 68, 69, 70, 71, 72, 73, 74, 75, 76, 77, 78, 79, 80, 81, 82, 83, 84, 85, 86, 87, 88] (by decide +kernel) (by decide +kernel)
set_option maxRecDepth 20000 in
theorem gX10_drop_X10_failsDouble : GoodIn wsX10_drop (wsV RX10 280 RX10 yX10_failsDouble wsX10_failsDouble) := goodIn_app (goodIn_of _ (by decide +kernel)) ggX10_drop_X10_failsDouble
set_option maxRecDepth 20000 in
theorem ggX10_drop_X10_end_ : GoodIn wsX10_drop wsX10_end_ := goodIn_r _ [16, 17, 18, 19, 20, 21, 22, 7, 23, 24, 25, 26, 27, 28, 5, 29, 30, 31, 32, 33, 34, 35, 36, 37, 38, 39, 40, 41, 42, 43, 44, 45, 46, 47, 48, 49, 50, 51, 52, 53, 54, 55, 56, 57, 58, 59, 60, 61, 62, 63, 64, 65, 66, 67, 68, 69, 70, 71, 72, 73, 74, 75, 76, 77, 78, 79, 80, 81, 82, 83, 84, 85, 86, 87, 88] (by decide +kernel) (by decide +kernel)
set_option maxRecDepth 20000 in
theorem gX10_drop_X10_end_ : GoodIn wsX10_drop (wsV RX10 275 RX10 yX10_end_ wsX10_end_) := goodIn_app (goodIn_of _ (by decide +kernel)) ggX10_drop_X10_end_
theorem dX10_drop_0 : decode cX10_drop 0 = .ok (.aload_n 0, 1) := by decide +kernel
theorem dX10_drop_1 : decode cX10_drop 1 = .ok (.invokevirtual 280, 3) := by decide +kernel
theorem dX10_drop_4 : decode cX10_drop 4 = .ok (.ifCond .eq 7, 3) := by decide +kernel
theorem dX10_drop_7 : decode cX10_drop 7 = .ok (.iconst 0, 1) := by decide +kernel
theorem dX10_drop_8 : decode cX10_drop 8 = .ok (.goto 13, 3) := by decide +kernel
theorem dX10_drop_11 : decode cX10_drop 11 = .ok (.aload_n 0, 1) := by decide +kernel
theorem dX10_drop_12 : decode cX10_drop 12 = .ok (.aload_n 0, 1) := by decide +kernel
theorem dX10_drop_13 : decode cX10_drop 13 = .ok (.getfield 168, 3) := by decide +kernel
theorem dX10_drop_16 : decode cX10_drop 16 = .ok (.iconst 1, 1) := by decide +kernel
theorem dX10_drop_17 : decode cX10_drop 17 = .ok (.iconst 0, 1) := by decide +kernel
theorem dX10_drop_18 : decode cX10_drop 18 = .ok (.invokevirtual 275, 3) := by decide +kernel
theorem dX10_drop_21 : decode cX10_drop 21 = .ok (.ireturn, 1) := by decide +kernel
set_option maxRecDepth 20000 in
theorem ggX10_beaver_X10_failsDouble : GoodIn wsX10_beaver wsX10_failsDouble := goodIn_r _ [7, 8, 9, 10, 11, 6, 12, 13, 20, 21, 22, 23, 24, 25, 26, 27, 28, 29, 30, 31, 32, 33, 34, 35, 36, 37, 38, 39, 40, 41, 42, 43, 44, 45, 46, 47, 48, 49, 50, 51, 52, 53, 54, 55, 56, 57, 58, 59, 60, 61, 62, 63, 64, 65, 66, 67, 68, 69, 70, 71, 72, 73] (by decide +kernel) (by decide +kernel)
set_option maxRecDepth 20000 in
theorem gX10_beaver_X10_failsDouble : GoodIn wsX10_beaver (wsV RX10 280 RX10 yX10_failsDouble wsX10_failsDouble) := goodIn_app (goodIn_of _ (by decide +kernel)) ggX10_beaver_X10_failsDouble
set_option maxRecDepth 20000 in
theorem ggX10_beaver_X10_fails : GoodIn wsX10_beaver wsX10_fails := goodIn_r _ [12, 13, 20, 21, 22, 23, 24, 25, 26, 27, 28, 29, 30, 31, 32, 33, 34, 35, 36, 37, 38, 39, 40, 41, 42, 43, 44, 45, 46, 47, 48, 49, 50, 51, 52, 53, 54, 55, 56, 57, 58, 59, 60, 61, 62, 63, 64, 65, 66, 67, 68, 69, 70, 71, 72, 73] (by decide +kernel) (by decide +kernel)
set_option maxRecDepth 20000 in
theorem gX10_beaver_X10_fails : GoodIn wsX10_beaver (wsV RX10 178 RX10 yX10_fails wsX10_fails) := goodIn_app (goodIn_of _ (by decide +kernel)) ggX10_beaver_X10_fails
set_option maxRecDepth 20000 in
theorem ggX10_beaver_X10_turned : GoodIn wsX10_beaver wsX10_turned := goodIn_r _ [17, 2, 18, 19, 8, 20, 21, 22, 23, 24, 25, 26, 27, 28, 29, 30, 31, 32, 33, 34, 35, 36, 37, 38, 39, 40, 41, 42, 43, 44, 45, 46, 47, 48, 49, 50, 51, 52, 53, 54, 55, 56, 57, 58, 59, 60, 61, 62, 63, 64, 65, 66, 67, 68, 69, 70, 71, 72, 73] (by decide +kernel) (by decide +kernel)
set_option maxRecDepth 20000 in
theorem gX10_beaver_X10_turned : GoodIn wsX10_beaver (wsV RX10 283 RX10 yX10_turned wsX10_turned) := goodIn_app (goodIn_of _ (by decide +kernel)) ggX10_beaver_X10_turned
theorem dX10_beaver_0 : decode cX10_beaver 0 = .ok (.aload_n 0, 1) := by decide +kernel
theorem dX10_beaver_1 : decode cX10_beaver 1 = .ok (.invokevirtual 280, 3) := by decide +kernel
theorem dX10_beaver_4 : decode cX10_beaver 4 = .ok (.ifCond .ne 33, 3) := by decide +kernel
theorem dX10_beaver_7 : decode cX10_beaver 7 = .ok (.aload_n 0, 1) := by decide +kernel
theorem dX10_beaver_8 : decode cX10_beaver 8 = .ok (.aload_n 0, 1) := by decide +kernel
theorem dX10_beaver_9 : decode cX10_beaver 9 = .ok (.getfield 188, 3) := by decide +kernel
theorem dX10_beaver_12 : decode cX10_beaver 12 = .ok (.ifCond .gt 14, 3) := by decide +kernel
theorem dX10_beaver_15 : decode cX10_beaver 15 = .ok (.iconst 4, 1) := by decide +kernel
theorem dX10_beaver_16 : decode cX10_beaver 16 = .ok (.aload_n 0, 1) := by decide +kernel
theorem dX10_beaver_17 : decode cX10_beaver 17 = .ok (.getfield 23, 3) := by decide +kernel
theorem dX10_beaver_20 : decode cX10_beaver 20 = .ok (.imul, 1) := by decide +kernel
theorem dX10_beaver_21 : decode cX10_beaver 21 = .ok (.bipush 64, 2) := by decide +kernel
theorem dX10_beaver_23 : decode cX10_beaver 23 = .ok (.if_icmp .le 7, 3) := by decide +kernel
theorem dX10_beaver_26 : decode cX10_beaver 26 = .ok (.iconst 2, 1) := by decide +kernel
theorem dX10_beaver_27 : decode cX10_beaver 27 = .ok (.goto 4, 3) := by decide +kernel
theorem dX10_beaver_30 : decode cX10_beaver 30 = .ok (.iconst 0, 1) := by decide +kernel
theorem dX10_beaver_31 : decode cX10_beaver 31 = .ok (.invokevirtual 178, 3) := by decide +kernel
theorem dX10_beaver_34 : decode cX10_beaver 34 = .ok (.ifCond .eq 7, 3) := by decide +kernel
theorem dX10_beaver_37 : decode cX10_beaver 37 = .ok (.iconst 0, 1) := by decide +kernel
theorem dX10_beaver_38 : decode cX10_beaver 38 = .ok (.goto 8, 3) := by decide +kernel
theorem dX10_beaver_41 : decode cX10_beaver 41 = .ok (.aload_n 0, 1) := by decide +kernel
theorem dX10_beaver_42 : decode cX10_beaver 42 = .ok (.iconst 4, 1) := by decide +kernel
theorem dX10_beaver_43 : decode cX10_beaver 43 = .ok (.invokevirtual 283, 3) := by decide +kernel
theorem dX10_beaver_46 : decode cX10_beaver 46 = .ok (.ireturn, 1) := by decide +kernel
set_option maxRecDepth 20000 in
theorem ggX10_worth__X10_failsSide : GoodIn wsX10_worth_ wsX10_failsSide := goodIn_r _ [7, 8, 9, 6, 10, 11, 12, 13, 14, 15, 28, 29, 30, 31, 32, 33, 34, 35, 36, 37, 38, 39, 40, 41, 42, 43, 44, 45, 46, 47, 48, 49, 50, 51, 52, 53, 54, 55, 56, 57, 58, 59, 60, 61, 62, 63, 64, 65, 66, 67, 68, 69, 70, 71, 72, 73, 74, 75, 76, 77, 78, 79, 80, 81] (by decide +kernel) (by decide +kernel)
set_option maxRecDepth 20000 in
theorem gX10_worth__X10_failsSide : GoodIn wsX10_worth_ (wsV RX10 213 RX10 yX10_failsSide wsX10_failsSide) := goodIn_app (goodIn_of _ (by decide +kernel)) ggX10_worth__X10_failsSide
set_option maxRecDepth 20000 in
theorem ggX10_worth__X10_fails : GoodIn wsX10_worth_ wsX10_fails := goodIn_r _ [14, 15, 28, 29, 30, 31, 32, 33, 34, 35, 36, 37, 38, 39, 40, 41, 42, 43, 44, 45, 46, 47, 48, 49, 50, 51, 52, 53, 54, 55, 56, 57, 58, 59, 60, 61, 62, 63, 64, 65, 66, 67, 68, 69, 70, 71, 72, 73, 74, 75, 76, 77, 78, 79, 80, 81] (by decide +kernel) (by decide +kernel)
set_option maxRecDepth 20000 in
theorem gX10_worth__X10_fails : GoodIn wsX10_worth_ (wsV RX10 178 RX10 yX10_fails wsX10_fails) := goodIn_app (goodIn_of _ (by decide +kernel)) ggX10_worth__X10_fails
set_option maxRecDepth 20000 in
theorem ggX10_worth__X10_worth : GoodIn wsX10_worth_ wsX10_worth := goodIn_r _ [18, 19, 20, 6, 21, 22, 23, 24, 25, 26, 27] (by decide +kernel) (by decide +kernel)
set_option maxRecDepth 20000 in
theorem gX10_worth__X10_worth : GoodIn wsX10_worth_ (va_wsS RX10 128 yX10_worth wsX10_worth) := goodIn_app (goodIn_of _ (by decide +kernel)) ggX10_worth__X10_worth
theorem dX10_worth__0 : decode cX10_worth_ 0 = .ok (.aload_n 0, 1) := by decide +kernel
theorem dX10_worth__1 : decode cX10_worth_ 1 = .ok (.iload_n 1, 1) := by decide +kernel
theorem dX10_worth__2 : decode cX10_worth_ 2 = .ok (.invokevirtual 213, 3) := by decide +kernel
theorem dX10_worth__5 : decode cX10_worth_ 5 = .ok (.ifCond .ne 24, 3) := by decide +kernel
theorem dX10_worth__8 : decode cX10_worth_ 8 = .ok (.aload_n 0, 1) := by decide +kernel
theorem dX10_worth__9 : decode cX10_worth_ 9 = .ok (.aload_n 0, 1) := by decide +kernel
theorem dX10_worth__10 : decode cX10_worth_ 10 = .ok (.getfield 13, 3) := by decide +kernel
theorem dX10_worth__13 : decode cX10_worth_ 13 = .ok (.bipush 45, 2) := by decide +kernel
theorem dX10_worth__15 : decode cX10_worth_ 15 = .ok (.if_icmp .ne 7, 3) := by decide +kernel
theorem dX10_worth__18 : decode cX10_worth_ 18 = .ok (.iconst 2, 1) := by decide +kernel
theorem dX10_worth__19 : decode cX10_worth_ 19 = .ok (.goto 4, 3) := by decide +kernel
theorem dX10_worth__22 : decode cX10_worth_ 22 = .ok (.iconst 0, 1) := by decide +kernel
theorem dX10_worth__23 : decode cX10_worth_ 23 = .ok (.invokevirtual 178, 3) := by decide +kernel
theorem dX10_worth__26 : decode cX10_worth_ 26 = .ok (.ifCond .eq 7, 3) := by decide +kernel
theorem dX10_worth__29 : decode cX10_worth_ 29 = .ok (.iconst 0, 1) := by decide +kernel
theorem dX10_worth__30 : decode cX10_worth_ 30 = .ok (.goto 12, 3) := by decide +kernel
theorem dX10_worth__33 : decode cX10_worth_ 33 = .ok (.aload_n 0, 1) := by decide +kernel
theorem dX10_worth__34 : decode cX10_worth_ 34 = .ok (.getfield 17, 3) := by decide +kernel
theorem dX10_worth__37 : decode cX10_worth_ 37 = .ok (.iconst 0, 1) := by decide +kernel
theorem dX10_worth__38 : decode cX10_worth_ 38 = .ok (.iload_n 1, 1) := by decide +kernel
theorem dX10_worth__39 : decode cX10_worth_ 39 = .ok (.invokestatic 128, 3) := by decide +kernel
theorem dX10_worth__42 : decode cX10_worth_ 42 = .ok (.ireturn, 1) := by decide +kernel
set_option maxRecDepth 20000 in
theorem ggX10_best_X10_failsRoll : GoodIn wsX10_best wsX10_failsRoll := goodIn_r _ [6, 7, 8, 9, 10, 5, 11, 12, 31, 32, 33, 34, 35, 36, 37, 38, 39, 40, 41, 42, 43, 44, 45, 46, 47, 48, 49, 50, 51, 52, 53, 54, 55, 56, 57, 58, 59, 60, 61, 62, 63, 64, 65, 66, 67, 68, 69, 70, 71, 72, 73, 74, 75, 76, 77, 78, 79, 80, 81, 82, 83, 84] (by decide +kernel) (by decide +kernel)
set_option maxRecDepth 20000 in
theorem gX10_best_X10_failsRoll : GoodIn wsX10_best (wsV RX10 247 RX10 yX10_failsRoll wsX10_failsRoll) := goodIn_app (goodIn_of _ (by decide +kernel)) ggX10_best_X10_failsRoll
set_option maxRecDepth 20000 in
theorem ggX10_best_X10_worthBehind : GoodIn wsX10_best wsX10_worthBehind := goodIn_r _ [16, 17, 18, 19, 20, 5, 21, 22, 23, 24, 25, 26, 27, 28, 29, 30, 31, 32, 33, 34, 35, 36, 37, 38, 39, 40, 41, 42, 43, 44, 45, 46, 47, 48, 49, 50, 51, 52, 53, 54, 55, 56, 57, 58, 59, 60, 61, 62, 63, 64, 65, 66, 67, 68, 69, 70, 71, 72, 73, 74, 75, 76, 77, 78, 79, 80, 81, 82, 83, 84] (by decide +kernel) (by decide +kernel)
set_option maxRecDepth 20000 in
theorem gX10_best_X10_worthBehind : GoodIn wsX10_best (wsV RX10 171 RX10 yX10_worthBehind wsX10_worthBehind) := goodIn_app (goodIn_of _ (by decide +kernel)) ggX10_best_X10_worthBehind
theorem dX10_best_0 : decode cX10_best 0 = .ok (.aload_n 0, 1) := by decide +kernel
theorem dX10_best_1 : decode cX10_best 1 = .ok (.invokevirtual 247, 3) := by decide +kernel
theorem dX10_best_4 : decode cX10_best 4 = .ok (.ifCond .eq 5, 3) := by decide +kernel
theorem dX10_best_7 : decode cX10_best 7 = .ok (.iconst 0, 1) := by decide +kernel
theorem dX10_best_8 : decode cX10_best 8 = .ok (.ireturn, 1) := by decide +kernel
theorem dX10_best_9 : decode cX10_best 9 = .ok (.iconst 0, 1) := by decide +kernel
theorem dX10_best_10 : decode cX10_best 10 = .ok (.istore_n 1, 1) := by decide +kernel
theorem dX10_best_11 : decode cX10_best 11 = .ok (.iconst 1, 1) := by decide +kernel
theorem dX10_best_12 : decode cX10_best 12 = .ok (.istore_n 2, 1) := by decide +kernel
theorem dX10_best_13 : decode cX10_best 13 = .ok (.iload_n 2, 1) := by decide +kernel
theorem dX10_best_14 : decode cX10_best 14 = .ok (.aload_n 0, 1) := by decide +kernel
theorem dX10_best_15 : decode cX10_best 15 = .ok (.getfield 142, 3) := by decide +kernel
theorem dX10_best_18 : decode cX10_best 18 = .ok (.if_icmp .ge 28, 3) := by decide +kernel
theorem dX10_best_21 : decode cX10_best 21 = .ok (.aload_n 0, 1) := by decide +kernel
theorem dX10_best_22 : decode cX10_best 22 = .ok (.iload_n 2, 1) := by decide +kernel
theorem dX10_best_23 : decode cX10_best 23 = .ok (.invokevirtual 171, 3) := by decide +kernel
theorem dX10_best_26 : decode cX10_best 26 = .ok (.aload_n 0, 1) := by decide +kernel
theorem dX10_best_27 : decode cX10_best 27 = .ok (.iload_n 1, 1) := by decide +kernel
theorem dX10_best_28 : decode cX10_best 28 = .ok (.invokevirtual 171, 3) := by decide +kernel
theorem dX10_best_31 : decode cX10_best 31 = .ok (.if_icmp .le 7, 3) := by decide +kernel
theorem dX10_best_34 : decode cX10_best 34 = .ok (.iload_n 2, 1) := by decide +kernel
theorem dX10_best_35 : decode cX10_best 35 = .ok (.goto 4, 3) := by decide +kernel
theorem dX10_best_38 : decode cX10_best 38 = .ok (.iload_n 1, 1) := by decide +kernel
theorem dX10_best_39 : decode cX10_best 39 = .ok (.istore_n 1, 1) := by decide +kernel
theorem dX10_best_40 : decode cX10_best 40 = .ok (.iinc 2 1, 3) := by decide +kernel
theorem dX10_best_43 : decode cX10_best 43 = .ok (.goto (-30), 3) := by decide +kernel
theorem dX10_best_46 : decode cX10_best 46 = .ok (.iload_n 1, 1) := by decide +kernel
theorem dX10_best_47 : decode cX10_best 47 = .ok (.ireturn, 1) := by decide +kernel
set_option maxRecDepth 20000 in
theorem ggX10_error_X10_failsPlay : GoodIn wsX10_error wsX10_failsPlay := goodIn_r _ [5, 6, 7, 8, 9, 4, 10, 11, 12, 13, 14, 15, 16, 17, 18, 19, 42, 43, 44, 45, 46, 47, 48, 49, 50, 51, 52, 53, 54, 55, 56, 57, 58, 59, 60, 61, 62, 63, 64, 65, 66, 67, 68, 69, 70, 71, 72, 73, 74, 75, 76, 77, 78, 79, 80, 81, 82, 83, 84, 85, 86, 87, 88, 89, 90, 91, 92, 93, 94, 95] (by decide +kernel) (by decide +kernel)
set_option maxRecDepth 20000 in
theorem gX10_error_X10_failsPlay : GoodIn wsX10_error (wsV RX10 250 RX10 yX10_failsPlay wsX10_failsPlay) := goodIn_app (goodIn_of _ (by decide +kernel)) ggX10_error_X10_failsPlay
set_option maxRecDepth 20000 in
theorem ggX10_error_X10_bestWorth : GoodIn wsX10_error wsX10_bestWorth := goodIn_r _ [23, 6, 24, 25, 26, 4, 27, 28, 29, 30, 31, 32, 33, 34, 35, 36, 37, 38, 39, 40, 41, 42, 43, 44, 45, 46, 47, 48, 49, 50, 51, 52, 53, 54, 55, 56, 57, 58, 59, 60, 61, 62, 63, 64, 65, 66, 67, 68, 69, 70, 71, 72, 73, 74, 75, 76, 77, 78, 79, 80, 81, 82, 83, 84, 85, 86, 87, 88, 89, 90, 91, 92, 93, 94, 95] (by decide +kernel) (by decide +kernel)
set_option maxRecDepth 20000 in
theorem gX10_error_X10_bestWorth : GoodIn wsX10_error (wsV RX10 267 RX10 yX10_bestWorth wsX10_bestWorth) := goodIn_app (goodIn_of _ (by decide +kernel)) ggX10_error_X10_bestWorth
set_option maxRecDepth 20000 in
theorem ggX10_error_X10_worthBehind : GoodIn wsX10_error wsX10_worthBehind := goodIn_r _ [27, 28, 29, 30, 31, 4, 32, 33, 34, 35, 36, 37, 38, 39, 40, 41, 42, 43, 44, 45, 46, 47, 48, 49, 50, 51, 52, 53, 54, 55, 56, 57, 58, 59, 60, 61, 62, 63, 64, 65, 66, 67, 68, 69, 70, 71, 72, 73, 74, 75, 76, 77, 78, 79, 80, 81, 82, 83, 84, 85, 86, 87, 88, 89, 90, 91, 92, 93, 94, 95] (by decide +kernel) (by decide +kernel)
set_option maxRecDepth 20000 in
theorem gX10_error_X10_worthBehind : GoodIn wsX10_error (wsV RX10 171 RX10 yX10_worthBehind wsX10_worthBehind) := goodIn_app (goodIn_of _ (by decide +kernel)) ggX10_error_X10_worthBehind
theorem dX10_error_0 : decode cX10_error 0 = .ok (.aload_n 0, 1) := by decide +kernel
theorem dX10_error_1 : decode cX10_error 1 = .ok (.iload_n 1, 1) := by decide +kernel
theorem dX10_error_2 : decode cX10_error 2 = .ok (.invokevirtual 250, 3) := by decide +kernel
theorem dX10_error_5 : decode cX10_error 5 = .ok (.ifCond .eq 7, 3) := by decide +kernel
theorem dX10_error_8 : decode cX10_error 8 = .ok (.iconst 0, 1) := by decide +kernel
theorem dX10_error_9 : decode cX10_error 9 = .ok (.goto 13, 3) := by decide +kernel
theorem dX10_error_12 : decode cX10_error 12 = .ok (.aload_n 0, 1) := by decide +kernel
theorem dX10_error_13 : decode cX10_error 13 = .ok (.invokevirtual 267, 3) := by decide +kernel
theorem dX10_error_16 : decode cX10_error 16 = .ok (.aload_n 0, 1) := by decide +kernel
theorem dX10_error_17 : decode cX10_error 17 = .ok (.iload_n 1, 1) := by decide +kernel
theorem dX10_error_18 : decode cX10_error 18 = .ok (.invokevirtual 171, 3) := by decide +kernel
theorem dX10_error_21 : decode cX10_error 21 = .ok (.isub, 1) := by decide +kernel
theorem dX10_error_22 : decode cX10_error 22 = .ok (.ireturn, 1) := by decide +kernel
set_option maxRecDepth 20000 in
theorem ggX10_deep_X10_failsPlay : GoodIn wsX10_deep wsX10_failsPlay := goodIn_r _ [9, 10, 11, 12, 13, 8, 14, 15, 16, 17, 18, 19, 20, 21, 22, 23, 82, 83, 84, 85, 86, 87, 88, 89, 90, 91, 92, 93, 94, 95, 96, 97, 98, 99, 100, 101, 102, 103, 104, 105, 106, 107, 108, 109, 110, 111, 112, 113, 114, 115, 116, 117, 118, 119, 120, 121, 122, 123, 124, 125, 126, 127, 128, 129, 130, 131, 132, 133, 134, 135] (by decide +kernel) (by decide +kernel)
set_option maxRecDepth 20000 in
theorem gX10_deep_X10_failsPlay : GoodIn wsX10_deep (wsV RX10 250 RX10 yX10_failsPlay wsX10_failsPlay) := goodIn_app (goodIn_of _ (by decide +kernel)) ggX10_deep_X10_failsPlay
set_option maxRecDepth 20000 in
theorem ggX10_deep_X10_find : GoodIn wsX10_deep wsX10_find := goodIn_r _ [27, 28, 29, 30, 31, 32, 33, 34, 35, 10, 36, 37, 38, 8, 39, 40, 41, 42, 43, 44, 45, 46, 47, 48, 21, 22, 23, 49, 50, 51, 52, 53, 54, 55, 56, 57, 58, 59, 60, 61, 62, 63, 64, 3, 1, 65, 66, 67, 68, 69, 70, 71, 72, 73, 74, 75, 76, 77, 78, 79, 80, 81, 82, 83, 84, 85, 86, 87, 88, 89, 90, 91, 92, 93, 94, 95, 96, 97, 98, 99, 100, 101, 102, 103, 104, 105, 106, 107, 108, 109, 110, 111, 112, 113, 114, 115, 116, 117, 118, 119, 120, 121, 122, 123, 124, 125, 126, 127, 128, 129, 130, 131, 132, 133, 134, 135] (by decide +kernel) (by decide +kernel)
