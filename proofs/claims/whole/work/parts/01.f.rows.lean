set_option maxRecDepth 20000 in
theorem gX10_deep_X10_find : GoodIn wsX10_deep (wsV RX10 237 RX10 yX10_find wsX10_find) := goodIn_app (goodIn_of _ (by decide +kernel)) ggX10_deep_X10_find
theorem dX10_deep_0 : decode cX10_deep 0 = .ok (.aload_n 0, 1) := by decide +kernel
theorem dX10_deep_1 : decode cX10_deep 1 = .ok (.iload_n 1, 1) := by decide +kernel
theorem dX10_deep_2 : decode cX10_deep 2 = .ok (.invokevirtual 250, 3) := by decide +kernel
theorem dX10_deep_5 : decode cX10_deep 5 = .ok (.ifCond .eq 5, 3) := by decide +kernel
theorem dX10_deep_8 : decode cX10_deep 8 = .ok (.lconst 0, 1) := by decide +kernel
theorem dX10_deep_9 : decode cX10_deep 9 = .ok (.lreturn, 1) := by decide +kernel
theorem dX10_deep_10 : decode cX10_deep 10 = .ok (.lconst 0, 1) := by decide +kernel
theorem dX10_deep_11 : decode cX10_deep 11 = .ok (.lstore_n 2, 1) := by decide +kernel
theorem dX10_deep_12 : decode cX10_deep 12 = .ok (.iconst 1, 1) := by decide +kernel
theorem dX10_deep_13 : decode cX10_deep 13 = .ok (.istore 4, 2) := by decide +kernel
theorem dX10_deep_15 : decode cX10_deep 15 = .ok (.iload 4, 2) := by decide +kernel
theorem dX10_deep_17 : decode cX10_deep 17 = .ok (.bipush 6, 2) := by decide +kernel
theorem dX10_deep_19 : decode cX10_deep 19 = .ok (.if_icmp .gt 77, 3) := by decide +kernel
theorem dX10_deep_22 : decode cX10_deep 22 = .ok (.iload 4, 2) := by decide +kernel
theorem dX10_deep_24 : decode cX10_deep 24 = .ok (.istore 5, 2) := by decide +kernel
theorem dX10_deep_26 : decode cX10_deep 26 = .ok (.iload 5, 2) := by decide +kernel
theorem dX10_deep_28 : decode cX10_deep 28 = .ok (.bipush 6, 2) := by decide +kernel
theorem dX10_deep_30 : decode cX10_deep 30 = .ok (.if_icmp .gt 60, 3) := by decide +kernel
theorem dX10_deep_33 : decode cX10_deep 33 = .ok (.aload_n 0, 1) := by decide +kernel
theorem dX10_deep_34 : decode cX10_deep 34 = .ok (.bipush 119, 2) := by decide +kernel
theorem dX10_deep_36 : decode cX10_deep 36 = .ok (.aload_n 0, 1) := by decide +kernel
theorem dX10_deep_37 : decode cX10_deep 37 = .ok (.getfield 34, 3) := by decide +kernel
theorem dX10_deep_40 : decode cX10_deep 40 = .ok (.bipush 52, 2) := by decide +kernel
theorem dX10_deep_42 : decode cX10_deep 42 = .ok (.iload_n 1, 1) := by decide +kernel
theorem dX10_deep_43 : decode cX10_deep 43 = .ok (.imul, 1) := by decide +kernel
theorem dX10_deep_44 : decode cX10_deep 44 = .ok (.iconst 1, 1) := by decide +kernel
theorem dX10_deep_45 : decode cX10_deep 45 = .ok (.aload_n 0, 1) := by decide +kernel
theorem dX10_deep_46 : decode cX10_deep 46 = .ok (.getfield 168, 3) := by decide +kernel
theorem dX10_deep_49 : decode cX10_deep 49 = .ok (.isub, 1) := by decide +kernel
theorem dX10_deep_50 : decode cX10_deep 50 = .ok (.iload 4, 2) := by decide +kernel
theorem dX10_deep_52 : decode cX10_deep 52 = .ok (.iload 5, 2) := by decide +kernel
theorem dX10_deep_54 : decode cX10_deep 54 = .ok (.invokevirtual 237, 3) := by decide +kernel
theorem dX10_deep_57 : decode cX10_deep 57 = .ok (.lload_n 2, 1) := by decide +kernel
theorem dX10_deep_58 : decode cX10_deep 58 = .ok (.iload 4, 2) := by decide +kernel
theorem dX10_deep_60 : decode cX10_deep 60 = .ok (.iload 5, 2) := by decide +kernel
theorem dX10_deep_62 : decode cX10_deep 62 = .ok (.if_icmp .ne 11, 3) := by decide +kernel
theorem dX10_deep_65 : decode cX10_deep 65 = .ok (.aload_n 0, 1) := by decide +kernel
theorem dX10_deep_66 : decode cX10_deep 66 = .ok (.getfield 135, 3) := by decide +kernel
theorem dX10_deep_69 : decode cX10_deep 69 = .ok (.i2l, 1) := by decide +kernel
theorem dX10_deep_70 : decode cX10_deep 70 = .ok (.goto 12, 3) := by decide +kernel
theorem dX10_deep_73 : decode cX10_deep 73 = .ok (.ldc2_w 286, 3) := by decide +kernel
theorem dX10_deep_76 : decode cX10_deep 76 = .ok (.aload_n 0, 1) := by decide +kernel
theorem dX10_deep_77 : decode cX10_deep 77 = .ok (.getfield 135, 3) := by decide +kernel
theorem dX10_deep_80 : decode cX10_deep 80 = .ok (.i2l, 1) := by decide +kernel
theorem dX10_deep_81 : decode cX10_deep 81 = .ok (.lmul, 1) := by decide +kernel
theorem dX10_deep_82 : decode cX10_deep 82 = .ok (.ladd, 1) := by decide +kernel
theorem dX10_deep_83 : decode cX10_deep 83 = .ok (.lstore_n 2, 1) := by decide +kernel
theorem dX10_deep_84 : decode cX10_deep 84 = .ok (.iinc 5 1, 3) := by decide +kernel
theorem dX10_deep_87 : decode cX10_deep 87 = .ok (.goto (-61), 3) := by decide +kernel
theorem dX10_deep_90 : decode cX10_deep 90 = .ok (.iinc 4 1, 3) := by decide +kernel
theorem dX10_deep_93 : decode cX10_deep 93 = .ok (.goto (-78), 3) := by decide +kernel
theorem dX10_deep_96 : decode cX10_deep 96 = .ok (.lload_n 2, 1) := by decide +kernel
theorem dX10_deep_97 : decode cX10_deep 97 = .ok (.lneg, 1) := by decide +kernel
theorem dX10_deep_98 : decode cX10_deep 98 = .ok (.lreturn, 1) := by decide +kernel
theorem dX10_code_0 : decode cX10_code 0 = .ok (.iload_n 0, 1) := by decide +kernel
theorem dX10_code_1 : decode cX10_code 1 = .ok (.iload_n 1, 1) := by decide +kernel
theorem dX10_code_2 : decode cX10_code 2 = .ok (.if_icmp .le 16, 3) := by decide +kernel
theorem dX10_code_5 : decode cX10_code 5 = .ok (.iload_n 0, 1) := by decide +kernel
theorem dX10_code_6 : decode cX10_code 6 = .ok (.iload_n 2, 1) := by decide +kernel
theorem dX10_code_7 : decode cX10_code 7 = .ok (.if_icmp .le 7, 3) := by decide +kernel
theorem dX10_code_10 : decode cX10_code 10 = .ok (.iload_n 0, 1) := by decide +kernel
theorem dX10_code_11 : decode cX10_code 11 = .ok (.goto 17, 3) := by decide +kernel
theorem dX10_code_14 : decode cX10_code 14 = .ok (.iload_n 2, 1) := by decide +kernel
theorem dX10_code_15 : decode cX10_code 15 = .ok (.goto 13, 3) := by decide +kernel
theorem dX10_code_18 : decode cX10_code 18 = .ok (.iload_n 1, 1) := by decide +kernel
theorem dX10_code_19 : decode cX10_code 19 = .ok (.iload_n 2, 1) := by decide +kernel
theorem dX10_code_20 : decode cX10_code 20 = .ok (.if_icmp .le 7, 3) := by decide +kernel
theorem dX10_code_23 : decode cX10_code 23 = .ok (.iload_n 1, 1) := by decide +kernel
theorem dX10_code_24 : decode cX10_code 24 = .ok (.goto 4, 3) := by decide +kernel
theorem dX10_code_27 : decode cX10_code 27 = .ok (.iload_n 2, 1) := by decide +kernel
theorem dX10_code_28 : decode cX10_code 28 = .ok (.istore_n 3, 1) := by decide +kernel
theorem dX10_code_29 : decode cX10_code 29 = .ok (.iload_n 0, 1) := by decide +kernel
theorem dX10_code_30 : decode cX10_code 30 = .ok (.iload_n 1, 1) := by decide +kernel
theorem dX10_code_31 : decode cX10_code 31 = .ok (.if_icmp .ge 16, 3) := by decide +kernel
theorem dX10_code_34 : decode cX10_code 34 = .ok (.iload_n 0, 1) := by decide +kernel
theorem dX10_code_35 : decode cX10_code 35 = .ok (.iload_n 2, 1) := by decide +kernel
theorem dX10_code_36 : decode cX10_code 36 = .ok (.if_icmp .ge 7, 3) := by decide +kernel
theorem dX10_code_39 : decode cX10_code 39 = .ok (.iload_n 0, 1) := by decide +kernel
theorem dX10_code_40 : decode cX10_code 40 = .ok (.goto 17, 3) := by decide +kernel
theorem dX10_code_43 : decode cX10_code 43 = .ok (.iload_n 2, 1) := by decide +kernel
theorem dX10_code_44 : decode cX10_code 44 = .ok (.goto 13, 3) := by decide +kernel
theorem dX10_code_47 : decode cX10_code 47 = .ok (.iload_n 1, 1) := by decide +kernel
theorem dX10_code_48 : decode cX10_code 48 = .ok (.iload_n 2, 1) := by decide +kernel
theorem dX10_code_49 : decode cX10_code 49 = .ok (.if_icmp .ge 7, 3) := by decide +kernel
theorem dX10_code_52 : decode cX10_code 52 = .ok (.iload_n 1, 1) := by decide +kernel
theorem dX10_code_53 : decode cX10_code 53 = .ok (.goto 4, 3) := by decide +kernel
theorem dX10_code_56 : decode cX10_code 56 = .ok (.iload_n 2, 1) := by decide +kernel
theorem dX10_code_57 : decode cX10_code 57 = .ok (.istore 4, 2) := by decide +kernel
theorem dX10_code_59 : decode cX10_code 59 = .ok (.bipush 49, 2) := by decide +kernel
theorem dX10_code_61 : decode cX10_code 61 = .ok (.iload_n 3, 1) := by decide +kernel
theorem dX10_code_62 : decode cX10_code 62 = .ok (.imul, 1) := by decide +kernel
theorem dX10_code_63 : decode cX10_code 63 = .ok (.bipush 7, 2) := by decide +kernel
theorem dX10_code_65 : decode cX10_code 65 = .ok (.iload_n 0, 1) := by decide +kernel
theorem dX10_code_66 : decode cX10_code 66 = .ok (.iload_n 1, 1) := by decide +kernel
theorem dX10_code_67 : decode cX10_code 67 = .ok (.iadd, 1) := by decide +kernel
theorem dX10_code_68 : decode cX10_code 68 = .ok (.iload_n 2, 1) := by decide +kernel
theorem dX10_code_69 : decode cX10_code 69 = .ok (.iadd, 1) := by decide +kernel
theorem dX10_code_70 : decode cX10_code 70 = .ok (.iload_n 3, 1) := by decide +kernel
theorem dX10_code_71 : decode cX10_code 71 = .ok (.isub, 1) := by decide +kernel
theorem dX10_code_72 : decode cX10_code 72 = .ok (.iload 4, 2) := by decide +kernel
theorem dX10_code_74 : decode cX10_code 74 = .ok (.isub, 1) := by decide +kernel
theorem dX10_code_75 : decode cX10_code 75 = .ok (.imul, 1) := by decide +kernel
theorem dX10_code_76 : decode cX10_code 76 = .ok (.iadd, 1) := by decide +kernel
theorem dX10_code_77 : decode cX10_code 77 = .ok (.iload 4, 2) := by decide +kernel
theorem dX10_code_79 : decode cX10_code 79 = .ok (.iadd, 1) := by decide +kernel
theorem dX10_code_80 : decode cX10_code 80 = .ok (.ireturn, 1) := by decide +kernel
set_option maxRecDepth 20000 in
theorem ggX10_behind_X10_code : GoodIn wsX10_behind wsX10_code := goodIn_r _ [4] (by decide +kernel) (by decide +kernel)
set_option maxRecDepth 20000 in
theorem gX10_behind_X10_code : GoodIn wsX10_behind (va_wsS RX10 288 yX10_code wsX10_code) := goodIn_app (goodIn_of _ (by decide +kernel)) ggX10_behind_X10_code
theorem dX10_behind_0 : decode cX10_behind 0 = .ok (.iload_n 0, 1) := by decide +kernel
theorem dX10_behind_1 : decode cX10_behind 1 = .ok (.bipush 49, 2) := by decide +kernel
theorem dX10_behind_3 : decode cX10_behind 3 = .ok (.idiv, 1) := by decide +kernel
theorem dX10_behind_4 : decode cX10_behind 4 = .ok (.istore_n 3, 1) := by decide +kernel
theorem dX10_behind_5 : decode cX10_behind 5 = .ok (.iload_n 0, 1) := by decide +kernel
theorem dX10_behind_6 : decode cX10_behind 6 = .ok (.bipush 7, 2) := by decide +kernel
theorem dX10_behind_8 : decode cX10_behind 8 = .ok (.idiv, 1) := by decide +kernel
theorem dX10_behind_9 : decode cX10_behind 9 = .ok (.bipush 7, 2) := by decide +kernel
theorem dX10_behind_11 : decode cX10_behind 11 = .ok (.irem, 1) := by decide +kernel
theorem dX10_behind_12 : decode cX10_behind 12 = .ok (.istore 4, 2) := by decide +kernel
theorem dX10_behind_14 : decode cX10_behind 14 = .ok (.iload_n 0, 1) := by decide +kernel
theorem dX10_behind_15 : decode cX10_behind 15 = .ok (.bipush 7, 2) := by decide +kernel
theorem dX10_behind_17 : decode cX10_behind 17 = .ok (.irem, 1) := by decide +kernel
theorem dX10_behind_18 : decode cX10_behind 18 = .ok (.istore 5, 2) := by decide +kernel
theorem dX10_behind_20 : decode cX10_behind 20 = .ok (.iload_n 1, 1) := by decide +kernel
theorem dX10_behind_21 : decode cX10_behind 21 = .ok (.ifCond .ne 7, 3) := by decide +kernel
theorem dX10_behind_24 : decode cX10_behind 24 = .ok (.iload_n 3, 1) := by decide +kernel
theorem dX10_behind_25 : decode cX10_behind 25 = .ok (.goto 15, 3) := by decide +kernel
theorem dX10_behind_28 : decode cX10_behind 28 = .ok (.iload_n 1, 1) := by decide +kernel
theorem dX10_behind_29 : decode cX10_behind 29 = .ok (.iconst 1, 1) := by decide +kernel
theorem dX10_behind_30 : decode cX10_behind 30 = .ok (.if_icmp .ne 8, 3) := by decide +kernel
theorem dX10_behind_33 : decode cX10_behind 33 = .ok (.iload 4, 2) := by decide +kernel
theorem dX10_behind_35 : decode cX10_behind 35 = .ok (.goto 5, 3) := by decide +kernel
theorem dX10_behind_38 : decode cX10_behind 38 = .ok (.iload 5, 2) := by decide +kernel
theorem dX10_behind_40 : decode cX10_behind 40 = .ok (.istore 6, 2) := by decide +kernel
theorem dX10_behind_42 : decode cX10_behind 42 = .ok (.iload 6, 2) := by decide +kernel
theorem dX10_behind_44 : decode cX10_behind 44 = .ok (.ifCond .eq 15, 3) := by decide +kernel
theorem dX10_behind_47 : decode cX10_behind 47 = .ok (.iload 6, 2) := by decide +kernel
theorem dX10_behind_49 : decode cX10_behind 49 = .ok (.iload_n 2, 1) := by decide +kernel
theorem dX10_behind_50 : decode cX10_behind 50 = .ok (.if_icmp .ge 11, 3) := by decide +kernel
theorem dX10_behind_53 : decode cX10_behind 53 = .ok (.iload 6, 2) := by decide +kernel
theorem dX10_behind_55 : decode cX10_behind 55 = .ok (.iload_n 3, 1) := by decide +kernel
theorem dX10_behind_56 : decode cX10_behind 56 = .ok (.if_icmp .eq 5, 3) := by decide +kernel
theorem dX10_behind_59 : decode cX10_behind 59 = .ok (.iconst (-1), 1) := by decide +kernel
theorem dX10_behind_60 : decode cX10_behind 60 = .ok (.ireturn, 1) := by decide +kernel
theorem dX10_behind_61 : decode cX10_behind 61 = .ok (.iload 6, 2) := by decide +kernel
theorem dX10_behind_63 : decode cX10_behind 63 = .ok (.iload_n 2, 1) := by decide +kernel
theorem dX10_behind_64 : decode cX10_behind 64 = .ok (.if_icmp .le 10, 3) := by decide +kernel
theorem dX10_behind_67 : decode cX10_behind 67 = .ok (.iload 6, 2) := by decide +kernel
theorem dX10_behind_69 : decode cX10_behind 69 = .ok (.iload_n 2, 1) := by decide +kernel
theorem dX10_behind_70 : decode cX10_behind 70 = .ok (.isub, 1) := by decide +kernel
theorem dX10_behind_71 : decode cX10_behind 71 = .ok (.goto 4, 3) := by decide +kernel
theorem dX10_behind_74 : decode cX10_behind 74 = .ok (.iconst 0, 1) := by decide +kernel
theorem dX10_behind_75 : decode cX10_behind 75 = .ok (.istore 7, 2) := by decide +kernel
theorem dX10_behind_77 : decode cX10_behind 77 = .ok (.iload_n 1, 1) := by decide +kernel
theorem dX10_behind_78 : decode cX10_behind 78 = .ok (.ifCond .ne 8, 3) := by decide +kernel
theorem dX10_behind_81 : decode cX10_behind 81 = .ok (.iload 7, 2) := by decide +kernel
theorem dX10_behind_83 : decode cX10_behind 83 = .ok (.goto 4, 3) := by decide +kernel
theorem dX10_behind_86 : decode cX10_behind 86 = .ok (.iload_n 3, 1) := by decide +kernel
theorem dX10_behind_87 : decode cX10_behind 87 = .ok (.iload_n 1, 1) := by decide +kernel
theorem dX10_behind_88 : decode cX10_behind 88 = .ok (.iconst 1, 1) := by decide +kernel
theorem dX10_behind_89 : decode cX10_behind 89 = .ok (.if_icmp .ne 8, 3) := by decide +kernel
theorem dX10_behind_92 : decode cX10_behind 92 = .ok (.iload 7, 2) := by decide +kernel
theorem dX10_behind_94 : decode cX10_behind 94 = .ok (.goto 5, 3) := by decide +kernel
theorem dX10_behind_97 : decode cX10_behind 97 = .ok (.iload 4, 2) := by decide +kernel
theorem dX10_behind_99 : decode cX10_behind 99 = .ok (.iload_n 1, 1) := by decide +kernel
theorem dX10_behind_100 : decode cX10_behind 100 = .ok (.iconst 2, 1) := by decide +kernel
theorem dX10_behind_101 : decode cX10_behind 101 = .ok (.if_icmp .ne 8, 3) := by decide +kernel
theorem dX10_behind_104 : decode cX10_behind 104 = .ok (.iload 7, 2) := by decide +kernel
theorem dX10_behind_106 : decode cX10_behind 106 = .ok (.goto 5, 3) := by decide +kernel
theorem dX10_behind_109 : decode cX10_behind 109 = .ok (.iload 5, 2) := by decide +kernel
theorem dX10_behind_111 : decode cX10_behind 111 = .ok (.invokestatic 288, 3) := by decide +kernel
theorem dX10_behind_114 : decode cX10_behind 114 = .ok (.ireturn, 1) := by decide +kernel
set_option maxRecDepth 20000 in
theorem ggX10_reach_X10_chance : GoodIn wsX10_reach wsX10_chance := goodIn_r _ [14, 15, 16, 17, 11, 12, 13, 4, 0, 1, 2, 3, 5, 6, 7, 8, 9, 10, 18, 19, 20, 21, 22, 23, 24, 25, 26, 27, 28, 29, 30, 31, 32, 33, 34, 35, 36, 37, 38, 39, 40, 41, 42, 43, 44, 45, 46, 47, 48, 49, 50, 51, 52, 53, 54, 55, 56, 57, 58, 59, 60, 61, 62, 63, 64, 65, 66, 67, 68, 69, 70, 71] (by decide +kernel) (by decide +kernel)
set_option maxRecDepth 20000 in
theorem gX10_reach_X10_chance : GoodIn wsX10_reach (wsV RX10 291 RX10 yX10_chance wsX10_chance) := goodIn_app (goodIn_of _ (by decide +kernel)) ggX10_reach_X10_chance
set_option maxRecDepth 20000 in
theorem ggX10_reach_X10_behind : GoodIn wsX10_reach wsX10_behind := goodIn_r _ [7, 8, 9, 4, 10] (by decide +kernel) (by decide +kernel)
set_option maxRecDepth 20000 in
theorem gX10_reach_X10_behind : GoodIn wsX10_reach (va_wsS RX10 295 yX10_behind wsX10_behind) := goodIn_app (goodIn_of _ (by decide +kernel)) ggX10_reach_X10_behind
set_option maxRecDepth 20000 in
theorem ggX10_reach_X10_reach : GoodIn wsX10_reach wsX10_reach := goodIn_r _ [0, 1, 2, 3, 4, 5, 6, 7, 8, 9, 10, 11, 12, 13, 14, 15, 16, 17, 18, 19, 20, 21, 22, 23, 24, 25, 26, 27, 28, 29, 30, 31, 32, 33, 34, 35, 36, 37, 38, 39, 40, 41, 42, 43, 44, 45, 46, 47, 48, 49, 50, 51, 52, 53, 54, 55, 56, 57, 58, 59, 60, 61, 62, 63, 64, 65, 66, 67, 68, 69, 70, 71] (by decide +kernel) (by decide +kernel)
set_option maxRecDepth 20000 in
theorem gX10_reach_X10_reach : GoodIn wsX10_reach (wsV RX10 298 RX10 yX10_reach wsX10_reach) := goodIn_app (goodIn_of _ (by decide +kernel)) ggX10_reach_X10_reach
theorem dX10_reach_0 : decode cX10_reach 0 = .ok (.iload_n 1, 1) := by decide +kernel
theorem dX10_reach_1 : decode cX10_reach 1 = .ok (.ifCond .ne 5, 3) := by decide +kernel
theorem dX10_reach_4 : decode cX10_reach 4 = .ok (.dconst 1, 1) := by decide +kernel
theorem dX10_reach_5 : decode cX10_reach 5 = .ok (.dreturn, 1) := by decide +kernel
theorem dX10_reach_6 : decode cX10_reach 6 = .ok (.iload 4, 2) := by decide +kernel
theorem dX10_reach_8 : decode cX10_reach 8 = .ok (.iload 6, 2) := by decide +kernel
theorem dX10_reach_10 : decode cX10_reach 10 = .ok (.iadd, 1) := by decide +kernel
theorem dX10_reach_11 : decode cX10_reach 11 = .ok (.ifCond .ne 12, 3) := by decide +kernel
theorem dX10_reach_14 : decode cX10_reach 14 = .ok (.dconst 1, 1) := by decide +kernel
theorem dX10_reach_15 : decode cX10_reach 15 = .ok (.aload_n 0, 1) := by decide +kernel
theorem dX10_reach_16 : decode cX10_reach 16 = .ok (.iload_n 2, 1) := by decide +kernel
theorem dX10_reach_17 : decode cX10_reach 17 = .ok (.iload_n 1, 1) := by decide +kernel
theorem dX10_reach_18 : decode cX10_reach 18 = .ok (.invokevirtual 291, 3) := by decide +kernel
theorem dX10_reach_21 : decode cX10_reach 21 = .ok (.dsub, 1) := by decide +kernel
theorem dX10_reach_22 : decode cX10_reach 22 = .ok (.dreturn, 1) := by decide +kernel
theorem dX10_reach_23 : decode cX10_reach 23 = .ok (.dconst 0, 1) := by decide +kernel
theorem dX10_reach_24 : decode cX10_reach 24 = .ok (.dstore 7, 2) := by decide +kernel
theorem dX10_reach_26 : decode cX10_reach 26 = .ok (.iconst 0, 1) := by decide +kernel
theorem dX10_reach_27 : decode cX10_reach 27 = .ok (.istore 9, 2) := by decide +kernel
theorem dX10_reach_29 : decode cX10_reach 29 = .ok (.iload 9, 2) := by decide +kernel
theorem dX10_reach_31 : decode cX10_reach 31 = .ok (.iconst 3, 1) := by decide +kernel
theorem dX10_reach_32 : decode cX10_reach 32 = .ok (.if_icmp .ge 134, 3) := by decide +kernel
theorem dX10_reach_35 : decode cX10_reach 35 = .ok (.iload 4, 2) := by decide +kernel
theorem dX10_reach_37 : decode cX10_reach 37 = .ok (.ifCond .le 13, 3) := by decide +kernel
theorem dX10_reach_40 : decode cX10_reach 40 = .ok (.iload_n 1, 1) := by decide +kernel
theorem dX10_reach_41 : decode cX10_reach 41 = .ok (.iload 9, 2) := by decide +kernel
theorem dX10_reach_43 : decode cX10_reach 43 = .ok (.iload_n 3, 1) := by decide +kernel
theorem dX10_reach_44 : decode cX10_reach 44 = .ok (.invokestatic 295, 3) := by decide +kernel
theorem dX10_reach_47 : decode cX10_reach 47 = .ok (.goto 4, 3) := by decide +kernel
theorem dX10_reach_50 : decode cX10_reach 50 = .ok (.iconst (-1), 1) := by decide +kernel
theorem dX10_reach_51 : decode cX10_reach 51 = .ok (.istore 10, 2) := by decide +kernel
theorem dX10_reach_53 : decode cX10_reach 53 = .ok (.iload 10, 2) := by decide +kernel
theorem dX10_reach_55 : decode cX10_reach 55 = .ok (.ifCond .ge 7, 3) := by decide +kernel
theorem dX10_reach_58 : decode cX10_reach 58 = .ok (.dconst 0, 1) := by decide +kernel
theorem dX10_reach_59 : decode cX10_reach 59 = .ok (.goto 19, 3) := by decide +kernel
theorem dX10_reach_62 : decode cX10_reach 62 = .ok (.aload_n 0, 1) := by decide +kernel
theorem dX10_reach_63 : decode cX10_reach 63 = .ok (.iload 10, 2) := by decide +kernel
theorem dX10_reach_65 : decode cX10_reach 65 = .ok (.iload_n 2, 1) := by decide +kernel
theorem dX10_reach_66 : decode cX10_reach 66 = .ok (.iload_n 3, 1) := by decide +kernel
theorem dX10_reach_67 : decode cX10_reach 67 = .ok (.iload 4, 2) := by decide +kernel
theorem dX10_reach_69 : decode cX10_reach 69 = .ok (.iconst 1, 1) := by decide +kernel
theorem dX10_reach_70 : decode cX10_reach 70 = .ok (.isub, 1) := by decide +kernel
theorem dX10_reach_71 : decode cX10_reach 71 = .ok (.iload 5, 2) := by decide +kernel
theorem dX10_reach_73 : decode cX10_reach 73 = .ok (.iload 6, 2) := by decide +kernel
theorem dX10_reach_75 : decode cX10_reach 75 = .ok (.invokevirtual 298, 3) := by decide +kernel
theorem dX10_reach_78 : decode cX10_reach 78 = .ok (.dstore 11, 2) := by decide +kernel
theorem dX10_reach_80 : decode cX10_reach 80 = .ok (.dload 11, 2) := by decide +kernel
theorem dX10_reach_82 : decode cX10_reach 82 = .ok (.dload 7, 2) := by decide +kernel
theorem dX10_reach_84 : decode cX10_reach 84 = .ok (.dcmp .l, 1) := by decide +kernel
theorem dX10_reach_85 : decode cX10_reach 85 = .ok (.ifCond .le 8, 3) := by decide +kernel
theorem dX10_reach_88 : decode cX10_reach 88 = .ok (.dload 11, 2) := by decide +kernel
theorem dX10_reach_90 : decode cX10_reach 90 = .ok (.goto 5, 3) := by decide +kernel
theorem dX10_reach_93 : decode cX10_reach 93 = .ok (.dload 7, 2) := by decide +kernel
theorem dX10_reach_95 : decode cX10_reach 95 = .ok (.dstore 7, 2) := by decide +kernel
theorem dX10_reach_97 : decode cX10_reach 97 = .ok (.iload 6, 2) := by decide +kernel
theorem dX10_reach_99 : decode cX10_reach 99 = .ok (.ifCond .le 14, 3) := by decide +kernel
theorem dX10_reach_102 : decode cX10_reach 102 = .ok (.iload_n 1, 1) := by decide +kernel
theorem dX10_reach_103 : decode cX10_reach 103 = .ok (.iload 9, 2) := by decide +kernel
theorem dX10_reach_105 : decode cX10_reach 105 = .ok (.iload 5, 2) := by decide +kernel
theorem dX10_reach_107 : decode cX10_reach 107 = .ok (.invokestatic 295, 3) := by decide +kernel
theorem dX10_reach_110 : decode cX10_reach 110 = .ok (.goto 4, 3) := by decide +kernel
theorem dX10_reach_113 : decode cX10_reach 113 = .ok (.iconst (-1), 1) := by decide +kernel
theorem dX10_reach_114 : decode cX10_reach 114 = .ok (.istore 10, 2) := by decide +kernel
theorem dX10_reach_116 : decode cX10_reach 116 = .ok (.iload 10, 2) := by decide +kernel
theorem dX10_reach_118 : decode cX10_reach 118 = .ok (.ifCond .ge 7, 3) := by decide +kernel
theorem dX10_reach_121 : decode cX10_reach 121 = .ok (.dconst 0, 1) := by decide +kernel
theorem dX10_reach_122 : decode cX10_reach 122 = .ok (.goto 19, 3) := by decide +kernel
theorem dX10_reach_125 : decode cX10_reach 125 = .ok (.aload_n 0, 1) := by decide +kernel
theorem dX10_reach_126 : decode cX10_reach 126 = .ok (.iload 10, 2) := by decide +kernel
theorem dX10_reach_128 : decode cX10_reach 128 = .ok (.iload_n 2, 1) := by decide +kernel
theorem dX10_reach_129 : decode cX10_reach 129 = .ok (.iload_n 3, 1) := by decide +kernel
theorem dX10_reach_130 : decode cX10_reach 130 = .ok (.iload 4, 2) := by decide +kernel
theorem dX10_reach_132 : decode cX10_reach 132 = .ok (.iload 5, 2) := by decide +kernel
theorem dX10_reach_134 : decode cX10_reach 134 = .ok (.iload 6, 2) := by decide +kernel
theorem dX10_reach_136 : decode cX10_reach 136 = .ok (.iconst 1, 1) := by decide +kernel
theorem dX10_reach_137 : decode cX10_reach 137 = .ok (.isub, 1) := by decide +kernel
theorem dX10_reach_138 : decode cX10_reach 138 = .ok (.invokevirtual 298, 3) := by decide +kernel
theorem dX10_reach_141 : decode cX10_reach 141 = .ok (.dstore 11, 2) := by decide +kernel
theorem dX10_reach_143 : decode cX10_reach 143 = .ok (.dload 11, 2) := by decide +kernel
theorem dX10_reach_145 : decode cX10_reach 145 = .ok (.dload 7, 2) := by decide +kernel
theorem dX10_reach_147 : decode cX10_reach 147 = .ok (.dcmp .l, 1) := by decide +kernel
theorem dX10_reach_148 : decode cX10_reach 148 = .ok (.ifCond .le 8, 3) := by decide +kernel
theorem dX10_reach_151 : decode cX10_reach 151 = .ok (.dload 11, 2) := by decide +kernel
theorem dX10_reach_153 : decode cX10_reach 153 = .ok (.goto 5, 3) := by decide +kernel
theorem dX10_reach_156 : decode cX10_reach 156 = .ok (.dload 7, 2) := by decide +kernel
theorem dX10_reach_158 : decode cX10_reach 158 = .ok (.dstore 7, 2) := by decide +kernel
theorem dX10_reach_160 : decode cX10_reach 160 = .ok (.iinc 9 1, 3) := by decide +kernel
theorem dX10_reach_163 : decode cX10_reach 163 = .ok (.goto (-134), 3) := by decide +kernel
theorem dX10_reach_166 : decode cX10_reach 166 = .ok (.dload 7, 2) := by decide +kernel
theorem dX10_reach_168 : decode cX10_reach 168 = .ok (.dreturn, 1) := by decide +kernel
set_option maxRecDepth 20000 in
theorem ggX10_chance_X10_reach : GoodIn wsX10_chance wsX10_reach := goodIn_r _ [8, 9, 10, 11, 7, 12, 13, 14, 15, 16, 17, 4, 5, 6, 0, 1, 2, 3, 18, 19, 20, 21, 22, 23, 24, 25, 26, 27, 28, 29, 30, 31, 32, 33, 34, 35, 36, 37, 38, 39, 40, 41, 42, 43, 44, 45, 46, 47, 48, 49, 50, 51, 52, 53, 54, 55, 56, 57, 58, 59, 60, 61, 62, 63, 64, 65, 66, 67, 68, 69, 70, 71] (by decide +kernel) (by decide +kernel)
set_option maxRecDepth 20000 in
theorem gX10_chance_X10_reach : GoodIn wsX10_chance (wsV RX10 298 RX10 yX10_reach wsX10_reach) := goodIn_app (goodIn_of _ (by decide +kernel)) ggX10_chance_X10_reach
theorem dX10_chance_0 : decode cX10_chance 0 = .ok (.sipush 343, 3) := by decide +kernel
theorem dX10_chance_3 : decode cX10_chance 3 = .ok (.iload_n 1, 1) := by decide +kernel
theorem dX10_chance_4 : decode cX10_chance 4 = .ok (.imul, 1) := by decide +kernel
theorem dX10_chance_5 : decode cX10_chance 5 = .ok (.iload_n 2, 1) := by decide +kernel
theorem dX10_chance_6 : decode cX10_chance 6 = .ok (.iadd, 1) := by decide +kernel
theorem dX10_chance_7 : decode cX10_chance 7 = .ok (.istore_n 3, 1) := by decide +kernel
theorem dX10_chance_8 : decode cX10_chance 8 = .ok (.aload_n 0, 1) := by decide +kernel
theorem dX10_chance_9 : decode cX10_chance 9 = .ok (.getfield 62, 3) := by decide +kernel
theorem dX10_chance_12 : decode cX10_chance 12 = .ok (.iload_n 3, 1) := by decide +kernel
theorem dX10_chance_13 : decode cX10_chance 13 = .ok (.daload, 1) := by decide +kernel
theorem dX10_chance_14 : decode cX10_chance 14 = .ok (.dconst 0, 1) := by decide +kernel
theorem dX10_chance_15 : decode cX10_chance 15 = .ok (.dcmp .l, 1) := by decide +kernel
theorem dX10_chance_16 : decode cX10_chance 16 = .ok (.ifCond .ne 109, 3) := by decide +kernel
theorem dX10_chance_19 : decode cX10_chance 19 = .ok (.dconst 0, 1) := by decide +kernel
theorem dX10_chance_20 : decode cX10_chance 20 = .ok (.dstore 4, 2) := by decide +kernel
theorem dX10_chance_22 : decode cX10_chance 22 = .ok (.iconst 1, 1) := by decide +kernel
theorem dX10_chance_23 : decode cX10_chance 23 = .ok (.istore 6, 2) := by decide +kernel
theorem dX10_chance_25 : decode cX10_chance 25 = .ok (.iload 6, 2) := by decide +kernel
theorem dX10_chance_27 : decode cX10_chance 27 = .ok (.bipush 6, 2) := by decide +kernel
theorem dX10_chance_29 : decode cX10_chance 29 = .ok (.if_icmp .gt 84, 3) := by decide +kernel
theorem dX10_chance_32 : decode cX10_chance 32 = .ok (.iload 6, 2) := by decide +kernel
theorem dX10_chance_34 : decode cX10_chance 34 = .ok (.istore 7, 2) := by decide +kernel
theorem dX10_chance_36 : decode cX10_chance 36 = .ok (.iload 7, 2) := by decide +kernel
theorem dX10_chance_38 : decode cX10_chance 38 = .ok (.bipush 6, 2) := by decide +kernel
theorem dX10_chance_40 : decode cX10_chance 40 = .ok (.if_icmp .gt 67, 3) := by decide +kernel
theorem dX10_chance_43 : decode cX10_chance 43 = .ok (.iload 6, 2) := by decide +kernel
theorem dX10_chance_45 : decode cX10_chance 45 = .ok (.iload 7, 2) := by decide +kernel
theorem dX10_chance_47 : decode cX10_chance 47 = .ok (.if_icmp .ne 18, 3) := by decide +kernel
theorem dX10_chance_50 : decode cX10_chance 50 = .ok (.aload_n 0, 1) := by decide +kernel
theorem dX10_chance_51 : decode cX10_chance 51 = .ok (.iload_n 1, 1) := by decide +kernel
theorem dX10_chance_52 : decode cX10_chance 52 = .ok (.iload_n 2, 1) := by decide +kernel
theorem dX10_chance_53 : decode cX10_chance 53 = .ok (.iload 6, 2) := by decide +kernel
theorem dX10_chance_55 : decode cX10_chance 55 = .ok (.iconst 4, 1) := by decide +kernel
theorem dX10_chance_56 : decode cX10_chance 56 = .ok (.iload 6, 2) := by decide +kernel
theorem dX10_chance_58 : decode cX10_chance 58 = .ok (.iconst 0, 1) := by decide +kernel
theorem dX10_chance_59 : decode cX10_chance 59 = .ok (.invokevirtual 298, 3) := by decide +kernel
theorem dX10_chance_62 : decode cX10_chance 62 = .ok (.goto 15, 3) := by decide +kernel
theorem dX10_chance_65 : decode cX10_chance 65 = .ok (.aload_n 0, 1) := by decide +kernel
theorem dX10_chance_66 : decode cX10_chance 66 = .ok (.iload_n 1, 1) := by decide +kernel
theorem dX10_chance_67 : decode cX10_chance 67 = .ok (.iload_n 2, 1) := by decide +kernel
theorem dX10_chance_68 : decode cX10_chance 68 = .ok (.iload 6, 2) := by decide +kernel
theorem dX10_chance_70 : decode cX10_chance 70 = .ok (.iconst 1, 1) := by decide +kernel
theorem dX10_chance_71 : decode cX10_chance 71 = .ok (.iload 7, 2) := by decide +kernel
theorem dX10_chance_73 : decode cX10_chance 73 = .ok (.iconst 1, 1) := by decide +kernel
theorem dX10_chance_74 : decode cX10_chance 74 = .ok (.invokevirtual 298, 3) := by decide +kernel
theorem dX10_chance_77 : decode cX10_chance 77 = .ok (.dstore 8, 2) := by decide +kernel
theorem dX10_chance_79 : decode cX10_chance 79 = .ok (.dload 4, 2) := by decide +kernel
theorem dX10_chance_81 : decode cX10_chance 81 = .ok (.dload 8, 2) := by decide +kernel
theorem dX10_chance_83 : decode cX10_chance 83 = .ok (.iload 6, 2) := by decide +kernel
theorem dX10_chance_85 : decode cX10_chance 85 = .ok (.iload 7, 2) := by decide +kernel
theorem dX10_chance_87 : decode cX10_chance 87 = .ok (.if_icmp .ne 7, 3) := by decide +kernel
theorem dX10_chance_90 : decode cX10_chance 90 = .ok (.dconst 1, 1) := by decide +kernel
theorem dX10_chance_91 : decode cX10_chance 91 = .ok (.goto 6, 3) := by decide +kernel
theorem dX10_chance_94 : decode cX10_chance 94 = .ok (.ldc2_w 302, 3) := by decide +kernel
theorem dX10_chance_97 : decode cX10_chance 97 = .ok (.dmul, 1) := by decide +kernel
theorem dX10_chance_98 : decode cX10_chance 98 = .ok (.dadd, 1) := by decide +kernel
theorem dX10_chance_99 : decode cX10_chance 99 = .ok (.dstore 4, 2) := by decide +kernel
theorem dX10_chance_101 : decode cX10_chance 101 = .ok (.iinc 7 1, 3) := by decide +kernel
theorem dX10_chance_104 : decode cX10_chance 104 = .ok (.goto (-68), 3) := by decide +kernel
theorem dX10_chance_107 : decode cX10_chance 107 = .ok (.iinc 6 1, 3) := by decide +kernel
theorem dX10_chance_110 : decode cX10_chance 110 = .ok (.goto (-85), 3) := by decide +kernel
theorem dX10_chance_113 : decode cX10_chance 113 = .ok (.aload_n 0, 1) := by decide +kernel
theorem dX10_chance_114 : decode cX10_chance 114 = .ok (.getfield 62, 3) := by decide +kernel
theorem dX10_chance_117 : decode cX10_chance 117 = .ok (.iload_n 3, 1) := by decide +kernel
theorem dX10_chance_118 : decode cX10_chance 118 = .ok (.dload 4, 2) := by decide +kernel
theorem dX10_chance_120 : decode cX10_chance 120 = .ok (.ldc2_w 304, 3) := by decide +kernel
theorem dX10_chance_123 : decode cX10_chance 123 = .ok (.ddiv, 1) := by decide +kernel
theorem dX10_chance_124 : decode cX10_chance 124 = .ok (.dastore, 1) := by decide +kernel
theorem dX10_chance_125 : decode cX10_chance 125 = .ok (.aload_n 0, 1) := by decide +kernel
theorem dX10_chance_126 : decode cX10_chance 126 = .ok (.getfield 62, 3) := by decide +kernel
theorem dX10_chance_129 : decode cX10_chance 129 = .ok (.iload_n 3, 1) := by decide +kernel
theorem dX10_chance_130 : decode cX10_chance 130 = .ok (.daload, 1) := by decide +kernel
theorem dX10_chance_131 : decode cX10_chance 131 = .ok (.dreturn, 1) := by decide +kernel
set_option maxRecDepth 20000 in
theorem ggX10_ending_X10_on : GoodIn wsX10_ending wsX10_on := goodIn_r _ [5] (by decide +kernel) (by decide +kernel)
set_option maxRecDepth 20000 in
theorem gX10_ending_X10_on : GoodIn wsX10_ending (va_wsS RX10 95 yX10_on wsX10_on) := goodIn_app (goodIn_of _ (by decide +kernel)) ggX10_ending_X10_on
theorem dX10_ending_0 : decode cX10_ending 0 = .ok (.iconst 0, 1) := by decide +kernel
theorem dX10_ending_1 : decode cX10_ending 1 = .ok (.istore_n 2, 1) := by decide +kernel
theorem dX10_ending_2 : decode cX10_ending 2 = .ok (.iconst 0, 1) := by decide +kernel
theorem dX10_ending_3 : decode cX10_ending 3 = .ok (.istore_n 3, 1) := by decide +kernel
theorem dX10_ending_4 : decode cX10_ending 4 = .ok (.bipush 6, 2) := by decide +kernel
theorem dX10_ending_6 : decode cX10_ending 6 = .ok (.istore 4, 2) := by decide +kernel
theorem dX10_ending_8 : decode cX10_ending 8 = .ok (.iload 4, 2) := by decide +kernel
theorem dX10_ending_10 : decode cX10_ending 10 = .ok (.ifCond .le 45, 3) := by decide +kernel
theorem dX10_ending_13 : decode cX10_ending 13 = .ok (.iconst 0, 1) := by decide +kernel
theorem dX10_ending_14 : decode cX10_ending 14 = .ok (.istore 5, 2) := by decide +kernel
theorem dX10_ending_16 : decode cX10_ending 16 = .ok (.iload 5, 2) := by decide +kernel
theorem dX10_ending_18 : decode cX10_ending 18 = .ok (.aload_n 0, 1) := by decide +kernel
theorem dX10_ending_19 : decode cX10_ending 19 = .ok (.getfield 17, 3) := by decide +kernel
theorem dX10_ending_22 : decode cX10_ending 22 = .ok (.iconst 0, 1) := by decide +kernel
theorem dX10_ending_23 : decode cX10_ending 23 = .ok (.iload_n 1, 1) := by decide +kernel
theorem dX10_ending_24 : decode cX10_ending 24 = .ok (.iload 4, 2) := by decide +kernel
theorem dX10_ending_26 : decode cX10_ending 26 = .ok (.invokestatic 95, 3) := by decide +kernel
theorem dX10_ending_29 : decode cX10_ending 29 = .ok (.if_icmp .ge 20, 3) := by decide +kernel
theorem dX10_ending_32 : decode cX10_ending 32 = .ok (.bipush 7, 2) := by decide +kernel
theorem dX10_ending_34 : decode cX10_ending 34 = .ok (.iload_n 2, 1) := by decide +kernel
theorem dX10_ending_35 : decode cX10_ending 35 = .ok (.imul, 1) := by decide +kernel
theorem dX10_ending_36 : decode cX10_ending 36 = .ok (.iload 4, 2) := by decide +kernel
theorem dX10_ending_38 : decode cX10_ending 38 = .ok (.iadd, 1) := by decide +kernel
theorem dX10_ending_39 : decode cX10_ending 39 = .ok (.istore_n 2, 1) := by decide +kernel
theorem dX10_ending_40 : decode cX10_ending 40 = .ok (.iinc 3 1, 3) := by decide +kernel
theorem dX10_ending_43 : decode cX10_ending 43 = .ok (.iinc 5 1, 3) := by decide +kernel
theorem dX10_ending_46 : decode cX10_ending 46 = .ok (.goto (-30), 3) := by decide +kernel
theorem dX10_ending_49 : decode cX10_ending 49 = .ok (.iinc 4 (-1), 3) := by decide +kernel
theorem dX10_ending_52 : decode cX10_ending 52 = .ok (.goto (-44), 3) := by decide +kernel
theorem dX10_ending_55 : decode cX10_ending 55 = .ok (.iload_n 3, 1) := by decide +kernel
theorem dX10_ending_56 : decode cX10_ending 56 = .ok (.iconst 1, 1) := by decide +kernel
theorem dX10_ending_57 : decode cX10_ending 57 = .ok (.if_icmp .ne 10, 3) := by decide +kernel
theorem dX10_ending_60 : decode cX10_ending 60 = .ok (.bipush 49, 2) := by decide +kernel
theorem dX10_ending_62 : decode cX10_ending 62 = .ok (.iload_n 2, 1) := by decide +kernel
theorem dX10_ending_63 : decode cX10_ending 63 = .ok (.imul, 1) := by decide +kernel
theorem dX10_ending_64 : decode cX10_ending 64 = .ok (.goto 16, 3) := by decide +kernel
theorem dX10_ending_67 : decode cX10_ending 67 = .ok (.iload_n 3, 1) := by decide +kernel
theorem dX10_ending_68 : decode cX10_ending 68 = .ok (.iconst 2, 1) := by decide +kernel
theorem dX10_ending_69 : decode cX10_ending 69 = .ok (.if_icmp .ne 10, 3) := by decide +kernel
theorem dX10_ending_72 : decode cX10_ending 72 = .ok (.bipush 7, 2) := by decide +kernel
theorem dX10_ending_74 : decode cX10_ending 74 = .ok (.iload_n 2, 1) := by decide +kernel
theorem dX10_ending_75 : decode cX10_ending 75 = .ok (.imul, 1) := by decide +kernel
theorem dX10_ending_76 : decode cX10_ending 76 = .ok (.goto 4, 3) := by decide +kernel
theorem dX10_ending_79 : decode cX10_ending 79 = .ok (.iload_n 2, 1) := by decide +kernel
theorem dX10_ending_80 : decode cX10_ending 80 = .ok (.ireturn, 1) := by decide +kernel
set_option maxRecDepth 20000 in
theorem ggX10_chance__X10_fails : GoodIn wsX10_chance_ wsX10_fails := goodIn_r _ [7, 8, 41, 42, 43, 44, 45, 46, 47, 48, 49, 50, 51, 52, 53, 54, 55, 56, 57, 58, 59, 60, 61, 62, 63, 64, 65, 66, 67, 68, 69, 70, 71, 72, 73, 74, 75, 76, 77, 78, 79, 80, 81, 82, 83, 84, 85, 86, 87, 88, 89, 90, 91, 92, 93, 94] (by decide +kernel) (by decide +kernel)
set_option maxRecDepth 20000 in
theorem gX10_chance__X10_fails : GoodIn wsX10_chance_ (wsV RX10 178 RX10 yX10_fails wsX10_fails) := goodIn_app (goodIn_of _ (by decide +kernel)) ggX10_chance__X10_fails
set_option maxRecDepth 20000 in
theorem ggX10_chance__X10_countMen : GoodIn wsX10_chance_ wsX10_countMen := goodIn_r _ [12, 13, 14, 15, 6, 16, 41, 42, 43, 44, 45, 46, 47, 48, 49, 50, 51, 52, 53, 54, 55, 56, 57, 58, 59, 60, 61, 62, 63, 64, 65, 66, 67, 68, 69, 70, 71, 72, 73, 74, 75, 76, 77, 78, 79, 80, 81, 82, 83, 84, 85, 86, 87, 88, 89, 90, 91, 92, 93, 94] (by decide +kernel) (by decide +kernel)
set_option maxRecDepth 20000 in
theorem gX10_chance__X10_countMen : GoodIn wsX10_chance_ (wsV RX10 271 RX10 yX10_countMen wsX10_countMen) := goodIn_app (goodIn_of _ (by decide +kernel)) ggX10_chance__X10_countMen
set_option maxRecDepth 20000 in
theorem ggX10_chance__X10_in : GoodIn wsX10_chance_ wsX10_in := goodIn_r _ [19] (by decide +kernel) (by decide +kernel)
set_option maxRecDepth 20000 in
theorem gX10_chance__X10_in : GoodIn wsX10_chance_ (va_wsS RX10 91 yX10_in wsX10_in) := goodIn_app (goodIn_of _ (by decide +kernel)) ggX10_chance__X10_in
set_option maxRecDepth 20000 in
theorem ggX10_chance__X10_ending : GoodIn wsX10_chance_ wsX10_ending := goodIn_r _ [23, 13, 14, 15, 6, 16, 41, 42, 43, 44, 45, 46, 47, 48, 49, 50, 51, 52, 53, 54, 55, 56, 57, 58, 59, 60, 61, 62, 63, 64, 65, 66, 67, 68, 69, 70, 71, 72, 73, 74, 75, 76, 77, 78, 79, 80, 81, 82, 83, 84, 85, 86, 87, 88, 89, 90, 91, 92, 93, 94] (by decide +kernel) (by decide +kernel)
set_option maxRecDepth 20000 in
theorem gX10_chance__X10_ending : GoodIn wsX10_chance_ (wsV RX10 306 RX10 yX10_ending wsX10_ending) := goodIn_app (goodIn_of _ (by decide +kernel)) ggX10_chance__X10_ending
set_option maxRecDepth 20000 in
theorem ggX10_chance__X10_chance : GoodIn wsX10_chance_ wsX10_chance := goodIn_r _ [27, 28, 29, 30, 31, 32, 33, 6, 34, 24, 25, 26, 35, 36, 37, 38, 39, 40, 41, 42, 43, 44, 45, 46, 47, 48, 49, 50, 51, 52, 53, 54, 55, 56, 57, 58, 59, 60, 61, 62, 63, 64, 65, 66, 67, 68, 69, 70, 71, 72, 73, 74, 75, 76, 77, 78, 79, 80, 81, 82, 83, 84, 85, 86, 87, 88, 89, 90, 91, 92, 93, 94] (by decide +kernel) (by decide +kernel)
set_option maxRecDepth 20000 in
theorem gX10_chance__X10_chance : GoodIn wsX10_chance_ (wsV RX10 291 RX10 yX10_chance wsX10_chance) := goodIn_app (goodIn_of _ (by decide +kernel)) ggX10_chance__X10_chance
theorem dX10_chance__0 : decode cX10_chance_ 0 = .ok (.aload_n 0, 1) := by decide +kernel
theorem dX10_chance__1 : decode cX10_chance_ 1 = .ok (.aload_n 0, 1) := by decide +kernel
theorem dX10_chance__2 : decode cX10_chance_ 2 = .ok (.getfield 13, 3) := by decide +kernel
theorem dX10_chance__5 : decode cX10_chance_ 5 = .ok (.bipush 100, 2) := by decide +kernel
theorem dX10_chance__7 : decode cX10_chance_ 7 = .ok (.if_icmp .eq 7, 3) := by decide +kernel
theorem dX10_chance__10 : decode cX10_chance_ 10 = .ok (.iconst 1, 1) := by decide +kernel
theorem dX10_chance__11 : decode cX10_chance_ 11 = .ok (.goto 4, 3) := by decide +kernel
theorem dX10_chance__14 : decode cX10_chance_ 14 = .ok (.iconst 0, 1) := by decide +kernel
theorem dX10_chance__15 : decode cX10_chance_ 15 = .ok (.invokevirtual 178, 3) := by decide +kernel
theorem dX10_chance__18 : decode cX10_chance_ 18 = .ok (.ifCond .eq 5, 3) := by decide +kernel
theorem dX10_chance__21 : decode cX10_chance_ 21 = .ok (.dconst 0, 1) := by decide +kernel
theorem dX10_chance__22 : decode cX10_chance_ 22 = .ok (.dreturn, 1) := by decide +kernel
theorem dX10_chance__23 : decode cX10_chance_ 23 = .ok (.iconst 1, 1) := by decide +kernel
theorem dX10_chance__24 : decode cX10_chance_ 24 = .ok (.istore_n 1, 1) := by decide +kernel
theorem dX10_chance__25 : decode cX10_chance_ 25 = .ok (.iconst 0, 1) := by decide +kernel
theorem dX10_chance__26 : decode cX10_chance_ 26 = .ok (.istore_n 2, 1) := by decide +kernel
theorem dX10_chance__27 : decode cX10_chance_ 27 = .ok (.iload_n 2, 1) := by decide +kernel
theorem dX10_chance__28 : decode cX10_chance_ 28 = .ok (.iconst 2, 1) := by decide +kernel
theorem dX10_chance__29 : decode cX10_chance_ 29 = .ok (.if_icmp .ge 47, 3) := by decide +kernel
theorem dX10_chance__32 : decode cX10_chance_ 32 = .ok (.iload_n 1, 1) := by decide +kernel
theorem dX10_chance__33 : decode cX10_chance_ 33 = .ok (.ifCond .eq 35, 3) := by decide +kernel
theorem dX10_chance__36 : decode cX10_chance_ 36 = .ok (.aload_n 0, 1) := by decide +kernel
theorem dX10_chance__37 : decode cX10_chance_ 37 = .ok (.iload_n 2, 1) := by decide +kernel
theorem dX10_chance__38 : decode cX10_chance_ 38 = .ok (.bipush 7, 2) := by decide +kernel
theorem dX10_chance__40 : decode cX10_chance_ 40 = .ok (.bipush 25, 2) := by decide +kernel
theorem dX10_chance__42 : decode cX10_chance_ 42 = .ok (.invokevirtual 271, 3) := by decide +kernel
theorem dX10_chance__45 : decode cX10_chance_ 45 = .ok (.ifCond .ne 23, 3) := by decide +kernel
theorem dX10_chance__48 : decode cX10_chance_ 48 = .ok (.aload_n 0, 1) := by decide +kernel
theorem dX10_chance__49 : decode cX10_chance_ 49 = .ok (.iload_n 2, 1) := by decide +kernel
theorem dX10_chance__50 : decode cX10_chance_ 50 = .ok (.iconst 1, 1) := by decide +kernel
theorem dX10_chance__51 : decode cX10_chance_ 51 = .ok (.bipush 6, 2) := by decide +kernel
theorem dX10_chance__53 : decode cX10_chance_ 53 = .ok (.invokevirtual 271, 3) := by decide +kernel
theorem dX10_chance__56 : decode cX10_chance_ 56 = .ok (.iconst 1, 1) := by decide +kernel
theorem dX10_chance__57 : decode cX10_chance_ 57 = .ok (.iconst 2, 1) := by decide +kernel
theorem dX10_chance__58 : decode cX10_chance_ 58 = .ok (.invokestatic 91, 3) := by decide +kernel
theorem dX10_chance__61 : decode cX10_chance_ 61 = .ok (.ifCond .eq 7, 3) := by decide +kernel
theorem dX10_chance__64 : decode cX10_chance_ 64 = .ok (.iconst 1, 1) := by decide +kernel
theorem dX10_chance__65 : decode cX10_chance_ 65 = .ok (.goto 4, 3) := by decide +kernel
theorem dX10_chance__68 : decode cX10_chance_ 68 = .ok (.iconst 0, 1) := by decide +kernel
theorem dX10_chance__69 : decode cX10_chance_ 69 = .ok (.istore_n 1, 1) := by decide +kernel
theorem dX10_chance__70 : decode cX10_chance_ 70 = .ok (.iinc 2 1, 3) := by decide +kernel
theorem dX10_chance__73 : decode cX10_chance_ 73 = .ok (.goto (-46), 3) := by decide +kernel
theorem dX10_chance__76 : decode cX10_chance_ 76 = .ok (.aload_n 0, 1) := by decide +kernel
theorem dX10_chance__77 : decode cX10_chance_ 77 = .ok (.iload_n 1, 1) := by decide +kernel
theorem dX10_chance__78 : decode cX10_chance_ 78 = .ok (.ifCond .eq 7, 3) := by decide +kernel
theorem dX10_chance__81 : decode cX10_chance_ 81 = .ok (.iconst 0, 1) := by decide +kernel
theorem dX10_chance__82 : decode cX10_chance_ 82 = .ok (.goto 4, 3) := by decide +kernel
theorem dX10_chance__85 : decode cX10_chance_ 85 = .ok (.iconst 2, 1) := by decide +kernel
theorem dX10_chance__86 : decode cX10_chance_ 86 = .ok (.invokevirtual 178, 3) := by decide +kernel
theorem dX10_chance__89 : decode cX10_chance_ 89 = .ok (.ifCond .eq 7, 3) := by decide +kernel
theorem dX10_chance__92 : decode cX10_chance_ 92 = .ok (.dconst 0, 1) := by decide +kernel
theorem dX10_chance__93 : decode cX10_chance_ 93 = .ok (.goto 25, 3) := by decide +kernel
theorem dX10_chance__96 : decode cX10_chance_ 96 = .ok (.aload_n 0, 1) := by decide +kernel
theorem dX10_chance__97 : decode cX10_chance_ 97 = .ok (.aload_n 0, 1) := by decide +kernel
theorem dX10_chance__98 : decode cX10_chance_ 98 = .ok (.aload_n 0, 1) := by decide +kernel
theorem dX10_chance__99 : decode cX10_chance_ 99 = .ok (.getfield 168, 3) := by decide +kernel
theorem dX10_chance__102 : decode cX10_chance_ 102 = .ok (.invokevirtual 306, 3) := by decide +kernel
theorem dX10_chance__105 : decode cX10_chance_ 105 = .ok (.aload_n 0, 1) := by decide +kernel
theorem dX10_chance__106 : decode cX10_chance_ 106 = .ok (.iconst 1, 1) := by decide +kernel
theorem dX10_chance__107 : decode cX10_chance_ 107 = .ok (.aload_n 0, 1) := by decide +kernel
theorem dX10_chance__108 : decode cX10_chance_ 108 = .ok (.getfield 168, 3) := by decide +kernel
theorem dX10_chance__111 : decode cX10_chance_ 111 = .ok (.isub, 1) := by decide +kernel
theorem dX10_chance__112 : decode cX10_chance_ 112 = .ok (.invokevirtual 306, 3) := by decide +kernel
theorem dX10_chance__115 : decode cX10_chance_ 115 = .ok (.invokevirtual 291, 3) := by decide +kernel
theorem dX10_chance__118 : decode cX10_chance_ 118 = .ok (.dreturn, 1) := by decide +kernel
set_option maxRecDepth 20000 in
theorem ggX10_setRate_X10_in : GoodIn wsX10_setRate wsX10_in := goodIn_r _ [5] (by decide +kernel) (by decide +kernel)
set_option maxRecDepth 20000 in
theorem gX10_setRate_X10_in : GoodIn wsX10_setRate (va_wsS RX10 91 yX10_in wsX10_in) := goodIn_app (goodIn_of _ (by decide +kernel)) ggX10_setRate_X10_in
set_option maxRecDepth 20000 in
theorem ggX10_setRate_X10_fails : GoodIn wsX10_setRate wsX10_fails := goodIn_r _ [9, 10, 11, 12, 13, 14, 15, 16, 17, 18, 19, 20, 21, 22, 23, 24, 25, 26, 27, 28, 29, 30, 31, 32, 33, 34, 35, 36, 37, 38, 39, 40, 41, 42, 43, 44, 45, 46, 47, 48, 49, 50, 51, 52, 53, 54, 55, 56, 57, 58, 59, 60, 61, 62, 63, 64] (by decide +kernel) (by decide +kernel)
set_option maxRecDepth 20000 in
theorem gX10_setRate_X10_fails : GoodIn wsX10_setRate (wsV RX10 178 RX10 yX10_fails wsX10_fails) := goodIn_app (goodIn_of _ (by decide +kernel)) ggX10_setRate_X10_fails
theorem dX10_setRate_0 : decode cX10_setRate 0 = .ok (.aload_n 0, 1) := by decide +kernel
theorem dX10_setRate_1 : decode cX10_setRate 1 = .ok (.iload_n 1, 1) := by decide +kernel
theorem dX10_setRate_2 : decode cX10_setRate 2 = .ok (.iconst 0, 1) := by decide +kernel
theorem dX10_setRate_3 : decode cX10_setRate 3 = .ok (.bipush 100, 2) := by decide +kernel
theorem dX10_setRate_5 : decode cX10_setRate 5 = .ok (.invokestatic 91, 3) := by decide +kernel
theorem dX10_setRate_8 : decode cX10_setRate 8 = .ok (.ifCond .eq 7, 3) := by decide +kernel
theorem dX10_setRate_11 : decode cX10_setRate 11 = .ok (.iconst 0, 1) := by decide +kernel
theorem dX10_setRate_12 : decode cX10_setRate 12 = .ok (.goto 4, 3) := by decide +kernel
theorem dX10_setRate_15 : decode cX10_setRate 15 = .ok (.iconst 1, 1) := by decide +kernel
theorem dX10_setRate_16 : decode cX10_setRate 16 = .ok (.invokevirtual 178, 3) := by decide +kernel
theorem dX10_setRate_19 : decode cX10_setRate 19 = .ok (.ifCond .eq 5, 3) := by decide +kernel
theorem dX10_setRate_22 : decode cX10_setRate 22 = .ok (.iconst 0, 1) := by decide +kernel
theorem dX10_setRate_23 : decode cX10_setRate 23 = .ok (.ireturn, 1) := by decide +kernel
theorem dX10_setRate_24 : decode cX10_setRate 24 = .ok (.aload_n 0, 1) := by decide +kernel
theorem dX10_setRate_25 : decode cX10_setRate 25 = .ok (.getfield 66, 3) := by decide +kernel
theorem dX10_setRate_28 : decode cX10_setRate 28 = .ok (.istore_n 2, 1) := by decide +kernel
theorem dX10_setRate_29 : decode cX10_setRate 29 = .ok (.aload_n 0, 1) := by decide +kernel
theorem dX10_setRate_30 : decode cX10_setRate 30 = .ok (.iload_n 1, 1) := by decide +kernel
theorem dX10_setRate_31 : decode cX10_setRate 31 = .ok (.putfield 66, 3) := by decide +kernel
theorem dX10_setRate_34 : decode cX10_setRate 34 = .ok (.iload_n 2, 1) := by decide +kernel
theorem dX10_setRate_35 : decode cX10_setRate 35 = .ok (.ireturn, 1) := by decide +kernel
set_option maxRecDepth 20000 in
theorem ggX10_equity_X10_in : GoodIn wsX10_equity wsX10_in := goodIn_r _ [8] (by decide +kernel) (by decide +kernel)
set_option maxRecDepth 20000 in
theorem gX10_equity_X10_in : GoodIn wsX10_equity (va_wsS RX10 91 yX10_in wsX10_in) := goodIn_app (goodIn_of _ (by decide +kernel)) ggX10_equity_X10_in
set_option maxRecDepth 20000 in
theorem ggX10_equity_X10_fails : GoodIn wsX10_equity wsX10_fails := goodIn_r _ [12, 13, 14, 15, 16, 17, 18, 19, 20, 21, 22, 23, 24, 25, 26, 27, 28, 29, 30, 31, 32, 33, 34, 35, 36, 37, 38, 39, 40, 41, 42, 43, 44, 45, 46, 47, 48, 49, 50, 51, 52, 53, 54, 55, 56, 57, 58, 59, 60, 61, 62, 63, 64, 65, 66, 67] (by decide +kernel) (by decide +kernel)
set_option maxRecDepth 20000 in
theorem gX10_equity_X10_fails : GoodIn wsX10_equity (wsV RX10 178 RX10 yX10_fails wsX10_fails) := goodIn_app (goodIn_of _ (by decide +kernel)) ggX10_equity_X10_fails
theorem dX10_equity_0 : decode cX10_equity 0 = .ok (.aload_n 0, 1) := by decide +kernel
theorem dX10_equity_1 : decode cX10_equity 1 = .ok (.iload_n 1, 1) := by decide +kernel
theorem dX10_equity_2 : decode cX10_equity 2 = .ok (.iconst 0, 1) := by decide +kernel
theorem dX10_equity_3 : decode cX10_equity 3 = .ok (.bipush 25, 2) := by decide +kernel
theorem dX10_equity_5 : decode cX10_equity 5 = .ok (.invokestatic 91, 3) := by decide +kernel
theorem dX10_equity_8 : decode cX10_equity 8 = .ok (.ifCond .eq 23, 3) := by decide +kernel
theorem dX10_equity_11 : decode cX10_equity 11 = .ok (.iload_n 2, 1) := by decide +kernel
theorem dX10_equity_12 : decode cX10_equity 12 = .ok (.iconst 0, 1) := by decide +kernel
theorem dX10_equity_13 : decode cX10_equity 13 = .ok (.bipush 25, 2) := by decide +kernel
theorem dX10_equity_15 : decode cX10_equity 15 = .ok (.invokestatic 91, 3) := by decide +kernel
theorem dX10_equity_18 : decode cX10_equity 18 = .ok (.ifCond .eq 13, 3) := by decide +kernel
theorem dX10_equity_21 : decode cX10_equity 21 = .ok (.iload_n 1, 1) := by decide +kernel
theorem dX10_equity_22 : decode cX10_equity 22 = .ok (.iload_n 2, 1) := by decide +kernel
theorem dX10_equity_23 : decode cX10_equity 23 = .ok (.iadd, 1) := by decide +kernel
theorem dX10_equity_24 : decode cX10_equity 24 = .ok (.ifCond .le 7, 3) := by decide +kernel
theorem dX10_equity_27 : decode cX10_equity 27 = .ok (.iconst 0, 1) := by decide +kernel
theorem dX10_equity_28 : decode cX10_equity 28 = .ok (.goto 4, 3) := by decide +kernel
theorem dX10_equity_31 : decode cX10_equity 31 = .ok (.iconst 1, 1) := by decide +kernel
theorem dX10_equity_32 : decode cX10_equity 32 = .ok (.invokevirtual 178, 3) := by decide +kernel
theorem dX10_equity_35 : decode cX10_equity 35 = .ok (.ifCond .eq 5, 3) := by decide +kernel
theorem dX10_equity_38 : decode cX10_equity 38 = .ok (.lconst 0, 1) := by decide +kernel
theorem dX10_equity_39 : decode cX10_equity 39 = .ok (.lreturn, 1) := by decide +kernel
theorem dX10_equity_40 : decode cX10_equity 40 = .ok (.iconst 0, 1) := by decide +kernel
theorem dX10_equity_41 : decode cX10_equity 41 = .ok (.istore_n 3, 1) := by decide +kernel
theorem dX10_equity_42 : decode cX10_equity 42 = .ok (.iload_n 3, 1) := by decide +kernel
theorem dX10_equity_43 : decode cX10_equity 43 = .ok (.bipush 27, 2) := by decide +kernel
theorem dX10_equity_45 : decode cX10_equity 45 = .ok (.if_icmp .ge 152, 3) := by decide +kernel
theorem dX10_equity_48 : decode cX10_equity 48 = .ok (.iconst 0, 1) := by decide +kernel
theorem dX10_equity_49 : decode cX10_equity 49 = .ok (.istore 4, 2) := by decide +kernel
theorem dX10_equity_51 : decode cX10_equity 51 = .ok (.iload 4, 2) := by decide +kernel
theorem dX10_equity_53 : decode cX10_equity 53 = .ok (.bipush 27, 2) := by decide +kernel
theorem dX10_equity_55 : decode cX10_equity 55 = .ok (.if_icmp .ge 136, 3) := by decide +kernel
theorem dX10_equity_58 : decode cX10_equity 58 = .ok (.iload_n 3, 1) := by decide +kernel
theorem dX10_equity_59 : decode cX10_equity 59 = .ok (.iconst 2, 1) := by decide +kernel
theorem dX10_equity_60 : decode cX10_equity 60 = .ok (.if_icmp .ge 21, 3) := by decide +kernel
theorem dX10_equity_63 : decode cX10_equity 63 = .ok (.aload_n 0, 1) := by decide +kernel
theorem dX10_equity_64 : decode cX10_equity 64 = .ok (.getfield 69, 3) := by decide +kernel
theorem dX10_equity_67 : decode cX10_equity 67 = .ok (.bipush 27, 2) := by decide +kernel
theorem dX10_equity_69 : decode cX10_equity 69 = .ok (.iload_n 3, 1) := by decide +kernel
theorem dX10_equity_70 : decode cX10_equity 70 = .ok (.imul, 1) := by decide +kernel
theorem dX10_equity_71 : decode cX10_equity 71 = .ok (.iload 4, 2) := by decide +kernel
theorem dX10_equity_73 : decode cX10_equity 73 = .ok (.iadd, 1) := by decide +kernel
theorem dX10_equity_74 : decode cX10_equity 74 = .ok (.ldc2_w 309, 3) := by decide +kernel
theorem dX10_equity_77 : decode cX10_equity 77 = .ok (.lastore, 1) := by decide +kernel
theorem dX10_equity_78 : decode cX10_equity 78 = .ok (.goto 107, 3) := by decide +kernel
theorem dX10_equity_81 : decode cX10_equity 81 = .ok (.iload 4, 2) := by decide +kernel
theorem dX10_equity_83 : decode cX10_equity 83 = .ok (.iconst 2, 1) := by decide +kernel
theorem dX10_equity_84 : decode cX10_equity 84 = .ok (.if_icmp .lt 101, 3) := by decide +kernel
theorem dX10_equity_87 : decode cX10_equity 87 = .ok (.aload_n 0, 1) := by decide +kernel
theorem dX10_equity_88 : decode cX10_equity 88 = .ok (.getfield 69, 3) := by decide +kernel
theorem dX10_equity_91 : decode cX10_equity 91 = .ok (.bipush 27, 2) := by decide +kernel
theorem dX10_equity_93 : decode cX10_equity 93 = .ok (.iload_n 3, 1) := by decide +kernel
theorem dX10_equity_94 : decode cX10_equity 94 = .ok (.iconst 1, 1) := by decide +kernel
theorem dX10_equity_95 : decode cX10_equity 95 = .ok (.isub, 1) := by decide +kernel
theorem dX10_equity_96 : decode cX10_equity 96 = .ok (.imul, 1) := by decide +kernel
theorem dX10_equity_97 : decode cX10_equity 97 = .ok (.iload 4, 2) := by decide +kernel
theorem dX10_equity_99 : decode cX10_equity 99 = .ok (.iadd, 1) := by decide +kernel
theorem dX10_equity_100 : decode cX10_equity 100 = .ok (.laload, 1) := by decide +kernel
theorem dX10_equity_101 : decode cX10_equity 101 = .ok (.aload_n 0, 1) := by decide +kernel
theorem dX10_equity_102 : decode cX10_equity 102 = .ok (.getfield 69, 3) := by decide +kernel
theorem dX10_equity_105 : decode cX10_equity 105 = .ok (.bipush 27, 2) := by decide +kernel
theorem dX10_equity_107 : decode cX10_equity 107 = .ok (.iload_n 3, 1) := by decide +kernel
theorem dX10_equity_108 : decode cX10_equity 108 = .ok (.imul, 1) := by decide +kernel
theorem dX10_equity_109 : decode cX10_equity 109 = .ok (.iload 4, 2) := by decide +kernel
theorem dX10_equity_111 : decode cX10_equity 111 = .ok (.iadd, 1) := by decide +kernel
theorem dX10_equity_112 : decode cX10_equity 112 = .ok (.iconst 1, 1) := by decide +kernel
theorem dX10_equity_113 : decode cX10_equity 113 = .ok (.isub, 1) := by decide +kernel
theorem dX10_equity_114 : decode cX10_equity 114 = .ok (.laload, 1) := by decide +kernel
theorem dX10_equity_115 : decode cX10_equity 115 = .ok (.ladd, 1) := by decide +kernel
theorem dX10_equity_116 : decode cX10_equity 116 = .ok (.lstore 5, 2) := by decide +kernel
theorem dX10_equity_118 : decode cX10_equity 118 = .ok (.aload_n 0, 1) := by decide +kernel
theorem dX10_equity_119 : decode cX10_equity 119 = .ok (.getfield 69, 3) := by decide +kernel
theorem dX10_equity_122 : decode cX10_equity 122 = .ok (.bipush 27, 2) := by decide +kernel
theorem dX10_equity_124 : decode cX10_equity 124 = .ok (.iload_n 3, 1) := by decide +kernel
theorem dX10_equity_125 : decode cX10_equity 125 = .ok (.iconst 2, 1) := by decide +kernel
theorem dX10_equity_126 : decode cX10_equity 126 = .ok (.isub, 1) := by decide +kernel
theorem dX10_equity_127 : decode cX10_equity 127 = .ok (.imul, 1) := by decide +kernel
theorem dX10_equity_128 : decode cX10_equity 128 = .ok (.iload 4, 2) := by decide +kernel
theorem dX10_equity_130 : decode cX10_equity 130 = .ok (.iadd, 1) := by decide +kernel
theorem dX10_equity_131 : decode cX10_equity 131 = .ok (.laload, 1) := by decide +kernel
theorem dX10_equity_132 : decode cX10_equity 132 = .ok (.aload_n 0, 1) := by decide +kernel
theorem dX10_equity_133 : decode cX10_equity 133 = .ok (.getfield 69, 3) := by decide +kernel
theorem dX10_equity_136 : decode cX10_equity 136 = .ok (.bipush 27, 2) := by decide +kernel
theorem dX10_equity_138 : decode cX10_equity 138 = .ok (.iload_n 3, 1) := by decide +kernel
theorem dX10_equity_139 : decode cX10_equity 139 = .ok (.imul, 1) := by decide +kernel
theorem dX10_equity_140 : decode cX10_equity 140 = .ok (.iload 4, 2) := by decide +kernel
theorem dX10_equity_142 : decode cX10_equity 142 = .ok (.iadd, 1) := by decide +kernel
theorem dX10_equity_143 : decode cX10_equity 143 = .ok (.iconst 2, 1) := by decide +kernel
theorem dX10_equity_144 : decode cX10_equity 144 = .ok (.isub, 1) := by decide +kernel
theorem dX10_equity_145 : decode cX10_equity 145 = .ok (.laload, 1) := by decide +kernel
theorem dX10_equity_146 : decode cX10_equity 146 = .ok (.ladd, 1) := by decide +kernel
theorem dX10_equity_147 : decode cX10_equity 147 = .ok (.lstore 7, 2) := by decide +kernel
theorem dX10_equity_149 : decode cX10_equity 149 = .ok (.aload_n 0, 1) := by decide +kernel
theorem dX10_equity_150 : decode cX10_equity 150 = .ok (.getfield 69, 3) := by decide +kernel
theorem dX10_equity_153 : decode cX10_equity 153 = .ok (.bipush 27, 2) := by decide +kernel
theorem dX10_equity_155 : decode cX10_equity 155 = .ok (.iload_n 3, 1) := by decide +kernel
theorem dX10_equity_156 : decode cX10_equity 156 = .ok (.imul, 1) := by decide +kernel
theorem dX10_equity_157 : decode cX10_equity 157 = .ok (.iload 4, 2) := by decide +kernel
theorem dX10_equity_159 : decode cX10_equity 159 = .ok (.iadd, 1) := by decide +kernel
theorem dX10_equity_160 : decode cX10_equity 160 = .ok (.bipush 100, 2) := by decide +kernel
theorem dX10_equity_162 : decode cX10_equity 162 = .ok (.aload_n 0, 1) := by decide +kernel
theorem dX10_equity_163 : decode cX10_equity 163 = .ok (.getfield 66, 3) := by decide +kernel
theorem dX10_equity_166 : decode cX10_equity 166 = .ok (.isub, 1) := by decide +kernel
theorem dX10_equity_167 : decode cX10_equity 167 = .ok (.i2l, 1) := by decide +kernel
theorem dX10_equity_168 : decode cX10_equity 168 = .ok (.lload 5, 2) := by decide +kernel
theorem dX10_equity_170 : decode cX10_equity 170 = .ok (.lmul, 1) := by decide +kernel
theorem dX10_equity_171 : decode cX10_equity 171 = .ok (.aload_n 0, 1) := by decide +kernel
theorem dX10_equity_172 : decode cX10_equity 172 = .ok (.getfield 66, 3) := by decide +kernel
theorem dX10_equity_175 : decode cX10_equity 175 = .ok (.i2l, 1) := by decide +kernel
theorem dX10_equity_176 : decode cX10_equity 176 = .ok (.lload 7, 2) := by decide +kernel
theorem dX10_equity_178 : decode cX10_equity 178 = .ok (.lmul, 1) := by decide +kernel
theorem dX10_equity_179 : decode cX10_equity 179 = .ok (.ladd, 1) := by decide +kernel
theorem dX10_equity_180 : decode cX10_equity 180 = .ok (.ldc2_w 311, 3) := by decide +kernel
theorem dX10_equity_183 : decode cX10_equity 183 = .ok (.ldiv, 1) := by decide +kernel
theorem dX10_equity_184 : decode cX10_equity 184 = .ok (.lastore, 1) := by decide +kernel
theorem dX10_equity_185 : decode cX10_equity 185 = .ok (.iinc 4 1, 3) := by decide +kernel
theorem dX10_equity_188 : decode cX10_equity 188 = .ok (.goto (-137), 3) := by decide +kernel
theorem dX10_equity_191 : decode cX10_equity 191 = .ok (.iinc 3 1, 3) := by decide +kernel
theorem dX10_equity_194 : decode cX10_equity 194 = .ok (.goto (-152), 3) := by decide +kernel
theorem dX10_equity_197 : decode cX10_equity 197 = .ok (.aload_n 0, 1) := by decide +kernel
theorem dX10_equity_198 : decode cX10_equity 198 = .ok (.getfield 69, 3) := by decide +kernel
theorem dX10_equity_201 : decode cX10_equity 201 = .ok (.bipush 27, 2) := by decide +kernel
theorem dX10_equity_203 : decode cX10_equity 203 = .ok (.iload_n 1, 1) := by decide +kernel
theorem dX10_equity_204 : decode cX10_equity 204 = .ok (.iconst 1, 1) := by decide +kernel
theorem dX10_equity_205 : decode cX10_equity 205 = .ok (.iadd, 1) := by decide +kernel
theorem dX10_equity_206 : decode cX10_equity 206 = .ok (.imul, 1) := by decide +kernel
theorem dX10_equity_207 : decode cX10_equity 207 = .ok (.iload_n 2, 1) := by decide +kernel
theorem dX10_equity_208 : decode cX10_equity 208 = .ok (.iadd, 1) := by decide +kernel
theorem dX10_equity_209 : decode cX10_equity 209 = .ok (.iconst 1, 1) := by decide +kernel
theorem dX10_equity_210 : decode cX10_equity 210 = .ok (.iadd, 1) := by decide +kernel
theorem dX10_equity_211 : decode cX10_equity 211 = .ok (.laload, 1) := by decide +kernel
theorem dX10_equity_212 : decode cX10_equity 212 = .ok (.lreturn, 1) := by decide +kernel
set_option maxRecDepth 20000 in
theorem ggX10_seat_X10_in : GoodIn wsX10_seat wsX10_in := goodIn_r _ [13] (by decide +kernel) (by decide +kernel)
set_option maxRecDepth 20000 in
theorem gX10_seat_X10_in : GoodIn wsX10_seat (va_wsS RX10 91 yX10_in wsX10_in) := goodIn_app (goodIn_of _ (by decide +kernel)) ggX10_seat_X10_in
set_option maxRecDepth 20000 in
theorem ggX10_seat_X10_fails : GoodIn wsX10_seat wsX10_fails := goodIn_r _ [17, 18, 19, 20, 21, 22, 23, 24, 25, 26, 27, 28, 29, 30, 31, 32, 33, 34, 35, 36, 37, 38, 39, 40, 41, 42, 43, 44, 45, 46, 47, 48, 49, 50, 51, 52, 53, 54, 55, 56, 57, 58, 59, 60, 61, 62, 63, 64, 65, 66, 67, 68, 69, 70, 71, 72] (by decide +kernel) (by decide +kernel)
set_option maxRecDepth 20000 in
theorem gX10_seat_X10_fails : GoodIn wsX10_seat (wsV RX10 178 RX10 yX10_fails wsX10_fails) := goodIn_app (goodIn_of _ (by decide +kernel)) ggX10_seat_X10_fails
theorem dX10_seat_0 : decode cX10_seat 0 = .ok (.aload_n 0, 1) := by decide +kernel
theorem dX10_seat_1 : decode cX10_seat 1 = .ok (.iload_n 1, 1) := by decide +kernel
theorem dX10_seat_2 : decode cX10_seat 2 = .ok (.iconst 3, 1) := by decide +kernel
theorem dX10_seat_3 : decode cX10_seat 3 = .ok (.bipush 6, 2) := by decide +kernel
theorem dX10_seat_5 : decode cX10_seat 5 = .ok (.invokestatic 91, 3) := by decide +kernel
theorem dX10_seat_8 : decode cX10_seat 8 = .ok (.ifCond .ne 7, 3) := by decide +kernel
theorem dX10_seat_11 : decode cX10_seat 11 = .ok (.iconst 1, 1) := by decide +kernel
theorem dX10_seat_12 : decode cX10_seat 12 = .ok (.goto 31, 3) := by decide +kernel
theorem dX10_seat_15 : decode cX10_seat 15 = .ok (.aload_n 0, 1) := by decide +kernel
theorem dX10_seat_16 : decode cX10_seat 16 = .ok (.getfield 13, 3) := by decide +kernel
theorem dX10_seat_19 : decode cX10_seat 19 = .ok (.bipush 45, 2) := by decide +kernel
theorem dX10_seat_21 : decode cX10_seat 21 = .ok (.if_icmp .ne 17, 3) := by decide +kernel
theorem dX10_seat_24 : decode cX10_seat 24 = .ok (.aload_n 0, 1) := by decide +kernel
theorem dX10_seat_25 : decode cX10_seat 25 = .ok (.getfield 182, 3) := by decide +kernel
theorem dX10_seat_28 : decode cX10_seat 28 = .ok (.ifCond .eq 14, 3) := by decide +kernel
theorem dX10_seat_31 : decode cX10_seat 31 = .ok (.aload_n 0, 1) := by decide +kernel
theorem dX10_seat_32 : decode cX10_seat 32 = .ok (.getfield 188, 3) := by decide +kernel
theorem dX10_seat_35 : decode cX10_seat 35 = .ok (.ifCond .le 7, 3) := by decide +kernel
theorem dX10_seat_38 : decode cX10_seat 38 = .ok (.iconst 2, 1) := by decide +kernel
theorem dX10_seat_39 : decode cX10_seat 39 = .ok (.goto 4, 3) := by decide +kernel
theorem dX10_seat_42 : decode cX10_seat 42 = .ok (.iconst 0, 1) := by decide +kernel
theorem dX10_seat_43 : decode cX10_seat 43 = .ok (.invokevirtual 178, 3) := by decide +kernel
theorem dX10_seat_46 : decode cX10_seat 46 = .ok (.ifCond .eq 5, 3) := by decide +kernel
theorem dX10_seat_49 : decode cX10_seat 49 = .ok (.iconst 0, 1) := by decide +kernel
theorem dX10_seat_50 : decode cX10_seat 50 = .ok (.ireturn, 1) := by decide +kernel
theorem dX10_seat_51 : decode cX10_seat 51 = .ok (.aload_n 0, 1) := by decide +kernel
theorem dX10_seat_52 : decode cX10_seat 52 = .ok (.getfield 175, 3) := by decide +kernel
theorem dX10_seat_55 : decode cX10_seat 55 = .ok (.istore_n 2, 1) := by decide +kernel
theorem dX10_seat_56 : decode cX10_seat 56 = .ok (.aload_n 0, 1) := by decide +kernel
theorem dX10_seat_57 : decode cX10_seat 57 = .ok (.iload_n 1, 1) := by decide +kernel
theorem dX10_seat_58 : decode cX10_seat 58 = .ok (.putfield 175, 3) := by decide +kernel
theorem dX10_seat_61 : decode cX10_seat 61 = .ok (.aload_n 0, 1) := by decide +kernel
theorem dX10_seat_62 : decode cX10_seat 62 = .ok (.iconst 0, 1) := by decide +kernel
theorem dX10_seat_63 : decode cX10_seat 63 = .ok (.putfield 222, 3) := by decide +kernel
theorem dX10_seat_66 : decode cX10_seat 66 = .ok (.aload_n 0, 1) := by decide +kernel
theorem dX10_seat_67 : decode cX10_seat 67 = .ok (.iconst 1, 1) := by decide +kernel
theorem dX10_seat_68 : decode cX10_seat 68 = .ok (.putfield 225, 3) := by decide +kernel
theorem dX10_seat_71 : decode cX10_seat 71 = .ok (.aload_n 0, 1) := by decide +kernel
theorem dX10_seat_72 : decode cX10_seat 72 = .ok (.iload_n 1, 1) := by decide +kernel
theorem dX10_seat_73 : decode cX10_seat 73 = .ok (.iconst 2, 1) := by decide +kernel
theorem dX10_seat_74 : decode cX10_seat 74 = .ok (.isub, 1) := by decide +kernel
theorem dX10_seat_75 : decode cX10_seat 75 = .ok (.putfield 228, 3) := by decide +kernel
theorem dX10_seat_78 : decode cX10_seat 78 = .ok (.iconst 0, 1) := by decide +kernel
theorem dX10_seat_79 : decode cX10_seat 79 = .ok (.istore_n 3, 1) := by decide +kernel
theorem dX10_seat_80 : decode cX10_seat 80 = .ok (.iload_n 3, 1) := by decide +kernel
theorem dX10_seat_81 : decode cX10_seat 81 = .ok (.bipush 6, 2) := by decide +kernel
theorem dX10_seat_83 : decode cX10_seat 83 = .ok (.if_icmp .ge 25, 3) := by decide +kernel
theorem dX10_seat_86 : decode cX10_seat 86 = .ok (.aload_n 0, 1) := by decide +kernel
theorem dX10_seat_87 : decode cX10_seat 87 = .ok (.getfield 85, 3) := by decide +kernel
theorem dX10_seat_90 : decode cX10_seat 90 = .ok (.iload_n 3, 1) := by decide +kernel
theorem dX10_seat_91 : decode cX10_seat 91 = .ok (.lconst 0, 1) := by decide +kernel
theorem dX10_seat_92 : decode cX10_seat 92 = .ok (.lastore, 1) := by decide +kernel
theorem dX10_seat_93 : decode cX10_seat 93 = .ok (.aload_n 0, 1) := by decide +kernel
theorem dX10_seat_94 : decode cX10_seat 94 = .ok (.getfield 82, 3) := by decide +kernel
theorem dX10_seat_97 : decode cX10_seat 97 = .ok (.iload_n 3, 1) := by decide +kernel
theorem dX10_seat_98 : decode cX10_seat 98 = .ok (.iload_n 3, 1) := by decide +kernel
theorem dX10_seat_99 : decode cX10_seat 99 = .ok (.iconst 2, 1) := by decide +kernel
theorem dX10_seat_100 : decode cX10_seat 100 = .ok (.iadd, 1) := by decide +kernel
theorem dX10_seat_101 : decode cX10_seat 101 = .ok (.iastore, 1) := by decide +kernel
theorem dX10_seat_102 : decode cX10_seat 102 = .ok (.iinc 3 1, 3) := by decide +kernel
theorem dX10_seat_105 : decode cX10_seat 105 = .ok (.goto (-25), 3) := by decide +kernel
theorem dX10_seat_108 : decode cX10_seat 108 = .ok (.iload_n 2, 1) := by decide +kernel
theorem dX10_seat_109 : decode cX10_seat 109 = .ok (.ireturn, 1) := by decide +kernel
set_option maxRecDepth 20000 in
theorem ggX10_account_X10_in : GoodIn wsX10_account wsX10_in := goodIn_r _ [6] (by decide +kernel) (by decide +kernel)
set_option maxRecDepth 20000 in
theorem gX10_account_X10_in : GoodIn wsX10_account (va_wsS RX10 91 yX10_in wsX10_in) := goodIn_app (goodIn_of _ (by decide +kernel)) ggX10_account_X10_in
set_option maxRecDepth 20000 in
theorem ggX10_account_X10_fails : GoodIn wsX10_account wsX10_fails := goodIn_r _ [10, 11, 12, 13, 14, 15, 16, 17, 18, 19, 20, 21, 22, 23, 24, 25, 26, 27, 28, 29, 30, 31, 32, 33, 34, 35, 36, 37, 38, 39, 40, 41, 42, 43, 44, 45, 46, 47, 48, 49, 50, 51, 52, 53, 54, 55, 56, 57, 58, 59, 60, 61, 62, 63, 64, 65] (by decide +kernel) (by decide +kernel)
set_option maxRecDepth 20000 in
theorem gX10_account_X10_fails : GoodIn wsX10_account (wsV RX10 178 RX10 yX10_fails wsX10_fails) := goodIn_app (goodIn_of _ (by decide +kernel)) ggX10_account_X10_fails
theorem dX10_account_0 : decode cX10_account 0 = .ok (.aload_n 0, 1) := by decide +kernel
theorem dX10_account_1 : decode cX10_account 1 = .ok (.iload_n 1, 1) := by decide +kernel
theorem dX10_account_2 : decode cX10_account 2 = .ok (.iconst 0, 1) := by decide +kernel
theorem dX10_account_3 : decode cX10_account 3 = .ok (.aload_n 0, 1) := by decide +kernel
theorem dX10_account_4 : decode cX10_account 4 = .ok (.getfield 175, 3) := by decide +kernel
theorem dX10_account_7 : decode cX10_account 7 = .ok (.iconst 1, 1) := by decide +kernel
theorem dX10_account_8 : decode cX10_account 8 = .ok (.isub, 1) := by decide +kernel
theorem dX10_account_9 : decode cX10_account 9 = .ok (.invokestatic 91, 3) := by decide +kernel
theorem dX10_account_12 : decode cX10_account 12 = .ok (.ifCond .eq 7, 3) := by decide +kernel
theorem dX10_account_15 : decode cX10_account 15 = .ok (.iconst 0, 1) := by decide +kernel
theorem dX10_account_16 : decode cX10_account 16 = .ok (.goto 4, 3) := by decide +kernel
theorem dX10_account_19 : decode cX10_account 19 = .ok (.iconst 1, 1) := by decide +kernel
theorem dX10_account_20 : decode cX10_account 20 = .ok (.invokevirtual 178, 3) := by decide +kernel
theorem dX10_account_23 : decode cX10_account 23 = .ok (.ifCond .eq 7, 3) := by decide +kernel
theorem dX10_account_26 : decode cX10_account 26 = .ok (.lconst 0, 1) := by decide +kernel
theorem dX10_account_27 : decode cX10_account 27 = .ok (.goto 9, 3) := by decide +kernel
theorem dX10_account_30 : decode cX10_account 30 = .ok (.aload_n 0, 1) := by decide +kernel
theorem dX10_account_31 : decode cX10_account 31 = .ok (.getfield 85, 3) := by decide +kernel
theorem dX10_account_34 : decode cX10_account 34 = .ok (.iload_n 1, 1) := by decide +kernel
theorem dX10_account_35 : decode cX10_account 35 = .ok (.laload, 1) := by decide +kernel
theorem dX10_account_36 : decode cX10_account 36 = .ok (.lreturn, 1) := by decide +kernel
set_option maxRecDepth 20000 in
theorem ggX10_box_X10_fails : GoodIn wsX10_box wsX10_fails := goodIn_r _ [7, 8, 9, 10, 11, 12, 13, 14, 15, 16, 17, 18, 19, 20, 21, 22, 23, 24, 25, 26, 27, 28, 29, 30, 31, 32, 33, 34, 35, 36, 37, 38, 39, 40, 41, 42, 43, 44, 45, 46, 47, 48, 49, 50, 51, 52, 53, 54, 55, 56, 57, 58, 59, 60, 61, 62] (by decide +kernel) (by decide +kernel)
set_option maxRecDepth 20000 in
theorem gX10_box_X10_fails : GoodIn wsX10_box (wsV RX10 178 RX10 yX10_fails wsX10_fails) := goodIn_app (goodIn_of _ (by decide +kernel)) ggX10_box_X10_fails
theorem dX10_box_0 : decode cX10_box 0 = .ok (.aload_n 0, 1) := by decide +kernel
theorem dX10_box_1 : decode cX10_box 1 = .ok (.aload_n 0, 1) := by decide +kernel
theorem dX10_box_2 : decode cX10_box 2 = .ok (.getfield 175, 3) := by decide +kernel
theorem dX10_box_5 : decode cX10_box 5 = .ok (.ifCond .le 7, 3) := by decide +kernel
theorem dX10_box_8 : decode cX10_box 8 = .ok (.iconst 0, 1) := by decide +kernel
theorem dX10_box_9 : decode cX10_box 9 = .ok (.goto 4, 3) := by decide +kernel
theorem dX10_box_12 : decode cX10_box 12 = .ok (.iconst 1, 1) := by decide +kernel
theorem dX10_box_13 : decode cX10_box 13 = .ok (.invokevirtual 178, 3) := by decide +kernel
theorem dX10_box_16 : decode cX10_box 16 = .ok (.ifCond .eq 7, 3) := by decide +kernel
theorem dX10_box_19 : decode cX10_box 19 = .ok (.iconst 0, 1) := by decide +kernel
theorem dX10_box_20 : decode cX10_box 20 = .ok (.goto 7, 3) := by decide +kernel
theorem dX10_box_23 : decode cX10_box 23 = .ok (.aload_n 0, 1) := by decide +kernel
theorem dX10_box_24 : decode cX10_box 24 = .ok (.getfield 222, 3) := by decide +kernel
theorem dX10_box_27 : decode cX10_box 27 = .ok (.ireturn, 1) := by decide +kernel
set_option maxRecDepth 20000 in
theorem ggX10_captain_X10_fails : GoodIn wsX10_captain wsX10_fails := goodIn_r _ [7, 8, 9, 10, 11, 12, 13, 14, 15, 16, 17, 18, 19, 20, 21, 22, 23, 24, 25, 26, 27, 28, 29, 30, 31, 32, 33, 34, 35, 36, 37, 38, 39, 40, 41, 42, 43, 44, 45, 46, 47, 48, 49, 50, 51, 52, 53, 54, 55, 56, 57, 58, 59, 60, 61, 62] (by decide +kernel) (by decide +kernel)
set_option maxRecDepth 20000 in
theorem gX10_captain_X10_fails : GoodIn wsX10_captain (wsV RX10 178 RX10 yX10_fails wsX10_fails) := goodIn_app (goodIn_of _ (by decide +kernel)) ggX10_captain_X10_fails
theorem dX10_captain_0 : decode cX10_captain 0 = .ok (.aload_n 0, 1) := by decide +kernel
theorem dX10_captain_1 : decode cX10_captain 1 = .ok (.aload_n 0, 1) := by decide +kernel
theorem dX10_captain_2 : decode cX10_captain 2 = .ok (.getfield 175, 3) := by decide +kernel
theorem dX10_captain_5 : decode cX10_captain 5 = .ok (.ifCond .le 7, 3) := by decide +kernel
theorem dX10_captain_8 : decode cX10_captain 8 = .ok (.iconst 0, 1) := by decide +kernel
theorem dX10_captain_9 : decode cX10_captain 9 = .ok (.goto 4, 3) := by decide +kernel
theorem dX10_captain_12 : decode cX10_captain 12 = .ok (.iconst 1, 1) := by decide +kernel
theorem dX10_captain_13 : decode cX10_captain 13 = .ok (.invokevirtual 178, 3) := by decide +kernel
theorem dX10_captain_16 : decode cX10_captain 16 = .ok (.ifCond .eq 7, 3) := by decide +kernel
theorem dX10_captain_19 : decode cX10_captain 19 = .ok (.iconst 0, 1) := by decide +kernel
theorem dX10_captain_20 : decode cX10_captain 20 = .ok (.goto 7, 3) := by decide +kernel
theorem dX10_captain_23 : decode cX10_captain 23 = .ok (.aload_n 0, 1) := by decide +kernel
theorem dX10_captain_24 : decode cX10_captain 24 = .ok (.getfield 225, 3) := by decide +kernel
theorem dX10_captain_27 : decode cX10_captain 27 = .ok (.ireturn, 1) := by decide +kernel
set_option maxRecDepth 20000 in
theorem ggX10_inLine_X10_in : GoodIn wsX10_inLine wsX10_in := goodIn_r _ [6] (by decide +kernel) (by decide +kernel)
set_option maxRecDepth 20000 in
theorem gX10_inLine_X10_in : GoodIn wsX10_inLine (va_wsS RX10 91 yX10_in wsX10_in) := goodIn_app (goodIn_of _ (by decide +kernel)) ggX10_inLine_X10_in
set_option maxRecDepth 20000 in
theorem ggX10_inLine_X10_fails : GoodIn wsX10_inLine wsX10_fails := goodIn_r _ [10, 11, 12, 13, 14, 15, 16, 17, 18, 19, 20, 21, 22, 23, 24, 25, 26, 27, 28, 29, 30, 31, 32, 33, 34, 35, 36, 37, 38, 39, 40, 41, 42, 43, 44, 45, 46, 47, 48, 49, 50, 51, 52, 53, 54, 55, 56, 57, 58, 59, 60, 61, 62, 63, 64, 65] (by decide +kernel) (by decide +kernel)
set_option maxRecDepth 20000 in
theorem gX10_inLine_X10_fails : GoodIn wsX10_inLine (wsV RX10 178 RX10 yX10_fails wsX10_fails) := goodIn_app (goodIn_of _ (by decide +kernel)) ggX10_inLine_X10_fails
theorem dX10_inLine_0 : decode cX10_inLine 0 = .ok (.aload_n 0, 1) := by decide +kernel
theorem dX10_inLine_1 : decode cX10_inLine 1 = .ok (.iload_n 1, 1) := by decide +kernel
theorem dX10_inLine_2 : decode cX10_inLine 2 = .ok (.iconst 0, 1) := by decide +kernel
theorem dX10_inLine_3 : decode cX10_inLine 3 = .ok (.aload_n 0, 1) := by decide +kernel
theorem dX10_inLine_4 : decode cX10_inLine 4 = .ok (.getfield 228, 3) := by decide +kernel
theorem dX10_inLine_7 : decode cX10_inLine 7 = .ok (.iconst 1, 1) := by decide +kernel
theorem dX10_inLine_8 : decode cX10_inLine 8 = .ok (.isub, 1) := by decide +kernel
theorem dX10_inLine_9 : decode cX10_inLine 9 = .ok (.invokestatic 91, 3) := by decide +kernel
theorem dX10_inLine_12 : decode cX10_inLine 12 = .ok (.ifCond .eq 7, 3) := by decide +kernel
theorem dX10_inLine_15 : decode cX10_inLine 15 = .ok (.iconst 0, 1) := by decide +kernel
theorem dX10_inLine_16 : decode cX10_inLine 16 = .ok (.goto 4, 3) := by decide +kernel
theorem dX10_inLine_19 : decode cX10_inLine 19 = .ok (.iconst 1, 1) := by decide +kernel
theorem dX10_inLine_20 : decode cX10_inLine 20 = .ok (.invokevirtual 178, 3) := by decide +kernel
theorem dX10_inLine_23 : decode cX10_inLine 23 = .ok (.ifCond .eq 7, 3) := by decide +kernel
theorem dX10_inLine_26 : decode cX10_inLine 26 = .ok (.iconst 0, 1) := by decide +kernel
theorem dX10_inLine_27 : decode cX10_inLine 27 = .ok (.goto 9, 3) := by decide +kernel
theorem dX10_inLine_30 : decode cX10_inLine 30 = .ok (.aload_n 0, 1) := by decide +kernel
theorem dX10_inLine_31 : decode cX10_inLine 31 = .ok (.getfield 82, 3) := by decide +kernel
theorem dX10_inLine_34 : decode cX10_inLine 34 = .ok (.iload_n 1, 1) := by decide +kernel
theorem dX10_inLine_35 : decode cX10_inLine 35 = .ok (.iaload, 1) := by decide +kernel
theorem dX10_inLine_36 : decode cX10_inLine 36 = .ok (.ireturn, 1) := by decide +kernel
theorem dX10_played_0 : decode cX10_played 0 = .ok (.aload_n 0, 1) := by decide +kernel
theorem dX10_played_1 : decode cX10_played 1 = .ok (.iconst 0, 1) := by decide +kernel
theorem dX10_played_2 : decode cX10_played 2 = .ok (.putfield 88, 3) := by decide +kernel
theorem dX10_played_5 : decode cX10_played 5 = .ok (.aload_n 0, 1) := by decide +kernel
theorem dX10_played_6 : decode cX10_played 6 = .ok (.getfield 210, 3) := by decide +kernel
theorem dX10_played_9 : decode cX10_played 9 = .ok (.ireturn, 1) := by decide +kernel
set_option maxRecDepth 20000 in
theorem ggX10_playedAt_X10_in : GoodIn wsX10_playedAt wsX10_in := goodIn_r _ [6] (by decide +kernel) (by decide +kernel)
set_option maxRecDepth 20000 in
theorem gX10_playedAt_X10_in : GoodIn wsX10_playedAt (va_wsS RX10 91 yX10_in wsX10_in) := goodIn_app (goodIn_of _ (by decide +kernel)) ggX10_playedAt_X10_in
set_option maxRecDepth 20000 in
theorem ggX10_playedAt_X10_fails : GoodIn wsX10_playedAt wsX10_fails := goodIn_r _ [10, 11, 12, 13, 14, 15, 16, 17, 18, 19, 20, 21, 22, 23, 24, 25, 26, 27, 28, 29, 30, 31, 32, 33, 34, 35, 36, 37, 38, 39, 40, 41, 42, 43, 44, 45, 46, 47, 48, 49, 50, 51, 52, 53, 54, 55, 56, 57, 58, 59, 60, 61, 62, 63, 64, 65] (by decide +kernel) (by decide +kernel)
set_option maxRecDepth 20000 in
theorem gX10_playedAt_X10_fails : GoodIn wsX10_playedAt (wsV RX10 178 RX10 yX10_fails wsX10_fails) := goodIn_app (goodIn_of _ (by decide +kernel)) ggX10_playedAt_X10_fails
theorem dX10_playedAt_0 : decode cX10_playedAt 0 = .ok (.aload_n 0, 1) := by decide +kernel
theorem dX10_playedAt_1 : decode cX10_playedAt 1 = .ok (.iload_n 1, 1) := by decide +kernel
theorem dX10_playedAt_2 : decode cX10_playedAt 2 = .ok (.iconst 0, 1) := by decide +kernel
theorem dX10_playedAt_3 : decode cX10_playedAt 3 = .ok (.aload_n 0, 1) := by decide +kernel
theorem dX10_playedAt_4 : decode cX10_playedAt 4 = .ok (.getfield 210, 3) := by decide +kernel
theorem dX10_playedAt_7 : decode cX10_playedAt 7 = .ok (.iconst 1, 1) := by decide +kernel
theorem dX10_playedAt_8 : decode cX10_playedAt 8 = .ok (.isub, 1) := by decide +kernel
theorem dX10_playedAt_9 : decode cX10_playedAt 9 = .ok (.invokestatic 91, 3) := by decide +kernel
theorem dX10_playedAt_12 : decode cX10_playedAt 12 = .ok (.ifCond .eq 7, 3) := by decide +kernel
theorem dX10_playedAt_15 : decode cX10_playedAt 15 = .ok (.iconst 0, 1) := by decide +kernel
theorem dX10_playedAt_16 : decode cX10_playedAt 16 = .ok (.goto 4, 3) := by decide +kernel
theorem dX10_playedAt_19 : decode cX10_playedAt 19 = .ok (.iconst 1, 1) := by decide +kernel
theorem dX10_playedAt_20 : decode cX10_playedAt 20 = .ok (.invokevirtual 178, 3) := by decide +kernel
theorem dX10_playedAt_23 : decode cX10_playedAt 23 = .ok (.ifCond .eq 7, 3) := by decide +kernel
theorem dX10_playedAt_26 : decode cX10_playedAt 26 = .ok (.iconst 0, 1) := by decide +kernel
theorem dX10_playedAt_27 : decode cX10_playedAt 27 = .ok (.goto 9, 3) := by decide +kernel
theorem dX10_playedAt_30 : decode cX10_playedAt 30 = .ok (.aload_n 0, 1) := by decide +kernel
theorem dX10_playedAt_31 : decode cX10_playedAt 31 = .ok (.getfield 73, 3) := by decide +kernel
theorem dX10_playedAt_34 : decode cX10_playedAt 34 = .ok (.iload_n 1, 1) := by decide +kernel
theorem dX10_playedAt_35 : decode cX10_playedAt 35 = .ok (.iaload, 1) := by decide +kernel
theorem dX10_playedAt_36 : decode cX10_playedAt 36 = .ok (.ireturn, 1) := by decide +kernel
set_option maxRecDepth 20000 in
theorem ggX10_rolledAt_X10_in : GoodIn wsX10_rolledAt wsX10_in := goodIn_r _ [6] (by decide +kernel) (by decide +kernel)
set_option maxRecDepth 20000 in
theorem gX10_rolledAt_X10_in : GoodIn wsX10_rolledAt (va_wsS RX10 91 yX10_in wsX10_in) := goodIn_app (goodIn_of _ (by decide +kernel)) ggX10_rolledAt_X10_in
set_option maxRecDepth 20000 in
theorem ggX10_rolledAt_X10_fails : GoodIn wsX10_rolledAt wsX10_fails := goodIn_r _ [10, 11, 12, 13, 14, 15, 16, 17, 18, 19, 20, 21, 22, 23, 24, 25, 26, 27, 28, 29, 30, 31, 32, 33, 34, 35, 36, 37, 38, 39, 40, 41, 42, 43, 44, 45, 46, 47, 48, 49, 50, 51, 52, 53, 54, 55, 56, 57, 58, 59, 60, 61, 62, 63, 64, 65] (by decide +kernel) (by decide +kernel)
set_option maxRecDepth 20000 in
theorem gX10_rolledAt_X10_fails : GoodIn wsX10_rolledAt (wsV RX10 178 RX10 yX10_fails wsX10_fails) := goodIn_app (goodIn_of _ (by decide +kernel)) ggX10_rolledAt_X10_fails
theorem dX10_rolledAt_0 : decode cX10_rolledAt 0 = .ok (.aload_n 0, 1) := by decide +kernel
theorem dX10_rolledAt_1 : decode cX10_rolledAt 1 = .ok (.iload_n 1, 1) := by decide +kernel
theorem dX10_rolledAt_2 : decode cX10_rolledAt 2 = .ok (.iconst 0, 1) := by decide +kernel
theorem dX10_rolledAt_3 : decode cX10_rolledAt 3 = .ok (.aload_n 0, 1) := by decide +kernel
theorem dX10_rolledAt_4 : decode cX10_rolledAt 4 = .ok (.getfield 210, 3) := by decide +kernel
theorem dX10_rolledAt_7 : decode cX10_rolledAt 7 = .ok (.iconst 1, 1) := by decide +kernel
theorem dX10_rolledAt_8 : decode cX10_rolledAt 8 = .ok (.isub, 1) := by decide +kernel
theorem dX10_rolledAt_9 : decode cX10_rolledAt 9 = .ok (.invokestatic 91, 3) := by decide +kernel
theorem dX10_rolledAt_12 : decode cX10_rolledAt 12 = .ok (.ifCond .eq 7, 3) := by decide +kernel
theorem dX10_rolledAt_15 : decode cX10_rolledAt 15 = .ok (.iconst 0, 1) := by decide +kernel
theorem dX10_rolledAt_16 : decode cX10_rolledAt 16 = .ok (.goto 4, 3) := by decide +kernel
theorem dX10_rolledAt_19 : decode cX10_rolledAt 19 = .ok (.iconst 1, 1) := by decide +kernel
theorem dX10_rolledAt_20 : decode cX10_rolledAt 20 = .ok (.invokevirtual 178, 3) := by decide +kernel
theorem dX10_rolledAt_23 : decode cX10_rolledAt 23 = .ok (.ifCond .eq 7, 3) := by decide +kernel
theorem dX10_rolledAt_26 : decode cX10_rolledAt 26 = .ok (.iconst 0, 1) := by decide +kernel
theorem dX10_rolledAt_27 : decode cX10_rolledAt 27 = .ok (.goto 9, 3) := by decide +kernel
theorem dX10_rolledAt_30 : decode cX10_rolledAt 30 = .ok (.aload_n 0, 1) := by decide +kernel
theorem dX10_rolledAt_31 : decode cX10_rolledAt 31 = .ok (.getfield 76, 3) := by decide +kernel
theorem dX10_rolledAt_34 : decode cX10_rolledAt 34 = .ok (.iload_n 1, 1) := by decide +kernel
theorem dX10_rolledAt_35 : decode cX10_rolledAt 35 = .ok (.iaload, 1) := by decide +kernel
theorem dX10_rolledAt_36 : decode cX10_rolledAt 36 = .ok (.ireturn, 1) := by decide +kernel
theorem dX10_fairness_0 : decode cX10_fairness 0 = .ok (.aload_n 0, 1) := by decide +kernel
theorem dX10_fairness_1 : decode cX10_fairness 1 = .ok (.iconst 0, 1) := by decide +kernel
theorem dX10_fairness_2 : decode cX10_fairness 2 = .ok (.putfield 88, 3) := by decide +kernel
theorem dX10_fairness_5 : decode cX10_fairness 5 = .ok (.lconst 0, 1) := by decide +kernel
theorem dX10_fairness_6 : decode cX10_fairness 6 = .ok (.lstore_n 1, 1) := by decide +kernel
theorem dX10_fairness_7 : decode cX10_fairness 7 = .ok (.iconst 1, 1) := by decide +kernel
theorem dX10_fairness_8 : decode cX10_fairness 8 = .ok (.istore_n 3, 1) := by decide +kernel
theorem dX10_fairness_9 : decode cX10_fairness 9 = .ok (.iload_n 3, 1) := by decide +kernel
theorem dX10_fairness_10 : decode cX10_fairness 10 = .ok (.bipush 6, 2) := by decide +kernel
theorem dX10_fairness_12 : decode cX10_fairness 12 = .ok (.if_icmp .gt 18, 3) := by decide +kernel
theorem dX10_fairness_15 : decode cX10_fairness 15 = .ok (.lload_n 1, 1) := by decide +kernel
theorem dX10_fairness_16 : decode cX10_fairness 16 = .ok (.aload_n 0, 1) := by decide +kernel
theorem dX10_fairness_17 : decode cX10_fairness 17 = .ok (.getfield 79, 3) := by decide +kernel
theorem dX10_fairness_20 : decode cX10_fairness 20 = .ok (.iload_n 3, 1) := by decide +kernel
theorem dX10_fairness_21 : decode cX10_fairness 21 = .ok (.laload, 1) := by decide +kernel
theorem dX10_fairness_22 : decode cX10_fairness 22 = .ok (.ladd, 1) := by decide +kernel
theorem dX10_fairness_23 : decode cX10_fairness 23 = .ok (.lstore_n 1, 1) := by decide +kernel
theorem dX10_fairness_24 : decode cX10_fairness 24 = .ok (.iinc 3 1, 3) := by decide +kernel
theorem dX10_fairness_27 : decode cX10_fairness 27 = .ok (.goto (-18), 3) := by decide +kernel
theorem dX10_fairness_30 : decode cX10_fairness 30 = .ok (.lconst 0, 1) := by decide +kernel
theorem dX10_fairness_31 : decode cX10_fairness 31 = .ok (.lstore_n 3, 1) := by decide +kernel
theorem dX10_fairness_32 : decode cX10_fairness 32 = .ok (.iconst 1, 1) := by decide +kernel
theorem dX10_fairness_33 : decode cX10_fairness 33 = .ok (.istore 5, 2) := by decide +kernel
theorem dX10_fairness_35 : decode cX10_fairness 35 = .ok (.iload 5, 2) := by decide +kernel
theorem dX10_fairness_37 : decode cX10_fairness 37 = .ok (.bipush 6, 2) := by decide +kernel
theorem dX10_fairness_39 : decode cX10_fairness 39 = .ok (.if_icmp .gt 32, 3) := by decide +kernel
theorem dX10_fairness_42 : decode cX10_fairness 42 = .ok (.ldc2_w 313, 3) := by decide +kernel
theorem dX10_fairness_45 : decode cX10_fairness 45 = .ok (.aload_n 0, 1) := by decide +kernel
theorem dX10_fairness_46 : decode cX10_fairness 46 = .ok (.getfield 79, 3) := by decide +kernel
theorem dX10_fairness_49 : decode cX10_fairness 49 = .ok (.iload 5, 2) := by decide +kernel
theorem dX10_fairness_51 : decode cX10_fairness 51 = .ok (.laload, 1) := by decide +kernel
theorem dX10_fairness_52 : decode cX10_fairness 52 = .ok (.lmul, 1) := by decide +kernel
theorem dX10_fairness_53 : decode cX10_fairness 53 = .ok (.lload_n 1, 1) := by decide +kernel
theorem dX10_fairness_54 : decode cX10_fairness 54 = .ok (.lsub, 1) := by decide +kernel
theorem dX10_fairness_55 : decode cX10_fairness 55 = .ok (.lstore 6, 2) := by decide +kernel
theorem dX10_fairness_57 : decode cX10_fairness 57 = .ok (.lload_n 3, 1) := by decide +kernel
theorem dX10_fairness_58 : decode cX10_fairness 58 = .ok (.lload 6, 2) := by decide +kernel
theorem dX10_fairness_60 : decode cX10_fairness 60 = .ok (.lload 6, 2) := by decide +kernel
theorem dX10_fairness_62 : decode cX10_fairness 62 = .ok (.lmul, 1) := by decide +kernel
theorem dX10_fairness_63 : decode cX10_fairness 63 = .ok (.ladd, 1) := by decide +kernel
theorem dX10_fairness_64 : decode cX10_fairness 64 = .ok (.lstore_n 3, 1) := by decide +kernel
theorem dX10_fairness_65 : decode cX10_fairness 65 = .ok (.iinc 5 1, 3) := by decide +kernel
theorem dX10_fairness_68 : decode cX10_fairness 68 = .ok (.goto (-33), 3) := by decide +kernel
theorem dX10_fairness_71 : decode cX10_fairness 71 = .ok (.lload_n 3, 1) := by decide +kernel
theorem dX10_fairness_72 : decode cX10_fairness 72 = .ok (.lreturn, 1) := by decide +kernel
set_option maxRecDepth 20000 in
theorem ggX10_hitShare_X10_fails : GoodIn wsX10_hitShare wsX10_fails := goodIn_r _ [7, 8, 9, 10, 11, 12, 13, 14, 15, 16, 17, 18, 19, 20, 21, 22, 23, 24, 25, 26, 27, 28, 29, 30, 31, 32, 33, 34, 35, 36, 37, 38, 39, 40, 41, 42, 43, 44, 45, 46, 47, 48, 49, 50, 51, 52, 53, 54, 55, 56, 57, 58, 59, 60, 61, 62] (by decide +kernel) (by decide +kernel)
set_option maxRecDepth 20000 in
theorem gX10_hitShare_X10_fails : GoodIn wsX10_hitShare (wsV RX10 178 RX10 yX10_fails wsX10_fails) := goodIn_app (goodIn_of _ (by decide +kernel)) ggX10_hitShare_X10_fails
theorem dX10_hitShare_0 : decode cX10_hitShare 0 = .ok (.aload_n 0, 1) := by decide +kernel
theorem dX10_hitShare_1 : decode cX10_hitShare 1 = .ok (.aload_n 0, 1) := by decide +kernel
theorem dX10_hitShare_2 : decode cX10_hitShare 2 = .ok (.getfield 257, 3) := by decide +kernel
theorem dX10_hitShare_5 : decode cX10_hitShare 5 = .ok (.ifCond .ne 7, 3) := by decide +kernel
theorem dX10_hitShare_8 : decode cX10_hitShare 8 = .ok (.iconst 1, 1) := by decide +kernel
theorem dX10_hitShare_9 : decode cX10_hitShare 9 = .ok (.goto 4, 3) := by decide +kernel
theorem dX10_hitShare_12 : decode cX10_hitShare 12 = .ok (.iconst 0, 1) := by decide +kernel
theorem dX10_hitShare_13 : decode cX10_hitShare 13 = .ok (.invokevirtual 178, 3) := by decide +kernel
theorem dX10_hitShare_16 : decode cX10_hitShare 16 = .ok (.ifCond .eq 7, 3) := by decide +kernel
theorem dX10_hitShare_19 : decode cX10_hitShare 19 = .ok (.fconst 0, 1) := by decide +kernel
theorem dX10_hitShare_20 : decode cX10_hitShare 20 = .ok (.goto 14, 3) := by decide +kernel
theorem dX10_hitShare_23 : decode cX10_hitShare 23 = .ok (.aload_n 0, 1) := by decide +kernel
theorem dX10_hitShare_24 : decode cX10_hitShare 24 = .ok (.getfield 260, 3) := by decide +kernel
theorem dX10_hitShare_27 : decode cX10_hitShare 27 = .ok (.i2f, 1) := by decide +kernel
theorem dX10_hitShare_28 : decode cX10_hitShare 28 = .ok (.aload_n 0, 1) := by decide +kernel
theorem dX10_hitShare_29 : decode cX10_hitShare 29 = .ok (.getfield 257, 3) := by decide +kernel
theorem dX10_hitShare_32 : decode cX10_hitShare 32 = .ok (.i2f, 1) := by decide +kernel
theorem dX10_hitShare_33 : decode cX10_hitShare 33 = .ok (.fdiv, 1) := by decide +kernel
theorem dX10_hitShare_34 : decode cX10_hitShare 34 = .ok (.freturn, 1) := by decide +kernel
set_option maxRecDepth 20000 in
theorem ggX10_meanError_X10_fails : GoodIn wsX10_meanError wsX10_fails := goodIn_r _ [7, 8, 9, 10, 11, 12, 13, 14, 15, 16, 17, 18, 19, 20, 21, 22, 23, 24, 25, 26, 27, 28, 29, 30, 31, 32, 33, 34, 35, 36, 37, 38, 39, 40, 41, 42, 43, 44, 45, 46, 47, 48, 49, 50, 51, 52, 53, 54, 55, 56, 57, 58, 59, 60, 61, 62] (by decide +kernel) (by decide +kernel)
set_option maxRecDepth 20000 in
theorem gX10_meanError_X10_fails : GoodIn wsX10_meanError (wsV RX10 178 RX10 yX10_fails wsX10_fails) := goodIn_app (goodIn_of _ (by decide +kernel)) ggX10_meanError_X10_fails
theorem dX10_meanError_0 : decode cX10_meanError 0 = .ok (.aload_n 0, 1) := by decide +kernel
theorem dX10_meanError_1 : decode cX10_meanError 1 = .ok (.aload_n 0, 1) := by decide +kernel
theorem dX10_meanError_2 : decode cX10_meanError 2 = .ok (.getfield 257, 3) := by decide +kernel
theorem dX10_meanError_5 : decode cX10_meanError 5 = .ok (.ifCond .ne 7, 3) := by decide +kernel
theorem dX10_meanError_8 : decode cX10_meanError 8 = .ok (.iconst 1, 1) := by decide +kernel
theorem dX10_meanError_9 : decode cX10_meanError 9 = .ok (.goto 4, 3) := by decide +kernel
theorem dX10_meanError_12 : decode cX10_meanError 12 = .ok (.iconst 0, 1) := by decide +kernel
theorem dX10_meanError_13 : decode cX10_meanError 13 = .ok (.invokevirtual 178, 3) := by decide +kernel
theorem dX10_meanError_16 : decode cX10_meanError 16 = .ok (.ifCond .eq 7, 3) := by decide +kernel
theorem dX10_meanError_19 : decode cX10_meanError 19 = .ok (.dconst 0, 1) := by decide +kernel
theorem dX10_meanError_20 : decode cX10_meanError 20 = .ok (.goto 14, 3) := by decide +kernel
theorem dX10_meanError_23 : decode cX10_meanError 23 = .ok (.aload_n 0, 1) := by decide +kernel
theorem dX10_meanError_24 : decode cX10_meanError 24 = .ok (.getfield 263, 3) := by decide +kernel
theorem dX10_meanError_27 : decode cX10_meanError 27 = .ok (.l2d, 1) := by decide +kernel
theorem dX10_meanError_28 : decode cX10_meanError 28 = .ok (.aload_n 0, 1) := by decide +kernel
theorem dX10_meanError_29 : decode cX10_meanError 29 = .ok (.getfield 257, 3) := by decide +kernel
theorem dX10_meanError_32 : decode cX10_meanError 32 = .ok (.i2d, 1) := by decide +kernel
theorem dX10_meanError_33 : decode cX10_meanError 33 = .ok (.ddiv, 1) := by decide +kernel
theorem dX10_meanError_34 : decode cX10_meanError 34 = .ok (.dreturn, 1) := by decide +kernel
theorem dX10_isSound_0 : decode cX10_isSound 0 = .ok (.aload_n 0, 1) := by decide +kernel
theorem dX10_isSound_1 : decode cX10_isSound 1 = .ok (.iconst 0, 1) := by decide +kernel
theorem dX10_isSound_2 : decode cX10_isSound 2 = .ok (.putfield 88, 3) := by decide +kernel
theorem dX10_isSound_5 : decode cX10_isSound 5 = .ok (.iconst 1, 1) := by decide +kernel
theorem dX10_isSound_6 : decode cX10_isSound 6 = .ok (.ireturn, 1) := by decide +kernel
theorem dJ9_max_7cf53_0 : decode cJ9_max_7cf53 0 = .ok (.iload_n 0, 1) := by decide +kernel
theorem dJ9_max_7cf53_1 : decode cJ9_max_7cf53 1 = .ok (.iload_n 1, 1) := by decide +kernel
theorem dJ9_max_7cf53_2 : decode cJ9_max_7cf53 2 = .ok (.if_icmp .lt 7, 3) := by decide +kernel
theorem dJ9_max_7cf53_5 : decode cJ9_max_7cf53 5 = .ok (.iload_n 0, 1) := by decide +kernel
theorem dJ9_max_7cf53_6 : decode cJ9_max_7cf53 6 = .ok (.goto 4, 3) := by decide +kernel
theorem dJ9_max_7cf53_9 : decode cJ9_max_7cf53 9 = .ok (.iload_n 1, 1) := by decide +kernel
theorem dJ9_max_7cf53_10 : decode cJ9_max_7cf53 10 = .ok (.ireturn, 1) := by decide +kernel
theorem dJ9_min_7cf53_0 : decode cJ9_min_7cf53 0 = .ok (.iload_n 0, 1) := by decide +kernel
theorem dJ9_min_7cf53_1 : decode cJ9_min_7cf53 1 = .ok (.iload_n 1, 1) := by decide +kernel
theorem dJ9_min_7cf53_2 : decode cJ9_min_7cf53 2 = .ok (.if_icmp .gt 7, 3) := by decide +kernel
theorem dJ9_min_7cf53_5 : decode cJ9_min_7cf53 5 = .ok (.iload_n 0, 1) := by decide +kernel
theorem dJ9_min_7cf53_6 : decode cJ9_min_7cf53 6 = .ok (.goto 4, 3) := by decide +kernel
theorem dJ9_min_7cf53_9 : decode cJ9_min_7cf53 9 = .ok (.iload_n 1, 1) := by decide +kernel
theorem dJ9_min_7cf53_10 : decode cJ9_min_7cf53 10 = .ok (.ireturn, 1) := by decide +kernel
theorem dJ7_fill_53178_0 : decode cJ7_fill_53178 0 = .ok (.iconst 0, 1) := by decide +kernel
theorem dJ7_fill_53178_1 : decode cJ7_fill_53178 1 = .ok (.istore_n 2, 1) := by decide +kernel
theorem dJ7_fill_53178_2 : decode cJ7_fill_53178 2 = .ok (.aload_n 0, 1) := by decide +kernel
theorem dJ7_fill_53178_3 : decode cJ7_fill_53178 3 = .ok (.arraylength, 1) := by decide +kernel
theorem dJ7_fill_53178_4 : decode cJ7_fill_53178 4 = .ok (.istore_n 3, 1) := by decide +kernel
theorem dJ7_fill_53178_5 : decode cJ7_fill_53178 5 = .ok (.iload_n 2, 1) := by decide +kernel
theorem dJ7_fill_53178_6 : decode cJ7_fill_53178 6 = .ok (.iload_n 3, 1) := by decide +kernel
theorem dJ7_fill_53178_7 : decode cJ7_fill_53178 7 = .ok (.if_icmp .ge 13, 3) := by decide +kernel
theorem dJ7_fill_53178_10 : decode cJ7_fill_53178 10 = .ok (.aload_n 0, 1) := by decide +kernel
theorem dJ7_fill_53178_11 : decode cJ7_fill_53178 11 = .ok (.iload_n 2, 1) := by decide +kernel
theorem dJ7_fill_53178_12 : decode cJ7_fill_53178 12 = .ok (.iload_n 1, 1) := by decide +kernel
theorem dJ7_fill_53178_13 : decode cJ7_fill_53178 13 = .ok (.iastore, 1) := by decide +kernel
theorem dJ7_fill_53178_14 : decode cJ7_fill_53178 14 = .ok (.iinc 2 1, 3) := by decide +kernel
theorem dJ7_fill_53178_17 : decode cJ7_fill_53178 17 = .ok (.goto (-12), 3) := by decide +kernel
theorem dJ7_fill_53178_20 : decode cJ7_fill_53178 20 = .ok (.return_, 1) := by decide +kernel
theorem dJ7_fill_7f8df_0 : decode cJ7_fill_7f8df 0 = .ok (.iconst 0, 1) := by decide +kernel
theorem dJ7_fill_7f8df_1 : decode cJ7_fill_7f8df 1 = .ok (.istore_n 3, 1) := by decide +kernel
theorem dJ7_fill_7f8df_2 : decode cJ7_fill_7f8df 2 = .ok (.aload_n 0, 1) := by decide +kernel
theorem dJ7_fill_7f8df_3 : decode cJ7_fill_7f8df 3 = .ok (.arraylength, 1) := by decide +kernel
theorem dJ7_fill_7f8df_4 : decode cJ7_fill_7f8df 4 = .ok (.istore 4, 2) := by decide +kernel
theorem dJ7_fill_7f8df_6 : decode cJ7_fill_7f8df 6 = .ok (.iload_n 3, 1) := by decide +kernel
theorem dJ7_fill_7f8df_7 : decode cJ7_fill_7f8df 7 = .ok (.iload 4, 2) := by decide +kernel
theorem dJ7_fill_7f8df_9 : decode cJ7_fill_7f8df 9 = .ok (.if_icmp .ge 13, 3) := by decide +kernel
theorem dJ7_fill_7f8df_12 : decode cJ7_fill_7f8df 12 = .ok (.aload_n 0, 1) := by decide +kernel
theorem dJ7_fill_7f8df_13 : decode cJ7_fill_7f8df 13 = .ok (.iload_n 3, 1) := by decide +kernel
theorem dJ7_fill_7f8df_14 : decode cJ7_fill_7f8df 14 = .ok (.dload_n 1, 1) := by decide +kernel
theorem dJ7_fill_7f8df_15 : decode cJ7_fill_7f8df 15 = .ok (.dastore, 1) := by decide +kernel
theorem dJ7_fill_7f8df_16 : decode cJ7_fill_7f8df 16 = .ok (.iinc 3 1, 3) := by decide +kernel
theorem dJ7_fill_7f8df_19 : decode cJ7_fill_7f8df 19 = .ok (.goto (-13), 3) := by decide +kernel
theorem dJ7_fill_7f8df_22 : decode cJ7_fill_7f8df 22 = .ok (.return_, 1) := by decide +kernel
set_option maxRecDepth 20000 in
theorem ggL_start_X9_start : GoodIn wsL_start wsX9_start := goodIn_ca (goodIn_ca (goodIn_r _ [7, 8, 9, 10, 11, 12, 13, 14, 15, 16, 6, 17, 18, 19, 20, 21, 22, 23, 24, 25, 26, 27, 28, 29, 30, 31, 32, 33, 34, 35, 36, 37, 38, 39, 40, 41, 42, 43, 44, 45, 46, 47, 48, 49, 50, 51, 52, 53, 54, 55, 56, 57, 58, 59, 60, 61, 62, 63, 64, 65, 66, 67, 68, 69] (by decide +kernel) (by decide +kernel)) (goodIn_sub (fun _ h => List.mem_cons_of_mem _ (List.mem_append_left _ (List.mem_append_right _ h))) (by decide +kernel))) (goodIn_sub (fun _ h => List.mem_cons_of_mem _ (List.mem_append_right _ h)) (by decide +kernel))
set_option maxRecDepth 20000 in
theorem gL_start_X9_start : GoodIn wsL_start (wsV RL 7 RX9 yX9_start wsX9_start) := goodIn_app (goodIn_of _ (by decide +kernel)) ggL_start_X9_start
theorem dL_start_0 : decode cL_start 0 = .ok (.aload 4, 2) := by decide +kernel
theorem dL_start_2 : decode cL_start 2 = .ok (.iconst 0, 1) := by decide +kernel
theorem dL_start_3 : decode cL_start 3 = .ok (.aload_n 0, 1) := by decide +kernel
theorem dL_start_4 : decode cL_start 4 = .ok (.iload_n 1, 1) := by decide +kernel
theorem dL_start_5 : decode cL_start 5 = .ok (.iload_n 2, 1) := by decide +kernel
theorem dL_start_6 : decode cL_start 6 = .ok (.iload_n 3, 1) := by decide +kernel
theorem dL_start_7 : decode cL_start 7 = .ok (.invokevirtual 7, 3) := by decide +kernel
theorem dL_start_10 : decode cL_start 10 = .ok (.i2l, 1) := by decide +kernel
theorem dL_start_11 : decode cL_start 11 = .ok (.lastore, 1) := by decide +kernel
theorem dL_start_12 : decode cL_start 12 = .ok (.goto 11, 3) := by decide +kernel
theorem dL_start_15 : decode cL_start 15 = .ok (.astore 5, 2) := by decide +kernel
theorem dL_start_17 : decode cL_start 17 = .ok (.iconst 1, 1) := by decide +kernel
theorem dL_start_18 : decode cL_start 18 = .ok (.ireturn, 1) := by decide +kernel
theorem dL_start_19 : decode cL_start 19 = .ok (.astore 5, 2) := by decide +kernel
theorem dL_start_21 : decode cL_start 21 = .ok (.iconst 2, 1) := by decide +kernel
theorem dL_start_22 : decode cL_start 22 = .ok (.ireturn, 1) := by decide +kernel
theorem dL_start_23 : decode cL_start 23 = .ok (.iconst 0, 1) := by decide +kernel
theorem dL_start_24 : decode cL_start 24 = .ok (.ireturn, 1) := by decide +kernel
set_option maxRecDepth 20000 in
theorem ggL_begin_X9_begin : GoodIn wsL_begin wsX9_begin := goodIn_ca (goodIn_ca (goodIn_r _ [7, 8, 9, 10, 11, 12, 13, 14, 15, 16, 17, 18, 19, 6, 20, 21, 22, 23, 24, 25, 26, 27, 28, 29, 30, 31, 32, 33, 34, 35, 36, 37, 38, 39, 40, 41, 42, 43, 44, 45, 46, 47, 48, 49, 50, 51, 52, 53, 54, 55, 56, 57, 58, 59, 60, 61, 62, 63, 64, 65, 66, 67, 68, 69, 70, 71, 72, 73, 74, 75, 76, 77, 78, 79, 80, 81, 82, 83, 84, 85, 86, 87, 88, 89, 90, 91, 92, 93, 94, 95, 96, 97, 98, 99, 100, 101, 102, 103, 104, 105, 106, 107, 108, 109, 110, 111, 112, 113] (by decide +kernel) (by decide +kernel)) (goodIn_sub (fun _ h => List.mem_cons_of_mem _ (List.mem_append_left _ (List.mem_append_right _ h))) (by decide +kernel))) (goodIn_sub (fun _ h => List.mem_cons_of_mem _ (List.mem_append_right _ h)) (by decide +kernel))
set_option maxRecDepth 20000 in
theorem gL_begin_X9_begin : GoodIn wsL_begin (wsV RL 17 RX9 yX9_begin wsX9_begin) := goodIn_app (goodIn_of _ (by decide +kernel)) ggL_begin_X9_begin
theorem dL_begin_0 : decode cL_begin 0 = .ok (.aload_n 2, 1) := by decide +kernel
theorem dL_begin_1 : decode cL_begin 1 = .ok (.iconst 0, 1) := by decide +kernel
theorem dL_begin_2 : decode cL_begin 2 = .ok (.aload_n 0, 1) := by decide +kernel
theorem dL_begin_3 : decode cL_begin 3 = .ok (.iload_n 1, 1) := by decide +kernel
theorem dL_begin_4 : decode cL_begin 4 = .ok (.invokevirtual 17, 3) := by decide +kernel
theorem dL_begin_7 : decode cL_begin 7 = .ok (.ifCond .eq 7, 3) := by decide +kernel
theorem dL_begin_10 : decode cL_begin 10 = .ok (.lconst 1, 1) := by decide +kernel
theorem dL_begin_11 : decode cL_begin 11 = .ok (.goto 4, 3) := by decide +kernel
theorem dL_begin_14 : decode cL_begin 14 = .ok (.lconst 0, 1) := by decide +kernel
theorem dL_begin_15 : decode cL_begin 15 = .ok (.lastore, 1) := by decide +kernel
theorem dL_begin_16 : decode cL_begin 16 = .ok (.goto 9, 3) := by decide +kernel
theorem dL_begin_19 : decode cL_begin 19 = .ok (.astore_n 3, 1) := by decide +kernel
theorem dL_begin_20 : decode cL_begin 20 = .ok (.iconst 1, 1) := by decide +kernel
theorem dL_begin_21 : decode cL_begin 21 = .ok (.ireturn, 1) := by decide +kernel
theorem dL_begin_22 : decode cL_begin 22 = .ok (.astore_n 3, 1) := by decide +kernel
theorem dL_begin_23 : decode cL_begin 23 = .ok (.iconst 2, 1) := by decide +kernel
theorem dL_begin_24 : decode cL_begin 24 = .ok (.ireturn, 1) := by decide +kernel
theorem dL_begin_25 : decode cL_begin 25 = .ok (.iconst 0, 1) := by decide +kernel
theorem dL_begin_26 : decode cL_begin 26 = .ok (.ireturn, 1) := by decide +kernel
set_option maxRecDepth 20000 in
theorem ggL_turn_X9_turn : GoodIn wsL_turn wsX9_turn := goodIn_ca (goodIn_r _ [6, 7, 8, 9, 10, 11, 12, 13, 14, 15, 16, 17, 18, 19, 20, 21, 22, 23, 24, 25, 26, 27] (by decide +kernel) (by decide +kernel)) (goodIn_sub (fun _ h => List.mem_cons_of_mem _ (List.mem_append_right _ h)) (by decide +kernel))
set_option maxRecDepth 20000 in
theorem gL_turn_X9_turn : GoodIn wsL_turn (wsV RL 21 RX9 yX9_turn wsX9_turn) := goodIn_app (goodIn_of _ (by decide +kernel)) ggL_turn_X9_turn
theorem dL_turn_0 : decode cL_turn 0 = .ok (.aload_n 1, 1) := by decide +kernel
theorem dL_turn_1 : decode cL_turn 1 = .ok (.iconst 0, 1) := by decide +kernel
theorem dL_turn_2 : decode cL_turn 2 = .ok (.aload_n 0, 1) := by decide +kernel
theorem dL_turn_3 : decode cL_turn 3 = .ok (.invokevirtual 21, 3) := by decide +kernel
theorem dL_turn_6 : decode cL_turn 6 = .ok (.i2l, 1) := by decide +kernel
theorem dL_turn_7 : decode cL_turn 7 = .ok (.lastore, 1) := by decide +kernel
theorem dL_turn_8 : decode cL_turn 8 = .ok (.goto 6, 3) := by decide +kernel
theorem dL_turn_11 : decode cL_turn 11 = .ok (.astore_n 2, 1) := by decide +kernel
theorem dL_turn_12 : decode cL_turn 12 = .ok (.iconst 1, 1) := by decide +kernel
theorem dL_turn_13 : decode cL_turn 13 = .ok (.ireturn, 1) := by decide +kernel
theorem dL_turn_14 : decode cL_turn 14 = .ok (.iconst 0, 1) := by decide +kernel
theorem dL_turn_15 : decode cL_turn 15 = .ok (.ireturn, 1) := by decide +kernel
set_option maxRecDepth 20000 in
theorem ggL_score_X9_score : GoodIn wsL_score wsX9_score := goodIn_ca (goodIn_r _ [6, 7, 8, 9, 5, 10, 11, 12, 13, 14, 15, 16, 17, 18, 19, 20, 21, 22, 23, 24, 25, 26, 27, 28, 29, 30, 31, 32, 33, 34, 35, 36, 37, 38, 39, 40, 41, 42, 43] (by decide +kernel) (by decide +kernel)) (goodIn_sub (fun _ h => List.mem_cons_of_mem _ (List.mem_append_right _ h)) (by decide +kernel))
set_option maxRecDepth 20000 in
theorem gL_score_X9_score : GoodIn wsL_score (wsV RL 25 RX9 yX9_score wsX9_score) := goodIn_app (goodIn_of _ (by decide +kernel)) ggL_score_X9_score
theorem dL_score_0 : decode cL_score 0 = .ok (.aload_n 2, 1) := by decide +kernel
theorem dL_score_1 : decode cL_score 1 = .ok (.iconst 0, 1) := by decide +kernel
theorem dL_score_2 : decode cL_score 2 = .ok (.aload_n 0, 1) := by decide +kernel
theorem dL_score_3 : decode cL_score 3 = .ok (.iload_n 1, 1) := by decide +kernel
theorem dL_score_4 : decode cL_score 4 = .ok (.invokevirtual 25, 3) := by decide +kernel
theorem dL_score_7 : decode cL_score 7 = .ok (.i2l, 1) := by decide +kernel
theorem dL_score_8 : decode cL_score 8 = .ok (.lastore, 1) := by decide +kernel
theorem dL_score_9 : decode cL_score 9 = .ok (.goto 6, 3) := by decide +kernel
theorem dL_score_12 : decode cL_score 12 = .ok (.astore_n 3, 1) := by decide +kernel
theorem dL_score_13 : decode cL_score 13 = .ok (.iconst 1, 1) := by decide +kernel
theorem dL_score_14 : decode cL_score 14 = .ok (.ireturn, 1) := by decide +kernel
theorem dL_score_15 : decode cL_score 15 = .ok (.iconst 0, 1) := by decide +kernel
theorem dL_score_16 : decode cL_score 16 = .ok (.ireturn, 1) := by decide +kernel
set_option maxRecDepth 20000 in
theorem ggL_isOver_X9_isOver : GoodIn wsL_isOver wsX9_isOver := goodIn_ca (goodIn_r _ [6, 7, 8, 9, 10, 11, 12, 13, 14, 15, 16, 17, 18, 19, 20, 21, 22, 23, 24, 25, 26, 27, 28, 29, 30, 31, 32, 33, 34, 35, 36, 37, 38, 39, 40, 41, 42, 43, 44, 45, 46, 47, 48, 49, 50] (by decide +kernel) (by decide +kernel)) (goodIn_sub (fun _ h => List.mem_cons_of_mem _ (List.mem_append_right _ h)) (by decide +kernel))
set_option maxRecDepth 20000 in
theorem gL_isOver_X9_isOver : GoodIn wsL_isOver (wsV RL 29 RX9 yX9_isOver wsX9_isOver) := goodIn_app (goodIn_of _ (by decide +kernel)) ggL_isOver_X9_isOver
theorem dL_isOver_0 : decode cL_isOver 0 = .ok (.aload_n 1, 1) := by decide +kernel
theorem dL_isOver_1 : decode cL_isOver 1 = .ok (.iconst 0, 1) := by decide +kernel
theorem dL_isOver_2 : decode cL_isOver 2 = .ok (.aload_n 0, 1) := by decide +kernel
theorem dL_isOver_3 : decode cL_isOver 3 = .ok (.invokevirtual 29, 3) := by decide +kernel
theorem dL_isOver_6 : decode cL_isOver 6 = .ok (.ifCond .eq 7, 3) := by decide +kernel
theorem dL_isOver_9 : decode cL_isOver 9 = .ok (.lconst 1, 1) := by decide +kernel
theorem dL_isOver_10 : decode cL_isOver 10 = .ok (.goto 4, 3) := by decide +kernel
theorem dL_isOver_13 : decode cL_isOver 13 = .ok (.lconst 0, 1) := by decide +kernel
theorem dL_isOver_14 : decode cL_isOver 14 = .ok (.lastore, 1) := by decide +kernel
theorem dL_isOver_15 : decode cL_isOver 15 = .ok (.goto 6, 3) := by decide +kernel
theorem dL_isOver_18 : decode cL_isOver 18 = .ok (.astore_n 2, 1) := by decide +kernel
theorem dL_isOver_19 : decode cL_isOver 19 = .ok (.iconst 1, 1) := by decide +kernel
theorem dL_isOver_20 : decode cL_isOver 20 = .ok (.ireturn, 1) := by decide +kernel
theorem dL_isOver_21 : decode cL_isOver 21 = .ok (.iconst 0, 1) := by decide +kernel
theorem dL_isOver_22 : decode cL_isOver 22 = .ok (.ireturn, 1) := by decide +kernel
set_option maxRecDepth 20000 in
theorem ggL_roll_X9_roll : GoodIn wsL_roll wsX9_roll := goodIn_ca (goodIn_ca (goodIn_r _ [7, 8, 9, 10, 11, 12, 13, 14, 15, 16, 17, 18, 6, 19, 20, 21, 22, 23, 24, 25, 26, 27, 28, 29, 30, 31, 32, 33, 34, 35, 36, 37, 38, 39, 40, 41, 42, 43, 44, 45, 46, 47, 48, 49, 50, 51, 52, 53, 54, 55, 56, 57, 58, 59, 60, 61, 62, 63, 64, 65, 66, 67, 68, 69, 70, 71, 72, 73, 74, 75, 76, 77, 78, 79, 80, 81, 82, 83, 84, 85, 86, 87, 88, 89, 90, 91, 92, 93, 94, 95, 96, 97, 98, 99, 100, 101, 102, 103, 104, 105, 106, 107, 108, 109, 110, 111, 112, 113, 114, 115, 116, 117, 118, 119, 120, 121, 122, 123, 124, 125, 126, 127, 128, 129, 130, 131, 132, 133, 134, 135, 136, 137, 138, 139, 140, 141, 142, 143, 144, 145, 146, 147, 148, 149, 150, 151, 152, 153, 154, 155, 156, 157, 158, 159, 160, 161, 162, 163, 164, 165, 166, 167, 168, 169, 170, 171, 172, 173, 174, 175, 176, 177, 178, 179, 180, 181, 182, 183, 184, 185, 186, 187, 188, 189, 190, 191, 192, 193, 194, 195, 196, 197, 198, 199, 200, 201, 202] (by decide +kernel) (by decide +kernel)) (goodIn_sub (fun _ h => List.mem_cons_of_mem _ (List.mem_append_left _ (List.mem_append_right _ h))) (by decide +kernel))) (goodIn_sub (fun _ h => List.mem_cons_of_mem _ (List.mem_append_right _ h)) (by decide +kernel))
set_option maxRecDepth 20000 in
theorem gL_roll_X9_roll : GoodIn wsL_roll (wsV RL 33 RX9 yX9_roll wsX9_roll) := goodIn_app (goodIn_of _ (by decide +kernel)) ggL_roll_X9_roll
theorem dL_roll_0 : decode cL_roll 0 = .ok (.aload_n 3, 1) := by decide +kernel
theorem dL_roll_1 : decode cL_roll 1 = .ok (.iconst 0, 1) := by decide +kernel
theorem dL_roll_2 : decode cL_roll 2 = .ok (.aload_n 0, 1) := by decide +kernel
theorem dL_roll_3 : decode cL_roll 3 = .ok (.iload_n 1, 1) := by decide +kernel
theorem dL_roll_4 : decode cL_roll 4 = .ok (.iload_n 2, 1) := by decide +kernel
theorem dL_roll_5 : decode cL_roll 5 = .ok (.invokevirtual 33, 3) := by decide +kernel
theorem dL_roll_8 : decode cL_roll 8 = .ok (.i2l, 1) := by decide +kernel
theorem dL_roll_9 : decode cL_roll 9 = .ok (.lastore, 1) := by decide +kernel
theorem dL_roll_10 : decode cL_roll 10 = .ok (.goto 11, 3) := by decide +kernel
theorem dL_roll_13 : decode cL_roll 13 = .ok (.astore 4, 2) := by decide +kernel
theorem dL_roll_15 : decode cL_roll 15 = .ok (.iconst 1, 1) := by decide +kernel
theorem dL_roll_16 : decode cL_roll 16 = .ok (.ireturn, 1) := by decide +kernel
theorem dL_roll_17 : decode cL_roll 17 = .ok (.astore 4, 2) := by decide +kernel
theorem dL_roll_19 : decode cL_roll 19 = .ok (.iconst 2, 1) := by decide +kernel
theorem dL_roll_20 : decode cL_roll 20 = .ok (.ireturn, 1) := by decide +kernel
theorem dL_roll_21 : decode cL_roll 21 = .ok (.iconst 0, 1) := by decide +kernel
theorem dL_roll_22 : decode cL_roll 22 = .ok (.ireturn, 1) := by decide +kernel
set_option maxRecDepth 20000 in
theorem ggL_plays_X9_plays : GoodIn wsL_plays wsX9_plays := goodIn_ca (goodIn_r _ [6, 7, 8, 9, 10, 5, 11, 12, 13, 14, 15, 16, 17, 18, 19, 20, 21, 22, 23, 24, 25, 26, 27, 28, 29, 30, 31, 32, 33, 34, 35, 36, 37, 38, 39, 40, 41, 42, 43, 44, 45, 46, 47] (by decide +kernel) (by decide +kernel)) (goodIn_sub (fun _ h => List.mem_cons_of_mem _ (List.mem_append_right _ h)) (by decide +kernel))
set_option maxRecDepth 20000 in
theorem gL_plays_X9_plays : GoodIn wsL_plays (wsV RL 37 RX9 yX9_plays wsX9_plays) := goodIn_app (goodIn_of _ (by decide +kernel)) ggL_plays_X9_plays
theorem dL_plays_0 : decode cL_plays 0 = .ok (.aload_n 1, 1) := by decide +kernel
theorem dL_plays_1 : decode cL_plays 1 = .ok (.iconst 0, 1) := by decide +kernel
theorem dL_plays_2 : decode cL_plays 2 = .ok (.aload_n 0, 1) := by decide +kernel
theorem dL_plays_3 : decode cL_plays 3 = .ok (.invokevirtual 37, 3) := by decide +kernel
theorem dL_plays_6 : decode cL_plays 6 = .ok (.i2l, 1) := by decide +kernel
theorem dL_plays_7 : decode cL_plays 7 = .ok (.lastore, 1) := by decide +kernel
theorem dL_plays_8 : decode cL_plays 8 = .ok (.goto 6, 3) := by decide +kernel
theorem dL_plays_11 : decode cL_plays 11 = .ok (.astore_n 2, 1) := by decide +kernel
theorem dL_plays_12 : decode cL_plays 12 = .ok (.iconst 1, 1) := by decide +kernel
theorem dL_plays_13 : decode cL_plays 13 = .ok (.ireturn, 1) := by decide +kernel
theorem dL_plays_14 : decode cL_plays 14 = .ok (.iconst 0, 1) := by decide +kernel
theorem dL_plays_15 : decode cL_plays 15 = .ok (.ireturn, 1) := by decide +kernel
set_option maxRecDepth 20000 in
theorem ggL_moves_X9_moves : GoodIn wsL_moves wsX9_moves := goodIn_ca (goodIn_ca (goodIn_r _ [7, 8, 9, 10, 11, 6, 12, 13, 14, 15, 16, 17, 18, 19, 20, 21, 22, 23, 24, 25, 26, 27, 28, 29, 30, 31, 32, 33, 34, 35, 36, 37, 38, 39, 40, 41, 42, 43, 44, 45, 46, 47, 48, 49, 50, 51, 52, 53, 54, 55, 56, 57, 58, 59] (by decide +kernel) (by decide +kernel)) (goodIn_sub (fun _ h => List.mem_cons_of_mem _ (List.mem_append_left _ (List.mem_append_right _ h))) (by decide +kernel))) (goodIn_sub (fun _ h => List.mem_cons_of_mem _ (List.mem_append_right _ h)) (by decide +kernel))
set_option maxRecDepth 20000 in
theorem gL_moves_X9_moves : GoodIn wsL_moves (wsV RL 40 RX9 yX9_moves wsX9_moves) := goodIn_app (goodIn_of _ (by decide +kernel)) ggL_moves_X9_moves
theorem dL_moves_0 : decode cL_moves 0 = .ok (.aload_n 2, 1) := by decide +kernel
theorem dL_moves_1 : decode cL_moves 1 = .ok (.iconst 0, 1) := by decide +kernel
theorem dL_moves_2 : decode cL_moves 2 = .ok (.aload_n 0, 1) := by decide +kernel
theorem dL_moves_3 : decode cL_moves 3 = .ok (.iload_n 1, 1) := by decide +kernel
theorem dL_moves_4 : decode cL_moves 4 = .ok (.invokevirtual 40, 3) := by decide +kernel
theorem dL_moves_7 : decode cL_moves 7 = .ok (.i2l, 1) := by decide +kernel
theorem dL_moves_8 : decode cL_moves 8 = .ok (.lastore, 1) := by decide +kernel
theorem dL_moves_9 : decode cL_moves 9 = .ok (.goto 9, 3) := by decide +kernel
theorem dL_moves_12 : decode cL_moves 12 = .ok (.astore_n 3, 1) := by decide +kernel
theorem dL_moves_13 : decode cL_moves 13 = .ok (.iconst 1, 1) := by decide +kernel
theorem dL_moves_14 : decode cL_moves 14 = .ok (.ireturn, 1) := by decide +kernel
theorem dL_moves_15 : decode cL_moves 15 = .ok (.astore_n 3, 1) := by decide +kernel
theorem dL_moves_16 : decode cL_moves 16 = .ok (.iconst 2, 1) := by decide +kernel
theorem dL_moves_17 : decode cL_moves 17 = .ok (.ireturn, 1) := by decide +kernel
theorem dL_moves_18 : decode cL_moves 18 = .ok (.iconst 0, 1) := by decide +kernel
theorem dL_moves_19 : decode cL_moves 19 = .ok (.ireturn, 1) := by decide +kernel
set_option maxRecDepth 20000 in
theorem ggL_moveFrom_X9_moveFrom : GoodIn wsL_moveFrom wsX9_moveFrom := goodIn_ca (goodIn_ca (goodIn_r _ [7, 8, 9, 10, 6, 11, 12, 13, 14, 15, 16, 17, 18, 19, 20, 21, 22, 23, 24, 25, 26, 27, 28, 29, 30, 31, 32, 33, 34, 35, 36, 37, 38, 39, 40, 41, 42, 43, 44, 45, 46, 47, 48, 49, 50, 51, 52, 53, 54, 55, 56, 57, 58, 59, 60, 61, 62, 63, 64, 65, 66, 67, 68, 69, 70, 71, 72, 73, 74] (by decide +kernel) (by decide +kernel)) (goodIn_sub (fun _ h => List.mem_cons_of_mem _ (List.mem_append_left _ (List.mem_append_right _ h))) (by decide +kernel))) (goodIn_sub (fun _ h => List.mem_cons_of_mem _ (List.mem_append_right _ h)) (by decide +kernel))
set_option maxRecDepth 20000 in
theorem gL_moveFrom_X9_moveFrom : GoodIn wsL_moveFrom (wsV RL 45 RX9 yX9_moveFrom wsX9_moveFrom) := goodIn_app (goodIn_of _ (by decide +kernel)) ggL_moveFrom_X9_moveFrom
theorem dL_moveFrom_0 : decode cL_moveFrom 0 = .ok (.aload_n 3, 1) := by decide +kernel
theorem dL_moveFrom_1 : decode cL_moveFrom 1 = .ok (.iconst 0, 1) := by decide +kernel
theorem dL_moveFrom_2 : decode cL_moveFrom 2 = .ok (.aload_n 0, 1) := by decide +kernel
theorem dL_moveFrom_3 : decode cL_moveFrom 3 = .ok (.iload_n 1, 1) := by decide +kernel
theorem dL_moveFrom_4 : decode cL_moveFrom 4 = .ok (.iload_n 2, 1) := by decide +kernel
theorem dL_moveFrom_5 : decode cL_moveFrom 5 = .ok (.invokevirtual 45, 3) := by decide +kernel
theorem dL_moveFrom_8 : decode cL_moveFrom 8 = .ok (.i2l, 1) := by decide +kernel
theorem dL_moveFrom_9 : decode cL_moveFrom 9 = .ok (.lastore, 1) := by decide +kernel
theorem dL_moveFrom_10 : decode cL_moveFrom 10 = .ok (.goto 11, 3) := by decide +kernel
theorem dL_moveFrom_13 : decode cL_moveFrom 13 = .ok (.astore 4, 2) := by decide +kernel
theorem dL_moveFrom_15 : decode cL_moveFrom 15 = .ok (.iconst 1, 1) := by decide +kernel
theorem dL_moveFrom_16 : decode cL_moveFrom 16 = .ok (.ireturn, 1) := by decide +kernel
theorem dL_moveFrom_17 : decode cL_moveFrom 17 = .ok (.astore 4, 2) := by decide +kernel
theorem dL_moveFrom_19 : decode cL_moveFrom 19 = .ok (.iconst 2, 1) := by decide +kernel
theorem dL_moveFrom_20 : decode cL_moveFrom 20 = .ok (.ireturn, 1) := by decide +kernel
theorem dL_moveFrom_21 : decode cL_moveFrom 21 = .ok (.iconst 0, 1) := by decide +kernel
theorem dL_moveFrom_22 : decode cL_moveFrom 22 = .ok (.ireturn, 1) := by decide +kernel
set_option maxRecDepth 20000 in
theorem ggL_moveTo_X9_moveTo : GoodIn wsL_moveTo wsX9_moveTo := goodIn_ca (goodIn_ca (goodIn_r _ [7, 8, 9, 10, 11, 12, 13, 14, 6, 15, 16, 17, 18, 19, 20, 21, 22, 23, 24, 25, 26, 27, 28, 29, 30, 31, 32, 33, 34, 35, 36, 37, 38, 39, 40, 41, 42, 43, 44, 45, 46, 47, 48, 49, 50, 51, 52, 53, 54, 55, 56, 57, 58, 59, 60, 61, 62, 63, 64, 65, 66, 67, 68, 69, 70, 71, 72, 73, 74, 75, 76, 77, 78, 79, 80, 81] (by decide +kernel) (by decide +kernel)) (goodIn_sub (fun _ h => List.mem_cons_of_mem _ (List.mem_append_left _ (List.mem_append_right _ h))) (by decide +kernel))) (goodIn_sub (fun _ h => List.mem_cons_of_mem _ (List.mem_append_right _ h)) (by decide +kernel))
set_option maxRecDepth 20000 in
theorem gL_moveTo_X9_moveTo : GoodIn wsL_moveTo (wsV RL 48 RX9 yX9_moveTo wsX9_moveTo) := goodIn_app (goodIn_of _ (by decide +kernel)) ggL_moveTo_X9_moveTo
theorem dL_moveTo_0 : decode cL_moveTo 0 = .ok (.aload_n 3, 1) := by decide +kernel
theorem dL_moveTo_1 : decode cL_moveTo 1 = .ok (.iconst 0, 1) := by decide +kernel
theorem dL_moveTo_2 : decode cL_moveTo 2 = .ok (.aload_n 0, 1) := by decide +kernel
theorem dL_moveTo_3 : decode cL_moveTo 3 = .ok (.iload_n 1, 1) := by decide +kernel
theorem dL_moveTo_4 : decode cL_moveTo 4 = .ok (.iload_n 2, 1) := by decide +kernel
theorem dL_moveTo_5 : decode cL_moveTo 5 = .ok (.invokevirtual 48, 3) := by decide +kernel
theorem dL_moveTo_8 : decode cL_moveTo 8 = .ok (.i2l, 1) := by decide +kernel
theorem dL_moveTo_9 : decode cL_moveTo 9 = .ok (.lastore, 1) := by decide +kernel
theorem dL_moveTo_10 : decode cL_moveTo 10 = .ok (.goto 11, 3) := by decide +kernel
theorem dL_moveTo_13 : decode cL_moveTo 13 = .ok (.astore 4, 2) := by decide +kernel
theorem dL_moveTo_15 : decode cL_moveTo 15 = .ok (.iconst 1, 1) := by decide +kernel
theorem dL_moveTo_16 : decode cL_moveTo 16 = .ok (.ireturn, 1) := by decide +kernel
theorem dL_moveTo_17 : decode cL_moveTo 17 = .ok (.astore 4, 2) := by decide +kernel
theorem dL_moveTo_19 : decode cL_moveTo 19 = .ok (.iconst 2, 1) := by decide +kernel
theorem dL_moveTo_20 : decode cL_moveTo 20 = .ok (.ireturn, 1) := by decide +kernel
theorem dL_moveTo_21 : decode cL_moveTo 21 = .ok (.iconst 0, 1) := by decide +kernel
theorem dL_moveTo_22 : decode cL_moveTo 22 = .ok (.ireturn, 1) := by decide +kernel
set_option maxRecDepth 20000 in
theorem ggL_play_X9_play : GoodIn wsL_play wsX9_play := goodIn_ca (goodIn_ca (goodIn_r _ [7, 8, 9, 10, 6, 11, 12, 13, 14, 15, 16, 17, 18, 19, 20, 21, 22, 23, 24, 25, 26, 27, 28, 29, 30, 31, 32, 33, 34, 35, 36, 37, 38, 39, 40, 41, 42, 43, 44, 45, 46, 47, 48, 49, 50, 51, 52, 53, 54, 55, 56, 57, 58, 59, 60, 61, 62, 63, 64, 65, 66, 67, 68, 69, 70, 71, 72, 73, 74, 75, 76, 77, 78, 79, 80, 81, 82, 83, 84, 85, 86, 87, 88, 89, 90, 91, 92, 93, 94, 95, 96, 97, 98, 99, 100, 101, 102, 103, 104, 105, 106, 107, 108, 109, 110, 111, 112, 113, 114, 115, 116, 117, 118, 119, 120, 121, 122, 123, 124, 125, 126, 127, 128, 129, 130, 131, 132, 133, 134, 135, 136, 137, 138, 139, 140, 141, 142, 143, 144, 145, 146, 147, 148, 149, 150, 151, 152, 153, 154, 155, 156, 157, 158, 159, 160, 161, 162, 163, 164, 165, 166, 167, 168, 169, 170, 171, 172, 173, 174, 175, 176, 177, 178, 179, 180, 181, 182, 183, 184, 185, 186, 187, 188, 189, 190, 191, 192, 193, 194, 195, 196, 197, 198, 199, 200, 201, 202, 203, 204, 205, 206, 207, 208, 209, 210, 211, 212, 213, 214, 215, 216, 217, 218, 219, 220, 221, 222, 223, 224, 225, 226, 227, 228, 229] (by decide +kernel) (by decide +kernel)) (goodIn_sub (fun _ h => List.mem_cons_of_mem _ (List.mem_append_left _ (List.mem_append_right _ h))) (by decide +kernel))) (goodIn_sub (fun _ h => List.mem_cons_of_mem _ (List.mem_append_right _ h)) (by decide +kernel))
set_option maxRecDepth 20000 in
theorem gL_play_X9_play : GoodIn wsL_play (wsV RL 51 RX9 yX9_play wsX9_play) := goodIn_app (goodIn_of _ (by decide +kernel)) ggL_play_X9_play
theorem dL_play_0 : decode cL_play 0 = .ok (.aload_n 2, 1) := by decide +kernel
theorem dL_play_1 : decode cL_play 1 = .ok (.iconst 0, 1) := by decide +kernel
theorem dL_play_2 : decode cL_play 2 = .ok (.aload_n 0, 1) := by decide +kernel
theorem dL_play_3 : decode cL_play 3 = .ok (.iload_n 1, 1) := by decide +kernel
theorem dL_play_4 : decode cL_play 4 = .ok (.invokevirtual 51, 3) := by decide +kernel
theorem dL_play_7 : decode cL_play 7 = .ok (.i2l, 1) := by decide +kernel
theorem dL_play_8 : decode cL_play 8 = .ok (.lastore, 1) := by decide +kernel
theorem dL_play_9 : decode cL_play 9 = .ok (.goto 9, 3) := by decide +kernel
theorem dL_play_12 : decode cL_play 12 = .ok (.astore_n 3, 1) := by decide +kernel
theorem dL_play_13 : decode cL_play 13 = .ok (.iconst 1, 1) := by decide +kernel
theorem dL_play_14 : decode cL_play 14 = .ok (.ireturn, 1) := by decide +kernel
theorem dL_play_15 : decode cL_play 15 = .ok (.astore_n 3, 1) := by decide +kernel
theorem dL_play_16 : decode cL_play 16 = .ok (.iconst 2, 1) := by decide +kernel
theorem dL_play_17 : decode cL_play 17 = .ok (.ireturn, 1) := by decide +kernel
theorem dL_play_18 : decode cL_play 18 = .ok (.iconst 0, 1) := by decide +kernel
theorem dL_play_19 : decode cL_play 19 = .ok (.ireturn, 1) := by decide +kernel
set_option maxRecDepth 20000 in
theorem ggL_move_X9_move : GoodIn wsL_move wsX9_move := goodIn_ca (goodIn_ca (goodIn_r _ [7, 8, 9, 10, 11, 12, 13, 14, 15, 6, 16, 17, 18, 19, 20, 21, 22, 23, 24, 25, 26, 27, 28, 29, 30, 31, 32, 33, 34, 35, 36, 37, 38, 39, 40, 41, 42, 43, 44, 45, 46, 47, 48, 49, 50, 51, 52, 53, 54, 55, 56, 57, 58, 59, 60, 61, 62, 63, 64, 65, 66, 67, 68, 69, 70, 71, 72, 73, 74, 75, 76, 77, 78, 79, 80, 81, 82] (by decide +kernel) (by decide +kernel)) (goodIn_sub (fun _ h => List.mem_cons_of_mem _ (List.mem_append_left _ (List.mem_append_right _ h))) (by decide +kernel))) (goodIn_sub (fun _ h => List.mem_cons_of_mem _ (List.mem_append_right _ h)) (by decide +kernel))
set_option maxRecDepth 20000 in
theorem gL_move_X9_move : GoodIn wsL_move (wsV RL 54 RX9 yX9_move wsX9_move) := goodIn_app (goodIn_of _ (by decide +kernel)) ggL_move_X9_move
theorem dL_move_0 : decode cL_move 0 = .ok (.aload_n 3, 1) := by decide +kernel
theorem dL_move_1 : decode cL_move 1 = .ok (.iconst 0, 1) := by decide +kernel
theorem dL_move_2 : decode cL_move 2 = .ok (.aload_n 0, 1) := by decide +kernel
theorem dL_move_3 : decode cL_move 3 = .ok (.iload_n 1, 1) := by decide +kernel
theorem dL_move_4 : decode cL_move 4 = .ok (.iload_n 2, 1) := by decide +kernel
theorem dL_move_5 : decode cL_move 5 = .ok (.invokevirtual 54, 3) := by decide +kernel
theorem dL_move_8 : decode cL_move 8 = .ok (.ifCond .eq 7, 3) := by decide +kernel
theorem dL_move_11 : decode cL_move 11 = .ok (.lconst 1, 1) := by decide +kernel
theorem dL_move_12 : decode cL_move 12 = .ok (.goto 4, 3) := by decide +kernel
theorem dL_move_15 : decode cL_move 15 = .ok (.lconst 0, 1) := by decide +kernel
theorem dL_move_16 : decode cL_move 16 = .ok (.lastore, 1) := by decide +kernel
theorem dL_move_17 : decode cL_move 17 = .ok (.goto 11, 3) := by decide +kernel
theorem dL_move_20 : decode cL_move 20 = .ok (.astore 4, 2) := by decide +kernel
theorem dL_move_22 : decode cL_move 22 = .ok (.iconst 1, 1) := by decide +kernel
theorem dL_move_23 : decode cL_move 23 = .ok (.ireturn, 1) := by decide +kernel
theorem dL_move_24 : decode cL_move 24 = .ok (.astore 4, 2) := by decide +kernel
theorem dL_move_26 : decode cL_move 26 = .ok (.iconst 2, 1) := by decide +kernel
theorem dL_move_27 : decode cL_move 27 = .ok (.ireturn, 1) := by decide +kernel
theorem dL_move_28 : decode cL_move 28 = .ok (.iconst 0, 1) := by decide +kernel
theorem dL_move_29 : decode cL_move 29 = .ok (.ireturn, 1) := by decide +kernel
set_option maxRecDepth 20000 in
theorem ggL_undo_X9_undo : GoodIn wsL_undo wsX9_undo := goodIn_ca (goodIn_r _ [6, 7, 8, 9, 10, 11, 12, 5, 13, 14, 15, 16, 17, 18, 19, 20, 21, 22, 23, 24, 25, 26, 27, 28, 29, 30, 31, 32, 33, 34, 35, 36, 37, 38, 39, 40, 41, 42, 43, 44, 45, 46, 47, 48, 49, 50, 51, 52, 53, 54, 55] (by decide +kernel) (by decide +kernel)) (goodIn_sub (fun _ h => List.mem_cons_of_mem _ (List.mem_append_right _ h)) (by decide +kernel))
set_option maxRecDepth 20000 in
theorem gL_undo_X9_undo : GoodIn wsL_undo (wsV RL 60 RX9 yX9_undo wsX9_undo) := goodIn_app (goodIn_of _ (by decide +kernel)) ggL_undo_X9_undo
theorem dL_undo_0 : decode cL_undo 0 = .ok (.aload_n 1, 1) := by decide +kernel
theorem dL_undo_1 : decode cL_undo 1 = .ok (.iconst 0, 1) := by decide +kernel
theorem dL_undo_2 : decode cL_undo 2 = .ok (.aload_n 0, 1) := by decide +kernel
theorem dL_undo_3 : decode cL_undo 3 = .ok (.invokevirtual 60, 3) := by decide +kernel
theorem dL_undo_6 : decode cL_undo 6 = .ok (.i2l, 1) := by decide +kernel
theorem dL_undo_7 : decode cL_undo 7 = .ok (.lastore, 1) := by decide +kernel
theorem dL_undo_8 : decode cL_undo 8 = .ok (.goto 6, 3) := by decide +kernel
theorem dL_undo_11 : decode cL_undo 11 = .ok (.astore_n 2, 1) := by decide +kernel
theorem dL_undo_12 : decode cL_undo 12 = .ok (.iconst 1, 1) := by decide +kernel
theorem dL_undo_13 : decode cL_undo 13 = .ok (.ireturn, 1) := by decide +kernel
theorem dL_undo_14 : decode cL_undo 14 = .ok (.iconst 0, 1) := by decide +kernel
theorem dL_undo_15 : decode cL_undo 15 = .ok (.ireturn, 1) := by decide +kernel
set_option maxRecDepth 20000 in
theorem ggL_finish_X9_finish : GoodIn wsL_finish wsX9_finish := goodIn_ca (goodIn_ca (goodIn_r _ [7, 8, 9, 10, 11, 12, 6, 13, 14, 15, 16, 17, 18, 19, 20, 21, 22, 23, 24, 25, 26, 27, 28, 29, 30, 31, 32, 33, 34, 35, 36, 37, 38, 39, 40, 41, 42, 43, 44, 45, 46, 47, 48, 49, 50, 51, 52, 53, 54, 55, 56, 57, 58, 59, 60, 61, 62, 63, 64, 65, 66, 67, 68, 69, 70, 71, 72, 73, 74, 75, 76, 77, 78, 79, 80, 81, 82, 83, 84, 85, 86, 87, 88, 89, 90, 91, 92, 93, 94, 95, 96, 97, 98, 99, 100, 101, 102, 103, 104, 105, 106, 107, 108, 109, 110, 111, 112, 113, 114, 115, 116, 117, 118, 119, 120, 121, 122, 123, 124, 125, 126, 127, 128, 129, 130, 131, 132, 133, 134, 135, 136, 137, 138, 139, 140, 141, 142, 143, 144, 145, 146, 147, 148, 149, 150, 151, 152, 153, 154, 155, 156, 157, 158, 159, 160, 161, 162, 163, 164, 165, 166, 167, 168, 169, 170, 171, 172, 173, 174, 175, 176, 177, 178, 179, 180, 181, 182, 183, 184, 185, 186, 187, 188, 189, 190, 191, 192, 193, 194, 195, 196, 197, 198, 199, 200, 201, 202, 203, 204, 205, 206, 207, 208, 209, 210, 211, 212, 213, 214, 215, 216, 217, 218, 219, 220, 221, 222, 223, 224, 225, 226, 227, 228, 229, 230, 231, 232, 233, 234] (by decide +kernel) (by decide +kernel)) (goodIn_sub (fun _ h => List.mem_cons_of_mem _ (List.mem_append_left _ (List.mem_append_right _ h))) (by decide +kernel))) (goodIn_sub (fun _ h => List.mem_cons_of_mem _ (List.mem_append_right _ h)) (by decide +kernel))
set_option maxRecDepth 20000 in
theorem gL_finish_X9_finish : GoodIn wsL_finish (wsV RL 63 RX9 yX9_finish wsX9_finish) := goodIn_app (goodIn_of _ (by decide +kernel)) ggL_finish_X9_finish
theorem dL_finish_0 : decode cL_finish 0 = .ok (.aload_n 1, 1) := by decide +kernel
theorem dL_finish_1 : decode cL_finish 1 = .ok (.iconst 0, 1) := by decide +kernel
theorem dL_finish_2 : decode cL_finish 2 = .ok (.aload_n 0, 1) := by decide +kernel
theorem dL_finish_3 : decode cL_finish 3 = .ok (.invokevirtual 63, 3) := by decide +kernel
theorem dL_finish_6 : decode cL_finish 6 = .ok (.i2l, 1) := by decide +kernel
theorem dL_finish_7 : decode cL_finish 7 = .ok (.lastore, 1) := by decide +kernel
theorem dL_finish_8 : decode cL_finish 8 = .ok (.goto 9, 3) := by decide +kernel
theorem dL_finish_11 : decode cL_finish 11 = .ok (.astore_n 2, 1) := by decide +kernel
theorem dL_finish_12 : decode cL_finish 12 = .ok (.iconst 1, 1) := by decide +kernel
theorem dL_finish_13 : decode cL_finish 13 = .ok (.ireturn, 1) := by decide +kernel
theorem dL_finish_14 : decode cL_finish 14 = .ok (.astore_n 2, 1) := by decide +kernel
theorem dL_finish_15 : decode cL_finish 15 = .ok (.iconst 2, 1) := by decide +kernel
theorem dL_finish_16 : decode cL_finish 16 = .ok (.ireturn, 1) := by decide +kernel
theorem dL_finish_17 : decode cL_finish 17 = .ok (.iconst 0, 1) := by decide +kernel
theorem dL_finish_18 : decode cL_finish 18 = .ok (.ireturn, 1) := by decide +kernel
set_option maxRecDepth 20000 in
theorem ggL_men_X9_men : GoodIn wsL_men wsX9_men := goodIn_ca (goodIn_ca (goodIn_r _ [7, 8, 9, 10, 11, 12, 6, 13, 14, 15, 16, 17, 18, 19, 20, 21, 22, 23, 24, 25, 26, 27, 28, 29, 30, 31, 32, 33, 34, 35, 36, 37, 38, 39] (by decide +kernel) (by decide +kernel)) (goodIn_sub (fun _ h => List.mem_cons_of_mem _ (List.mem_append_left _ (List.mem_append_right _ h))) (by decide +kernel))) (goodIn_sub (fun _ h => List.mem_cons_of_mem _ (List.mem_append_right _ h)) (by decide +kernel))
set_option maxRecDepth 20000 in
theorem gL_men_X9_men : GoodIn wsL_men (wsV RL 66 RX9 yX9_men wsX9_men) := goodIn_app (goodIn_of _ (by decide +kernel)) ggL_men_X9_men
theorem dL_men_0 : decode cL_men 0 = .ok (.aload_n 3, 1) := by decide +kernel
theorem dL_men_1 : decode cL_men 1 = .ok (.iconst 0, 1) := by decide +kernel
theorem dL_men_2 : decode cL_men 2 = .ok (.aload_n 0, 1) := by decide +kernel
theorem dL_men_3 : decode cL_men 3 = .ok (.iload_n 1, 1) := by decide +kernel
theorem dL_men_4 : decode cL_men 4 = .ok (.iload_n 2, 1) := by decide +kernel
theorem dL_men_5 : decode cL_men 5 = .ok (.invokevirtual 66, 3) := by decide +kernel
theorem dL_men_8 : decode cL_men 8 = .ok (.i2l, 1) := by decide +kernel
theorem dL_men_9 : decode cL_men 9 = .ok (.lastore, 1) := by decide +kernel
theorem dL_men_10 : decode cL_men 10 = .ok (.goto 11, 3) := by decide +kernel
theorem dL_men_13 : decode cL_men 13 = .ok (.astore 4, 2) := by decide +kernel
theorem dL_men_15 : decode cL_men 15 = .ok (.iconst 1, 1) := by decide +kernel
theorem dL_men_16 : decode cL_men 16 = .ok (.ireturn, 1) := by decide +kernel
theorem dL_men_17 : decode cL_men 17 = .ok (.astore 4, 2) := by decide +kernel
theorem dL_men_19 : decode cL_men 19 = .ok (.iconst 2, 1) := by decide +kernel
theorem dL_men_20 : decode cL_men 20 = .ok (.ireturn, 1) := by decide +kernel
theorem dL_men_21 : decode cL_men 21 = .ok (.iconst 0, 1) := by decide +kernel
theorem dL_men_22 : decode cL_men 22 = .ok (.ireturn, 1) := by decide +kernel
set_option maxRecDepth 20000 in
theorem ggL_pips_X9_pips : GoodIn wsL_pips wsX9_pips := goodIn_ca (goodIn_r _ [6, 7, 8, 9, 5, 10, 11, 12, 13, 14, 15, 16, 17, 18, 19, 20, 21, 22, 23, 24, 25, 26, 27, 28, 29, 30, 31, 32, 33, 34, 35, 36, 37, 38, 39, 40] (by decide +kernel) (by decide +kernel)) (goodIn_sub (fun _ h => List.mem_cons_of_mem _ (List.mem_append_right _ h)) (by decide +kernel))
set_option maxRecDepth 20000 in
theorem gL_pips_X9_pips : GoodIn wsL_pips (wsV RL 69 RX9 yX9_pips wsX9_pips) := goodIn_app (goodIn_of _ (by decide +kernel)) ggL_pips_X9_pips
theorem dL_pips_0 : decode cL_pips 0 = .ok (.aload_n 2, 1) := by decide +kernel
theorem dL_pips_1 : decode cL_pips 1 = .ok (.iconst 0, 1) := by decide +kernel
theorem dL_pips_2 : decode cL_pips 2 = .ok (.aload_n 0, 1) := by decide +kernel
theorem dL_pips_3 : decode cL_pips 3 = .ok (.iload_n 1, 1) := by decide +kernel
theorem dL_pips_4 : decode cL_pips 4 = .ok (.invokevirtual 69, 3) := by decide +kernel
theorem dL_pips_7 : decode cL_pips 7 = .ok (.i2l, 1) := by decide +kernel
theorem dL_pips_8 : decode cL_pips 8 = .ok (.lastore, 1) := by decide +kernel
theorem dL_pips_9 : decode cL_pips 9 = .ok (.goto 6, 3) := by decide +kernel
theorem dL_pips_12 : decode cL_pips 12 = .ok (.astore_n 3, 1) := by decide +kernel
theorem dL_pips_13 : decode cL_pips 13 = .ok (.iconst 1, 1) := by decide +kernel
theorem dL_pips_14 : decode cL_pips 14 = .ok (.ireturn, 1) := by decide +kernel
theorem dL_pips_15 : decode cL_pips 15 = .ok (.iconst 0, 1) := by decide +kernel
theorem dL_pips_16 : decode cL_pips 16 = .ok (.ireturn, 1) := by decide +kernel
set_option maxRecDepth 20000 in
theorem ggL_offer_X9_offer : GoodIn wsL_offer wsX9_offer := goodIn_ca (goodIn_ca (goodIn_r _ [7, 8, 9, 10, 11, 12, 13, 14, 15, 16, 17, 6, 18, 19, 20, 21, 22, 23, 24, 25, 26, 27, 28, 29, 30, 31, 32, 33, 34, 35, 36, 37, 38, 39, 40, 41, 42, 43, 44, 45, 46, 47, 48, 49, 50] (by decide +kernel) (by decide +kernel)) (goodIn_sub (fun _ h => List.mem_cons_of_mem _ (List.mem_append_left _ (List.mem_append_right _ h))) (by decide +kernel))) (goodIn_sub (fun _ h => List.mem_cons_of_mem _ (List.mem_append_right _ h)) (by decide +kernel))
set_option maxRecDepth 20000 in
theorem gL_offer_X9_offer : GoodIn wsL_offer (wsV RL 72 RX9 yX9_offer wsX9_offer) := goodIn_app (goodIn_of _ (by decide +kernel)) ggL_offer_X9_offer
theorem dL_offer_0 : decode cL_offer 0 = .ok (.aload_n 1, 1) := by decide +kernel
theorem dL_offer_1 : decode cL_offer 1 = .ok (.iconst 0, 1) := by decide +kernel
theorem dL_offer_2 : decode cL_offer 2 = .ok (.aload_n 0, 1) := by decide +kernel
theorem dL_offer_3 : decode cL_offer 3 = .ok (.invokevirtual 72, 3) := by decide +kernel
theorem dL_offer_6 : decode cL_offer 6 = .ok (.i2l, 1) := by decide +kernel
theorem dL_offer_7 : decode cL_offer 7 = .ok (.lastore, 1) := by decide +kernel
theorem dL_offer_8 : decode cL_offer 8 = .ok (.goto 9, 3) := by decide +kernel
theorem dL_offer_11 : decode cL_offer 11 = .ok (.astore_n 2, 1) := by decide +kernel
theorem dL_offer_12 : decode cL_offer 12 = .ok (.iconst 1, 1) := by decide +kernel
theorem dL_offer_13 : decode cL_offer 13 = .ok (.ireturn, 1) := by decide +kernel
theorem dL_offer_14 : decode cL_offer 14 = .ok (.astore_n 2, 1) := by decide +kernel
theorem dL_offer_15 : decode cL_offer 15 = .ok (.iconst 2, 1) := by decide +kernel
theorem dL_offer_16 : decode cL_offer 16 = .ok (.ireturn, 1) := by decide +kernel
theorem dL_offer_17 : decode cL_offer 17 = .ok (.iconst 0, 1) := by decide +kernel
theorem dL_offer_18 : decode cL_offer 18 = .ok (.ireturn, 1) := by decide +kernel
set_option maxRecDepth 20000 in
theorem ggL_take_X9_take : GoodIn wsL_take wsX9_take := goodIn_ca (goodIn_r _ [6, 7, 8, 9, 5, 10, 11, 12, 13, 14, 15, 16, 17, 18, 19, 20, 21, 22, 23, 24, 25, 26, 27, 28, 29, 30, 31, 32, 33, 34, 35, 36, 37] (by decide +kernel) (by decide +kernel)) (goodIn_sub (fun _ h => List.mem_cons_of_mem _ (List.mem_append_right _ h)) (by decide +kernel))
set_option maxRecDepth 20000 in
theorem gL_take_X9_take : GoodIn wsL_take (wsV RL 75 RX9 yX9_take wsX9_take) := goodIn_app (goodIn_of _ (by decide +kernel)) ggL_take_X9_take
theorem dL_take_0 : decode cL_take 0 = .ok (.aload_n 1, 1) := by decide +kernel
theorem dL_take_1 : decode cL_take 1 = .ok (.iconst 0, 1) := by decide +kernel
theorem dL_take_2 : decode cL_take 2 = .ok (.aload_n 0, 1) := by decide +kernel
theorem dL_take_3 : decode cL_take 3 = .ok (.invokevirtual 75, 3) := by decide +kernel
theorem dL_take_6 : decode cL_take 6 = .ok (.i2l, 1) := by decide +kernel
theorem dL_take_7 : decode cL_take 7 = .ok (.lastore, 1) := by decide +kernel
theorem dL_take_8 : decode cL_take 8 = .ok (.goto 6, 3) := by decide +kernel
theorem dL_take_11 : decode cL_take 11 = .ok (.astore_n 2, 1) := by decide +kernel
theorem dL_take_12 : decode cL_take 12 = .ok (.iconst 1, 1) := by decide +kernel
theorem dL_take_13 : decode cL_take 13 = .ok (.ireturn, 1) := by decide +kernel
theorem dL_take_14 : decode cL_take 14 = .ok (.iconst 0, 1) := by decide +kernel
theorem dL_take_15 : decode cL_take 15 = .ok (.ireturn, 1) := by decide +kernel
set_option maxRecDepth 20000 in
theorem ggL_drop_X9_drop : GoodIn wsL_drop wsX9_drop := goodIn_ca (goodIn_r _ [6, 7, 8, 9, 10, 11, 5, 12, 13, 14, 15, 16, 17, 18, 19, 20, 21, 22, 23, 24, 25, 26, 27, 28, 29, 30, 31, 32, 33, 34, 35, 36, 37, 38, 39, 40, 41, 42, 43, 44, 45, 46, 47, 48, 49, 50, 51, 52, 53, 54, 55, 56, 57, 58, 59, 60, 61, 62, 63, 64, 65, 66, 67, 68, 69, 70, 71, 72, 73, 74, 75, 76, 77, 78, 79, 80, 81, 82] (by decide +kernel) (by decide +kernel)) (goodIn_sub (fun _ h => List.mem_cons_of_mem _ (List.mem_append_right _ h)) (by decide +kernel))
set_option maxRecDepth 20000 in
theorem gL_drop_X9_drop : GoodIn wsL_drop (wsV RL 78 RX9 yX9_drop wsX9_drop) := goodIn_app (goodIn_of _ (by decide +kernel)) ggL_drop_X9_drop
theorem dL_drop_0 : decode cL_drop 0 = .ok (.aload_n 1, 1) := by decide +kernel
theorem dL_drop_1 : decode cL_drop 1 = .ok (.iconst 0, 1) := by decide +kernel
theorem dL_drop_2 : decode cL_drop 2 = .ok (.aload_n 0, 1) := by decide +kernel
theorem dL_drop_3 : decode cL_drop 3 = .ok (.invokevirtual 78, 3) := by decide +kernel
theorem dL_drop_6 : decode cL_drop 6 = .ok (.i2l, 1) := by decide +kernel
theorem dL_drop_7 : decode cL_drop 7 = .ok (.lastore, 1) := by decide +kernel
theorem dL_drop_8 : decode cL_drop 8 = .ok (.goto 6, 3) := by decide +kernel
theorem dL_drop_11 : decode cL_drop 11 = .ok (.astore_n 2, 1) := by decide +kernel
theorem dL_drop_12 : decode cL_drop 12 = .ok (.iconst 1, 1) := by decide +kernel
theorem dL_drop_13 : decode cL_drop 13 = .ok (.ireturn, 1) := by decide +kernel
theorem dL_drop_14 : decode cL_drop 14 = .ok (.iconst 0, 1) := by decide +kernel
theorem dL_drop_15 : decode cL_drop 15 = .ok (.ireturn, 1) := by decide +kernel
set_option maxRecDepth 20000 in
theorem ggL_beaver_X9_beaver : GoodIn wsL_beaver wsX9_beaver := goodIn_ca (goodIn_ca (goodIn_r _ [7, 8, 9, 10, 11, 12, 13, 14, 6, 15, 16, 17, 18, 19, 20, 21, 22, 23, 24, 25, 26, 27, 28, 29, 30, 31, 32, 33, 34, 35, 36, 37, 38, 39, 40, 41, 42, 43, 44, 45, 46, 47, 48, 49, 50, 51, 52, 53, 54, 55] (by decide +kernel) (by decide +kernel)) (goodIn_sub (fun _ h => List.mem_cons_of_mem _ (List.mem_append_left _ (List.mem_append_right _ h))) (by decide +kernel))) (goodIn_sub (fun _ h => List.mem_cons_of_mem _ (List.mem_append_right _ h)) (by decide +kernel))
set_option maxRecDepth 20000 in
theorem gL_beaver_X9_beaver : GoodIn wsL_beaver (wsV RL 81 RX9 yX9_beaver wsX9_beaver) := goodIn_app (goodIn_of _ (by decide +kernel)) ggL_beaver_X9_beaver
theorem dL_beaver_0 : decode cL_beaver 0 = .ok (.aload_n 1, 1) := by decide +kernel
theorem dL_beaver_1 : decode cL_beaver 1 = .ok (.iconst 0, 1) := by decide +kernel
theorem dL_beaver_2 : decode cL_beaver 2 = .ok (.aload_n 0, 1) := by decide +kernel
theorem dL_beaver_3 : decode cL_beaver 3 = .ok (.invokevirtual 81, 3) := by decide +kernel
theorem dL_beaver_6 : decode cL_beaver 6 = .ok (.i2l, 1) := by decide +kernel
theorem dL_beaver_7 : decode cL_beaver 7 = .ok (.lastore, 1) := by decide +kernel
theorem dL_beaver_8 : decode cL_beaver 8 = .ok (.goto 9, 3) := by decide +kernel
theorem dL_beaver_11 : decode cL_beaver 11 = .ok (.astore_n 2, 1) := by decide +kernel
theorem dL_beaver_12 : decode cL_beaver 12 = .ok (.iconst 1, 1) := by decide +kernel
theorem dL_beaver_13 : decode cL_beaver 13 = .ok (.ireturn, 1) := by decide +kernel
theorem dL_beaver_14 : decode cL_beaver 14 = .ok (.astore_n 2, 1) := by decide +kernel
theorem dL_beaver_15 : decode cL_beaver 15 = .ok (.iconst 2, 1) := by decide +kernel
theorem dL_beaver_16 : decode cL_beaver 16 = .ok (.ireturn, 1) := by decide +kernel
theorem dL_beaver_17 : decode cL_beaver 17 = .ok (.iconst 0, 1) := by decide +kernel
theorem dL_beaver_18 : decode cL_beaver 18 = .ok (.ireturn, 1) := by decide +kernel
set_option maxRecDepth 20000 in
theorem ggL_worth_X9_worth : GoodIn wsL_worth wsX9_worth := goodIn_ca (goodIn_ca (goodIn_r _ [7, 8, 9, 10, 11, 12, 13, 6, 14, 15, 16, 17, 18, 19, 20, 21, 22, 23, 24, 25, 26, 27, 28, 29, 30, 31, 32, 33, 34, 35, 36, 37, 38, 39, 40] (by decide +kernel) (by decide +kernel)) (goodIn_sub (fun _ h => List.mem_cons_of_mem _ (List.mem_append_left _ (List.mem_append_right _ h))) (by decide +kernel))) (goodIn_sub (fun _ h => List.mem_cons_of_mem _ (List.mem_append_right _ h)) (by decide +kernel))
set_option maxRecDepth 20000 in
theorem gL_worth_X9_worth : GoodIn wsL_worth (wsV RL 84 RX9 yX9_worth wsX9_worth) := goodIn_app (goodIn_of _ (by decide +kernel)) ggL_worth_X9_worth
theorem dL_worth_0 : decode cL_worth 0 = .ok (.aload_n 2, 1) := by decide +kernel
theorem dL_worth_1 : decode cL_worth 1 = .ok (.iconst 0, 1) := by decide +kernel
theorem dL_worth_2 : decode cL_worth 2 = .ok (.aload_n 0, 1) := by decide +kernel
theorem dL_worth_3 : decode cL_worth 3 = .ok (.iload_n 1, 1) := by decide +kernel
theorem dL_worth_4 : decode cL_worth 4 = .ok (.invokevirtual 84, 3) := by decide +kernel
theorem dL_worth_7 : decode cL_worth 7 = .ok (.i2l, 1) := by decide +kernel
theorem dL_worth_8 : decode cL_worth 8 = .ok (.lastore, 1) := by decide +kernel
theorem dL_worth_9 : decode cL_worth 9 = .ok (.goto 9, 3) := by decide +kernel
theorem dL_worth_12 : decode cL_worth 12 = .ok (.astore_n 3, 1) := by decide +kernel
theorem dL_worth_13 : decode cL_worth 13 = .ok (.iconst 1, 1) := by decide +kernel
theorem dL_worth_14 : decode cL_worth 14 = .ok (.ireturn, 1) := by decide +kernel
theorem dL_worth_15 : decode cL_worth 15 = .ok (.astore_n 3, 1) := by decide +kernel
theorem dL_worth_16 : decode cL_worth 16 = .ok (.iconst 2, 1) := by decide +kernel
theorem dL_worth_17 : decode cL_worth 17 = .ok (.ireturn, 1) := by decide +kernel
theorem dL_worth_18 : decode cL_worth 18 = .ok (.iconst 0, 1) := by decide +kernel
theorem dL_worth_19 : decode cL_worth 19 = .ok (.ireturn, 1) := by decide +kernel
set_option maxRecDepth 20000 in
theorem ggL_best_X9_best : GoodIn wsL_best wsX9_best := goodIn_ca (goodIn_r _ [6, 7, 8, 9, 10, 5, 11, 12, 13, 14, 15, 16, 17, 18, 19, 20, 21, 22, 23, 24, 25, 26, 27, 28, 29, 30, 31, 32, 33, 34, 35, 36, 37, 38, 39, 40, 41, 42, 43, 44, 45, 46, 47] (by decide +kernel) (by decide +kernel)) (goodIn_sub (fun _ h => List.mem_cons_of_mem _ (List.mem_append_right _ h)) (by decide +kernel))
set_option maxRecDepth 20000 in
theorem gL_best_X9_best : GoodIn wsL_best (wsV RL 87 RX9 yX9_best wsX9_best) := goodIn_app (goodIn_of _ (by decide +kernel)) ggL_best_X9_best
theorem dL_best_0 : decode cL_best 0 = .ok (.aload_n 1, 1) := by decide +kernel
theorem dL_best_1 : decode cL_best 1 = .ok (.iconst 0, 1) := by decide +kernel
theorem dL_best_2 : decode cL_best 2 = .ok (.aload_n 0, 1) := by decide +kernel
theorem dL_best_3 : decode cL_best 3 = .ok (.invokevirtual 87, 3) := by decide +kernel
theorem dL_best_6 : decode cL_best 6 = .ok (.i2l, 1) := by decide +kernel
theorem dL_best_7 : decode cL_best 7 = .ok (.lastore, 1) := by decide +kernel
theorem dL_best_8 : decode cL_best 8 = .ok (.goto 6, 3) := by decide +kernel
theorem dL_best_11 : decode cL_best 11 = .ok (.astore_n 2, 1) := by decide +kernel
theorem dL_best_12 : decode cL_best 12 = .ok (.iconst 1, 1) := by decide +kernel
theorem dL_best_13 : decode cL_best 13 = .ok (.ireturn, 1) := by decide +kernel
theorem dL_best_14 : decode cL_best 14 = .ok (.iconst 0, 1) := by decide +kernel
theorem dL_best_15 : decode cL_best 15 = .ok (.ireturn, 1) := by decide +kernel
set_option maxRecDepth 20000 in
theorem ggL_error_X9_error : GoodIn wsL_error wsX9_error := goodIn_ca (goodIn_ca (goodIn_r _ [7, 8, 9, 10, 11, 6, 12, 13, 14, 15, 16, 17, 18, 19, 20, 21, 22, 23, 24, 25, 26, 27, 28, 29, 30, 31, 32, 33, 34, 35, 36, 37, 38, 39, 40, 41, 42, 43, 44, 45, 46, 47, 48, 49, 50, 51, 52, 53, 54, 55, 56, 57, 58, 59, 60, 61, 62, 63, 64, 65, 66, 67, 68] (by decide +kernel) (by decide +kernel)) (goodIn_sub (fun _ h => List.mem_cons_of_mem _ (List.mem_append_left _ (List.mem_append_right _ h))) (by decide +kernel))) (goodIn_sub (fun _ h => List.mem_cons_of_mem _ (List.mem_append_right _ h)) (by decide +kernel))
set_option maxRecDepth 20000 in
theorem gL_error_X9_error : GoodIn wsL_error (wsV RL 90 RX9 yX9_error wsX9_error) := goodIn_app (goodIn_of _ (by decide +kernel)) ggL_error_X9_error
theorem dL_error_0 : decode cL_error 0 = .ok (.aload_n 2, 1) := by decide +kernel
theorem dL_error_1 : decode cL_error 1 = .ok (.iconst 0, 1) := by decide +kernel
theorem dL_error_2 : decode cL_error 2 = .ok (.aload_n 0, 1) := by decide +kernel
theorem dL_error_3 : decode cL_error 3 = .ok (.iload_n 1, 1) := by decide +kernel
theorem dL_error_4 : decode cL_error 4 = .ok (.invokevirtual 90, 3) := by decide +kernel
theorem dL_error_7 : decode cL_error 7 = .ok (.i2l, 1) := by decide +kernel
theorem dL_error_8 : decode cL_error 8 = .ok (.lastore, 1) := by decide +kernel
theorem dL_error_9 : decode cL_error 9 = .ok (.goto 9, 3) := by decide +kernel
theorem dL_error_12 : decode cL_error 12 = .ok (.astore_n 3, 1) := by decide +kernel
theorem dL_error_13 : decode cL_error 13 = .ok (.iconst 1, 1) := by decide +kernel
theorem dL_error_14 : decode cL_error 14 = .ok (.ireturn, 1) := by decide +kernel
theorem dL_error_15 : decode cL_error 15 = .ok (.astore_n 3, 1) := by decide +kernel
theorem dL_error_16 : decode cL_error 16 = .ok (.iconst 2, 1) := by decide +kernel
theorem dL_error_17 : decode cL_error 17 = .ok (.ireturn, 1) := by decide +kernel
theorem dL_error_18 : decode cL_error 18 = .ok (.iconst 0, 1) := by decide +kernel
theorem dL_error_19 : decode cL_error 19 = .ok (.ireturn, 1) := by decide +kernel
set_option maxRecDepth 20000 in
theorem ggL_deep_X9_deep : GoodIn wsL_deep wsX9_deep := goodIn_ca (goodIn_ca (goodIn_r _ [7, 8, 9, 10, 11, 12, 13, 14, 15, 16, 6, 17, 18, 19, 20, 21, 22, 23, 24, 25, 26, 27, 28, 29, 30, 31, 32, 33, 34, 35, 36, 37, 38, 39, 40, 41, 42, 43, 44, 45, 46, 47, 48, 49, 50, 51, 52, 53, 54, 55, 56, 57, 58, 59, 60, 61, 62, 63, 64, 65, 66, 67, 68, 69, 70, 71, 72, 73, 74, 75, 76, 77, 78, 79, 80, 81, 82, 83, 84, 85, 86, 87, 88, 89, 90, 91, 92, 93, 94, 95, 96, 97, 98, 99, 100, 101, 102, 103, 104, 105, 106, 107, 108, 109, 110, 111, 112, 113, 114, 115, 116, 117, 118, 119, 120, 121, 122, 123, 124, 125, 126, 127, 128, 129, 130, 131, 132, 133, 134, 135, 136, 137, 138, 139, 140, 141, 142, 143, 144, 145, 146, 147, 148, 149, 150, 151, 152, 153, 154, 155, 156, 157, 158, 159, 160, 161, 162, 163, 164, 165, 166, 167, 168, 169, 170, 171, 172, 173, 174, 175, 176, 177, 178, 179] (by decide +kernel) (by decide +kernel)) (goodIn_sub (fun _ h => List.mem_cons_of_mem _ (List.mem_append_left _ (List.mem_append_right _ h))) (by decide +kernel))) (goodIn_sub (fun _ h => List.mem_cons_of_mem _ (List.mem_append_right _ h)) (by decide +kernel))
set_option maxRecDepth 20000 in
theorem gL_deep_X9_deep : GoodIn wsL_deep (wsV RL 93 RX9 yX9_deep wsX9_deep) := goodIn_app (goodIn_of _ (by decide +kernel)) ggL_deep_X9_deep
theorem dL_deep_0 : decode cL_deep 0 = .ok (.aload_n 2, 1) := by decide +kernel
theorem dL_deep_1 : decode cL_deep 1 = .ok (.iconst 0, 1) := by decide +kernel
theorem dL_deep_2 : decode cL_deep 2 = .ok (.aload_n 0, 1) := by decide +kernel
theorem dL_deep_3 : decode cL_deep 3 = .ok (.iload_n 1, 1) := by decide +kernel
theorem dL_deep_4 : decode cL_deep 4 = .ok (.invokevirtual 93, 3) := by decide +kernel
theorem dL_deep_7 : decode cL_deep 7 = .ok (.lastore, 1) := by decide +kernel
theorem dL_deep_8 : decode cL_deep 8 = .ok (.goto 9, 3) := by decide +kernel
theorem dL_deep_11 : decode cL_deep 11 = .ok (.astore_n 3, 1) := by decide +kernel
theorem dL_deep_12 : decode cL_deep 12 = .ok (.iconst 1, 1) := by decide +kernel
theorem dL_deep_13 : decode cL_deep 13 = .ok (.ireturn, 1) := by decide +kernel
theorem dL_deep_14 : decode cL_deep 14 = .ok (.astore_n 3, 1) := by decide +kernel
theorem dL_deep_15 : decode cL_deep 15 = .ok (.iconst 2, 1) := by decide +kernel
theorem dL_deep_16 : decode cL_deep 16 = .ok (.ireturn, 1) := by decide +kernel
theorem dL_deep_17 : decode cL_deep 17 = .ok (.iconst 0, 1) := by decide +kernel
theorem dL_deep_18 : decode cL_deep 18 = .ok (.ireturn, 1) := by decide +kernel
set_option maxRecDepth 20000 in
theorem ggL_chance_X9_chance : GoodIn wsL_chance wsX9_chance := goodIn_ca (goodIn_ca (goodIn_r _ [7, 8, 9, 10, 11, 12, 13, 14, 15, 6, 16, 17, 18, 19, 20, 21, 22, 23, 24, 25, 26, 27, 28, 29, 30, 31, 32, 33, 34, 35, 36, 37, 38, 39, 40, 41, 42, 43, 44, 45, 46, 47, 48, 49, 50, 51, 52, 53, 54, 55, 56, 57, 58, 59, 60, 61, 62, 63, 64, 65, 66, 67, 68, 69, 70, 71, 72, 73, 74, 75, 76, 77, 78, 79, 80, 81, 82, 83, 84, 85, 86, 87, 88, 89, 90, 91, 92, 93, 94, 95] (by decide +kernel) (by decide +kernel)) (goodIn_sub (fun _ h => List.mem_cons_of_mem _ (List.mem_append_left _ (List.mem_append_right _ h))) (by decide +kernel))) (goodIn_sub (fun _ h => List.mem_cons_of_mem _ (List.mem_append_right _ h)) (by decide +kernel))
set_option maxRecDepth 20000 in
theorem gL_chance_X9_chance : GoodIn wsL_chance (wsV RL 97 RX9 yX9_chance wsX9_chance) := goodIn_app (goodIn_of _ (by decide +kernel)) ggL_chance_X9_chance
theorem dL_chance_0 : decode cL_chance 0 = .ok (.aload_n 1, 1) := by decide +kernel
theorem dL_chance_1 : decode cL_chance 1 = .ok (.iconst 0, 1) := by decide +kernel
theorem dL_chance_2 : decode cL_chance 2 = .ok (.aload_n 0, 1) := by decide +kernel
theorem dL_chance_3 : decode cL_chance 3 = .ok (.invokevirtual 97, 3) := by decide +kernel
theorem dL_chance_6 : decode cL_chance 6 = .ok (.dastore, 1) := by decide +kernel
theorem dL_chance_7 : decode cL_chance 7 = .ok (.goto 9, 3) := by decide +kernel
theorem dL_chance_10 : decode cL_chance 10 = .ok (.astore_n 2, 1) := by decide +kernel
theorem dL_chance_11 : decode cL_chance 11 = .ok (.iconst 1, 1) := by decide +kernel
theorem dL_chance_12 : decode cL_chance 12 = .ok (.ireturn, 1) := by decide +kernel
theorem dL_chance_13 : decode cL_chance 13 = .ok (.astore_n 2, 1) := by decide +kernel
theorem dL_chance_14 : decode cL_chance 14 = .ok (.iconst 2, 1) := by decide +kernel
theorem dL_chance_15 : decode cL_chance 15 = .ok (.ireturn, 1) := by decide +kernel
theorem dL_chance_16 : decode cL_chance 16 = .ok (.iconst 0, 1) := by decide +kernel
theorem dL_chance_17 : decode cL_chance 17 = .ok (.ireturn, 1) := by decide +kernel
set_option maxRecDepth 20000 in
theorem ggL_setRate_X9_setRate : GoodIn wsL_setRate wsX9_setRate := goodIn_ca (goodIn_r _ [6, 7, 8, 9, 10, 11, 12, 13, 14, 15, 16, 17, 18, 19, 20, 21, 22, 23, 24, 25, 26, 27, 28, 29, 30, 31, 32, 33, 34] (by decide +kernel) (by decide +kernel)) (goodIn_sub (fun _ h => List.mem_cons_of_mem _ (List.mem_append_right _ h)) (by decide +kernel))
set_option maxRecDepth 20000 in
theorem gL_setRate_X9_setRate : GoodIn wsL_setRate (wsV RL 101 RX9 yX9_setRate wsX9_setRate) := goodIn_app (goodIn_of _ (by decide +kernel)) ggL_setRate_X9_setRate
theorem dL_setRate_0 : decode cL_setRate 0 = .ok (.aload_n 2, 1) := by decide +kernel
theorem dL_setRate_1 : decode cL_setRate 1 = .ok (.iconst 0, 1) := by decide +kernel
theorem dL_setRate_2 : decode cL_setRate 2 = .ok (.aload_n 0, 1) := by decide +kernel
theorem dL_setRate_3 : decode cL_setRate 3 = .ok (.iload_n 1, 1) := by decide +kernel
theorem dL_setRate_4 : decode cL_setRate 4 = .ok (.invokevirtual 101, 3) := by decide +kernel
theorem dL_setRate_7 : decode cL_setRate 7 = .ok (.i2l, 1) := by decide +kernel
theorem dL_setRate_8 : decode cL_setRate 8 = .ok (.lastore, 1) := by decide +kernel
theorem dL_setRate_9 : decode cL_setRate 9 = .ok (.goto 6, 3) := by decide +kernel
theorem dL_setRate_12 : decode cL_setRate 12 = .ok (.astore_n 3, 1) := by decide +kernel
theorem dL_setRate_13 : decode cL_setRate 13 = .ok (.iconst 1, 1) := by decide +kernel
theorem dL_setRate_14 : decode cL_setRate 14 = .ok (.ireturn, 1) := by decide +kernel
theorem dL_setRate_15 : decode cL_setRate 15 = .ok (.iconst 0, 1) := by decide +kernel
theorem dL_setRate_16 : decode cL_setRate 16 = .ok (.ireturn, 1) := by decide +kernel
set_option maxRecDepth 20000 in
theorem ggL_equity_X9_equity : GoodIn wsL_equity wsX9_equity := goodIn_ca (goodIn_r _ [6, 7, 8, 9, 10, 11, 12, 13, 14, 15, 16, 17, 18, 19, 20, 21, 22, 23, 24, 25, 26, 27, 28, 29, 30, 31, 32, 33, 34, 35, 36, 37, 38, 39, 40, 41] (by decide +kernel) (by decide +kernel)) (goodIn_sub (fun _ h => List.mem_cons_of_mem _ (List.mem_append_right _ h)) (by decide +kernel))
set_option maxRecDepth 20000 in
theorem gL_equity_X9_equity : GoodIn wsL_equity (wsV RL 104 RX9 yX9_equity wsX9_equity) := goodIn_app (goodIn_of _ (by decide +kernel)) ggL_equity_X9_equity
theorem dL_equity_0 : decode cL_equity 0 = .ok (.aload_n 3, 1) := by decide +kernel
theorem dL_equity_1 : decode cL_equity 1 = .ok (.iconst 0, 1) := by decide +kernel
theorem dL_equity_2 : decode cL_equity 2 = .ok (.aload_n 0, 1) := by decide +kernel
theorem dL_equity_3 : decode cL_equity 3 = .ok (.iload_n 1, 1) := by decide +kernel
theorem dL_equity_4 : decode cL_equity 4 = .ok (.iload_n 2, 1) := by decide +kernel
theorem dL_equity_5 : decode cL_equity 5 = .ok (.invokevirtual 104, 3) := by decide +kernel
theorem dL_equity_8 : decode cL_equity 8 = .ok (.lastore, 1) := by decide +kernel
theorem dL_equity_9 : decode cL_equity 9 = .ok (.goto 7, 3) := by decide +kernel
theorem dL_equity_12 : decode cL_equity 12 = .ok (.astore 4, 2) := by decide +kernel
theorem dL_equity_14 : decode cL_equity 14 = .ok (.iconst 1, 1) := by decide +kernel
theorem dL_equity_15 : decode cL_equity 15 = .ok (.ireturn, 1) := by decide +kernel
theorem dL_equity_16 : decode cL_equity 16 = .ok (.iconst 0, 1) := by decide +kernel
theorem dL_equity_17 : decode cL_equity 17 = .ok (.ireturn, 1) := by decide +kernel
set_option maxRecDepth 20000 in
theorem ggL_seat_X9_seat : GoodIn wsL_seat wsX9_seat := goodIn_ca (goodIn_ca (goodIn_r _ [7, 8, 9, 10, 11, 12, 13, 14, 15, 16, 17, 18, 19, 20, 21, 22, 23, 24, 25, 26, 27, 28, 29, 30, 31, 32, 33, 34, 35, 36, 37, 38, 39, 40, 41, 42, 43, 44, 45, 46, 47, 48, 49, 50, 51, 52, 53, 54, 55, 56, 57, 58, 59, 60, 61, 62, 63, 64, 65, 66, 67, 68, 69, 70, 71] (by decide +kernel) (by decide +kernel)) (goodIn_sub (fun _ h => List.mem_cons_of_mem _ (List.mem_append_left _ (List.mem_append_right _ h))) (by decide +kernel))) (goodIn_sub (fun _ h => List.mem_cons_of_mem _ (List.mem_append_right _ h)) (by decide +kernel))
set_option maxRecDepth 20000 in
theorem gL_seat_X9_seat : GoodIn wsL_seat (wsV RL 108 RX9 yX9_seat wsX9_seat) := goodIn_app (goodIn_of _ (by decide +kernel)) ggL_seat_X9_seat
theorem dL_seat_0 : decode cL_seat 0 = .ok (.aload_n 2, 1) := by decide +kernel
theorem dL_seat_1 : decode cL_seat 1 = .ok (.iconst 0, 1) := by decide +kernel
theorem dL_seat_2 : decode cL_seat 2 = .ok (.aload_n 0, 1) := by decide +kernel
theorem dL_seat_3 : decode cL_seat 3 = .ok (.iload_n 1, 1) := by decide +kernel
theorem dL_seat_4 : decode cL_seat 4 = .ok (.invokevirtual 108, 3) := by decide +kernel
theorem dL_seat_7 : decode cL_seat 7 = .ok (.i2l, 1) := by decide +kernel
theorem dL_seat_8 : decode cL_seat 8 = .ok (.lastore, 1) := by decide +kernel
theorem dL_seat_9 : decode cL_seat 9 = .ok (.goto 9, 3) := by decide +kernel
theorem dL_seat_12 : decode cL_seat 12 = .ok (.astore_n 3, 1) := by decide +kernel
theorem dL_seat_13 : decode cL_seat 13 = .ok (.iconst 1, 1) := by decide +kernel
theorem dL_seat_14 : decode cL_seat 14 = .ok (.ireturn, 1) := by decide +kernel
theorem dL_seat_15 : decode cL_seat 15 = .ok (.astore_n 3, 1) := by decide +kernel
theorem dL_seat_16 : decode cL_seat 16 = .ok (.iconst 2, 1) := by decide +kernel
theorem dL_seat_17 : decode cL_seat 17 = .ok (.ireturn, 1) := by decide +kernel
theorem dL_seat_18 : decode cL_seat 18 = .ok (.iconst 0, 1) := by decide +kernel
theorem dL_seat_19 : decode cL_seat 19 = .ok (.ireturn, 1) := by decide +kernel
set_option maxRecDepth 20000 in
theorem ggL_account_X9_account : GoodIn wsL_account wsX9_account := goodIn_ca (goodIn_r _ [6, 7, 8, 9, 10, 11, 12, 13, 14, 15, 16, 17, 18, 19, 20, 21, 22, 23, 24, 25, 26, 27, 28, 29, 30, 31, 32, 33, 34, 35, 36, 37, 38, 39, 40] (by decide +kernel) (by decide +kernel)) (goodIn_sub (fun _ h => List.mem_cons_of_mem _ (List.mem_append_right _ h)) (by decide +kernel))
set_option maxRecDepth 20000 in
theorem gL_account_X9_account : GoodIn wsL_account (wsV RL 111 RX9 yX9_account wsX9_account) := goodIn_app (goodIn_of _ (by decide +kernel)) ggL_account_X9_account
theorem dL_account_0 : decode cL_account 0 = .ok (.aload_n 2, 1) := by decide +kernel
theorem dL_account_1 : decode cL_account 1 = .ok (.iconst 0, 1) := by decide +kernel
theorem dL_account_2 : decode cL_account 2 = .ok (.aload_n 0, 1) := by decide +kernel
theorem dL_account_3 : decode cL_account 3 = .ok (.iload_n 1, 1) := by decide +kernel
theorem dL_account_4 : decode cL_account 4 = .ok (.invokevirtual 111, 3) := by decide +kernel
theorem dL_account_7 : decode cL_account 7 = .ok (.lastore, 1) := by decide +kernel
theorem dL_account_8 : decode cL_account 8 = .ok (.goto 6, 3) := by decide +kernel
theorem dL_account_11 : decode cL_account 11 = .ok (.astore_n 3, 1) := by decide +kernel
theorem dL_account_12 : decode cL_account 12 = .ok (.iconst 1, 1) := by decide +kernel
theorem dL_account_13 : decode cL_account 13 = .ok (.ireturn, 1) := by decide +kernel
theorem dL_account_14 : decode cL_account 14 = .ok (.iconst 0, 1) := by decide +kernel
theorem dL_account_15 : decode cL_account 15 = .ok (.ireturn, 1) := by decide +kernel
set_option maxRecDepth 20000 in
theorem ggL_box_X9_box : GoodIn wsL_box wsX9_box := goodIn_ca (goodIn_r _ [6, 7, 8, 9, 5, 10, 11, 12, 13, 14, 15, 16, 17, 18, 19, 20, 21, 22, 23, 24, 25, 26, 27, 28, 29, 30, 31, 32, 33, 34, 35, 36, 37, 38, 39, 40, 41, 42, 43, 44] (by decide +kernel) (by decide +kernel)) (goodIn_sub (fun _ h => List.mem_cons_of_mem _ (List.mem_append_right _ h)) (by decide +kernel))
set_option maxRecDepth 20000 in
theorem gL_box_X9_box : GoodIn wsL_box (wsV RL 114 RX9 yX9_box wsX9_box) := goodIn_app (goodIn_of _ (by decide +kernel)) ggL_box_X9_box
theorem dL_box_0 : decode cL_box 0 = .ok (.aload_n 1, 1) := by decide +kernel
theorem dL_box_1 : decode cL_box 1 = .ok (.iconst 0, 1) := by decide +kernel
theorem dL_box_2 : decode cL_box 2 = .ok (.aload_n 0, 1) := by decide +kernel
theorem dL_box_3 : decode cL_box 3 = .ok (.invokevirtual 114, 3) := by decide +kernel
theorem dL_box_6 : decode cL_box 6 = .ok (.i2l, 1) := by decide +kernel
theorem dL_box_7 : decode cL_box 7 = .ok (.lastore, 1) := by decide +kernel
theorem dL_box_8 : decode cL_box 8 = .ok (.goto 6, 3) := by decide +kernel
theorem dL_box_11 : decode cL_box 11 = .ok (.astore_n 2, 1) := by decide +kernel
theorem dL_box_12 : decode cL_box 12 = .ok (.iconst 1, 1) := by decide +kernel
theorem dL_box_13 : decode cL_box 13 = .ok (.ireturn, 1) := by decide +kernel
theorem dL_box_14 : decode cL_box 14 = .ok (.iconst 0, 1) := by decide +kernel
theorem dL_box_15 : decode cL_box 15 = .ok (.ireturn, 1) := by decide +kernel
set_option maxRecDepth 20000 in
theorem ggL_captain_X9_captain : GoodIn wsL_captain wsX9_captain := goodIn_ca (goodIn_r _ [6, 7, 8, 9, 5, 10, 11, 12, 13, 14, 15, 16, 17, 18, 19, 20, 21, 22, 23, 24, 25, 26, 27, 28, 29, 30, 31, 32, 33, 34, 35, 36, 37, 38, 39, 40, 41, 42, 43, 44] (by decide +kernel) (by decide +kernel)) (goodIn_sub (fun _ h => List.mem_cons_of_mem _ (List.mem_append_right _ h)) (by decide +kernel))
set_option maxRecDepth 20000 in
theorem gL_captain_X9_captain : GoodIn wsL_captain (wsV RL 119 RX9 yX9_captain wsX9_captain) := goodIn_app (goodIn_of _ (by decide +kernel)) ggL_captain_X9_captain
theorem dL_captain_0 : decode cL_captain 0 = .ok (.aload_n 1, 1) := by decide +kernel
theorem dL_captain_1 : decode cL_captain 1 = .ok (.iconst 0, 1) := by decide +kernel
theorem dL_captain_2 : decode cL_captain 2 = .ok (.aload_n 0, 1) := by decide +kernel
theorem dL_captain_3 : decode cL_captain 3 = .ok (.invokevirtual 119, 3) := by decide +kernel
theorem dL_captain_6 : decode cL_captain 6 = .ok (.i2l, 1) := by decide +kernel
theorem dL_captain_7 : decode cL_captain 7 = .ok (.lastore, 1) := by decide +kernel
theorem dL_captain_8 : decode cL_captain 8 = .ok (.goto 6, 3) := by decide +kernel
theorem dL_captain_11 : decode cL_captain 11 = .ok (.astore_n 2, 1) := by decide +kernel
theorem dL_captain_12 : decode cL_captain 12 = .ok (.iconst 1, 1) := by decide +kernel
theorem dL_captain_13 : decode cL_captain 13 = .ok (.ireturn, 1) := by decide +kernel
theorem dL_captain_14 : decode cL_captain 14 = .ok (.iconst 0, 1) := by decide +kernel
theorem dL_captain_15 : decode cL_captain 15 = .ok (.ireturn, 1) := by decide +kernel
set_option maxRecDepth 20000 in
theorem ggL_inLine_X9_inLine : GoodIn wsL_inLine wsX9_inLine := goodIn_ca (goodIn_r _ [6, 7, 8, 9, 5, 10, 11, 12, 13, 14, 15, 16, 17, 18, 19, 20, 21, 22, 23, 24, 25, 26, 27, 28, 29, 30, 31, 32, 33, 34, 35, 36, 37, 38, 39, 40, 41, 42, 43, 44] (by decide +kernel) (by decide +kernel)) (goodIn_sub (fun _ h => List.mem_cons_of_mem _ (List.mem_append_right _ h)) (by decide +kernel))
set_option maxRecDepth 20000 in
theorem gL_inLine_X9_inLine : GoodIn wsL_inLine (wsV RL 122 RX9 yX9_inLine wsX9_inLine) := goodIn_app (goodIn_of _ (by decide +kernel)) ggL_inLine_X9_inLine
theorem dL_inLine_0 : decode cL_inLine 0 = .ok (.aload_n 2, 1) := by decide +kernel
theorem dL_inLine_1 : decode cL_inLine 1 = .ok (.iconst 0, 1) := by decide +kernel
theorem dL_inLine_2 : decode cL_inLine 2 = .ok (.aload_n 0, 1) := by decide +kernel
theorem dL_inLine_3 : decode cL_inLine 3 = .ok (.iload_n 1, 1) := by decide +kernel
theorem dL_inLine_4 : decode cL_inLine 4 = .ok (.invokevirtual 122, 3) := by decide +kernel
theorem dL_inLine_7 : decode cL_inLine 7 = .ok (.i2l, 1) := by decide +kernel
theorem dL_inLine_8 : decode cL_inLine 8 = .ok (.lastore, 1) := by decide +kernel
theorem dL_inLine_9 : decode cL_inLine 9 = .ok (.goto 6, 3) := by decide +kernel
theorem dL_inLine_12 : decode cL_inLine 12 = .ok (.astore_n 3, 1) := by decide +kernel
theorem dL_inLine_13 : decode cL_inLine 13 = .ok (.iconst 1, 1) := by decide +kernel
theorem dL_inLine_14 : decode cL_inLine 14 = .ok (.ireturn, 1) := by decide +kernel
theorem dL_inLine_15 : decode cL_inLine 15 = .ok (.iconst 0, 1) := by decide +kernel
theorem dL_inLine_16 : decode cL_inLine 16 = .ok (.ireturn, 1) := by decide +kernel
set_option maxRecDepth 20000 in
theorem ggL_playedAt_X9_playedAt : GoodIn wsL_playedAt wsX9_playedAt := goodIn_ca (goodIn_r _ [6, 7, 8, 9, 10, 5, 11, 12, 13, 14, 15, 16, 17, 18, 19, 20, 21, 22, 23, 24, 25, 26, 27, 28, 29, 30, 31, 32, 33, 34, 35, 36, 37, 38, 39, 40, 41, 42, 43, 44, 45, 46, 47] (by decide +kernel) (by decide +kernel)) (goodIn_sub (fun _ h => List.mem_cons_of_mem _ (List.mem_append_right _ h)) (by decide +kernel))
set_option maxRecDepth 20000 in
theorem gL_playedAt_X9_playedAt : GoodIn wsL_playedAt (wsV RL 125 RX9 yX9_playedAt wsX9_playedAt) := goodIn_app (goodIn_of _ (by decide +kernel)) ggL_playedAt_X9_playedAt
theorem dL_playedAt_0 : decode cL_playedAt 0 = .ok (.aload_n 2, 1) := by decide +kernel
theorem dL_playedAt_1 : decode cL_playedAt 1 = .ok (.iconst 0, 1) := by decide +kernel
theorem dL_playedAt_2 : decode cL_playedAt 2 = .ok (.aload_n 0, 1) := by decide +kernel
theorem dL_playedAt_3 : decode cL_playedAt 3 = .ok (.iload_n 1, 1) := by decide +kernel
theorem dL_playedAt_4 : decode cL_playedAt 4 = .ok (.invokevirtual 125, 3) := by decide +kernel
theorem dL_playedAt_7 : decode cL_playedAt 7 = .ok (.i2l, 1) := by decide +kernel
theorem dL_playedAt_8 : decode cL_playedAt 8 = .ok (.lastore, 1) := by decide +kernel
theorem dL_playedAt_9 : decode cL_playedAt 9 = .ok (.goto 6, 3) := by decide +kernel
theorem dL_playedAt_12 : decode cL_playedAt 12 = .ok (.astore_n 3, 1) := by decide +kernel
theorem dL_playedAt_13 : decode cL_playedAt 13 = .ok (.iconst 1, 1) := by decide +kernel
theorem dL_playedAt_14 : decode cL_playedAt 14 = .ok (.ireturn, 1) := by decide +kernel
theorem dL_playedAt_15 : decode cL_playedAt 15 = .ok (.iconst 0, 1) := by decide +kernel
theorem dL_playedAt_16 : decode cL_playedAt 16 = .ok (.ireturn, 1) := by decide +kernel
set_option maxRecDepth 20000 in
theorem ggL_rolledAt_X9_rolledAt : GoodIn wsL_rolledAt wsX9_rolledAt := goodIn_ca (goodIn_r _ [6, 7, 8, 9, 10, 5, 11, 12, 13, 14, 15, 16, 17, 18, 19, 20, 21, 22, 23, 24, 25, 26, 27, 28, 29, 30, 31, 32, 33, 34, 35, 36, 37, 38, 39, 40, 41, 42, 43, 44, 45, 46, 47] (by decide +kernel) (by decide +kernel)) (goodIn_sub (fun _ h => List.mem_cons_of_mem _ (List.mem_append_right _ h)) (by decide +kernel))
set_option maxRecDepth 20000 in
theorem gL_rolledAt_X9_rolledAt : GoodIn wsL_rolledAt (wsV RL 128 RX9 yX9_rolledAt wsX9_rolledAt) := goodIn_app (goodIn_of _ (by decide +kernel)) ggL_rolledAt_X9_rolledAt
theorem dL_rolledAt_0 : decode cL_rolledAt 0 = .ok (.aload_n 2, 1) := by decide +kernel
theorem dL_rolledAt_1 : decode cL_rolledAt 1 = .ok (.iconst 0, 1) := by decide +kernel
theorem dL_rolledAt_2 : decode cL_rolledAt 2 = .ok (.aload_n 0, 1) := by decide +kernel
theorem dL_rolledAt_3 : decode cL_rolledAt 3 = .ok (.iload_n 1, 1) := by decide +kernel
theorem dL_rolledAt_4 : decode cL_rolledAt 4 = .ok (.invokevirtual 128, 3) := by decide +kernel
theorem dL_rolledAt_7 : decode cL_rolledAt 7 = .ok (.i2l, 1) := by decide +kernel
theorem dL_rolledAt_8 : decode cL_rolledAt 8 = .ok (.lastore, 1) := by decide +kernel
theorem dL_rolledAt_9 : decode cL_rolledAt 9 = .ok (.goto 6, 3) := by decide +kernel
theorem dL_rolledAt_12 : decode cL_rolledAt 12 = .ok (.astore_n 3, 1) := by decide +kernel
theorem dL_rolledAt_13 : decode cL_rolledAt 13 = .ok (.iconst 1, 1) := by decide +kernel
theorem dL_rolledAt_14 : decode cL_rolledAt 14 = .ok (.ireturn, 1) := by decide +kernel
theorem dL_rolledAt_15 : decode cL_rolledAt 15 = .ok (.iconst 0, 1) := by decide +kernel
theorem dL_rolledAt_16 : decode cL_rolledAt 16 = .ok (.ireturn, 1) := by decide +kernel
set_option maxRecDepth 20000 in
theorem ggL_hitShare_X9_hitShare : GoodIn wsL_hitShare wsX9_hitShare := goodIn_ca (goodIn_r _ [6, 7, 8, 9, 10, 11, 12, 13, 14, 15, 16, 17, 18, 19, 20, 21, 22, 23, 24, 25, 26, 27, 28, 29, 30, 31, 32, 33, 34, 35, 36, 37, 38, 39, 40, 41] (by decide +kernel) (by decide +kernel)) (goodIn_sub (fun _ h => List.mem_cons_of_mem _ (List.mem_append_right _ h)) (by decide +kernel))
set_option maxRecDepth 20000 in
theorem gL_hitShare_X9_hitShare : GoodIn wsL_hitShare (wsV RL 131 RX9 yX9_hitShare wsX9_hitShare) := goodIn_app (goodIn_of _ (by decide +kernel)) ggL_hitShare_X9_hitShare
theorem dL_hitShare_0 : decode cL_hitShare 0 = .ok (.aload_n 1, 1) := by decide +kernel
theorem dL_hitShare_1 : decode cL_hitShare 1 = .ok (.iconst 0, 1) := by decide +kernel
theorem dL_hitShare_2 : decode cL_hitShare 2 = .ok (.aload_n 0, 1) := by decide +kernel
theorem dL_hitShare_3 : decode cL_hitShare 3 = .ok (.invokevirtual 131, 3) := by decide +kernel
theorem dL_hitShare_6 : decode cL_hitShare 6 = .ok (.f2d, 1) := by decide +kernel
theorem dL_hitShare_7 : decode cL_hitShare 7 = .ok (.dastore, 1) := by decide +kernel
theorem dL_hitShare_8 : decode cL_hitShare 8 = .ok (.goto 6, 3) := by decide +kernel
theorem dL_hitShare_11 : decode cL_hitShare 11 = .ok (.astore_n 2, 1) := by decide +kernel
theorem dL_hitShare_12 : decode cL_hitShare 12 = .ok (.iconst 1, 1) := by decide +kernel
theorem dL_hitShare_13 : decode cL_hitShare 13 = .ok (.ireturn, 1) := by decide +kernel
theorem dL_hitShare_14 : decode cL_hitShare 14 = .ok (.iconst 0, 1) := by decide +kernel
theorem dL_hitShare_15 : decode cL_hitShare 15 = .ok (.ireturn, 1) := by decide +kernel
set_option maxRecDepth 20000 in
theorem ggL_meanError_X9_meanError : GoodIn wsL_meanError wsX9_meanError := goodIn_ca (goodIn_r _ [6, 7, 8, 9, 10, 11, 12, 13, 14, 15, 16, 17, 18, 19, 20, 21, 22, 23, 24, 25, 26, 27, 28, 29, 30, 31, 32, 33, 34, 35, 36, 37, 38, 39, 40, 41] (by decide +kernel) (by decide +kernel)) (goodIn_sub (fun _ h => List.mem_cons_of_mem _ (List.mem_append_right _ h)) (by decide +kernel))
set_option maxRecDepth 20000 in
theorem gL_meanError_X9_meanError : GoodIn wsL_meanError (wsV RL 135 RX9 yX9_meanError wsX9_meanError) := goodIn_app (goodIn_of _ (by decide +kernel)) ggL_meanError_X9_meanError
theorem dL_meanError_0 : decode cL_meanError 0 = .ok (.aload_n 1, 1) := by decide +kernel
theorem dL_meanError_1 : decode cL_meanError 1 = .ok (.iconst 0, 1) := by decide +kernel
theorem dL_meanError_2 : decode cL_meanError 2 = .ok (.aload_n 0, 1) := by decide +kernel
theorem dL_meanError_3 : decode cL_meanError 3 = .ok (.invokevirtual 135, 3) := by decide +kernel
theorem dL_meanError_6 : decode cL_meanError 6 = .ok (.dastore, 1) := by decide +kernel
theorem dL_meanError_7 : decode cL_meanError 7 = .ok (.goto 6, 3) := by decide +kernel
theorem dL_meanError_10 : decode cL_meanError 10 = .ok (.astore_n 2, 1) := by decide +kernel
theorem dL_meanError_11 : decode cL_meanError 11 = .ok (.iconst 1, 1) := by decide +kernel
theorem dL_meanError_12 : decode cL_meanError 12 = .ok (.ireturn, 1) := by decide +kernel
theorem dL_meanError_13 : decode cL_meanError 13 = .ok (.iconst 0, 1) := by decide +kernel
theorem dL_meanError_14 : decode cL_meanError 14 = .ok (.ireturn, 1) := by decide +kernel

