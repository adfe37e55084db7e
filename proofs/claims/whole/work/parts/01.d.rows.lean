theorem dX7_moveUp_0 : decode cX7_moveUp 0 = .ok (.aload_n 0, 1) := by decide +kernel
theorem dX7_moveUp_1 : decode cX7_moveUp 1 = .ok (.iload_n 1, 1) := by decide +kernel
theorem dX7_moveUp_2 : decode cX7_moveUp 2 = .ok (.invokevirtual 30, 3) := by decide +kernel
theorem dX7_moveUp_5 : decode cX7_moveUp 5 = .ok (.istore_n 2, 1) := by decide +kernel
theorem dX7_moveUp_6 : decode cX7_moveUp 6 = .ok (.iload_n 1, 1) := by decide +kernel
theorem dX7_moveUp_7 : decode cX7_moveUp 7 = .ok (.istore_n 3, 1) := by decide +kernel
theorem dX7_moveUp_8 : decode cX7_moveUp 8 = .ok (.iload_n 3, 1) := by decide +kernel
theorem dX7_moveUp_9 : decode cX7_moveUp 9 = .ok (.ifCond .lt 41, 3) := by decide +kernel
theorem dX7_moveUp_12 : decode cX7_moveUp 12 = .ok (.iload_n 3, 1) := by decide +kernel
theorem dX7_moveUp_13 : decode cX7_moveUp 13 = .ok (.iconst 1, 1) := by decide +kernel
theorem dX7_moveUp_14 : decode cX7_moveUp 14 = .ok (.iadd, 1) := by decide +kernel
theorem dX7_moveUp_15 : decode cX7_moveUp 15 = .ok (.aload_n 0, 1) := by decide +kernel
theorem dX7_moveUp_16 : decode cX7_moveUp 16 = .ok (.getfield 17, 3) := by decide +kernel
theorem dX7_moveUp_19 : decode cX7_moveUp 19 = .ok (.if_icmp .ge 31, 3) := by decide +kernel
theorem dX7_moveUp_22 : decode cX7_moveUp 22 = .ok (.iload_n 3, 1) := by decide +kernel
theorem dX7_moveUp_23 : decode cX7_moveUp 23 = .ok (.iconst 1, 1) := by decide +kernel
theorem dX7_moveUp_24 : decode cX7_moveUp 24 = .ok (.iadd, 1) := by decide +kernel
theorem dX7_moveUp_25 : decode cX7_moveUp 25 = .ok (.bipush 6, 2) := by decide +kernel
theorem dX7_moveUp_27 : decode cX7_moveUp 27 = .ok (.if_icmp .ge 23, 3) := by decide +kernel
theorem dX7_moveUp_30 : decode cX7_moveUp 30 = .ok (.aload_n 0, 1) := by decide +kernel
theorem dX7_moveUp_31 : decode cX7_moveUp 31 = .ok (.getfield 9, 3) := by decide +kernel
theorem dX7_moveUp_34 : decode cX7_moveUp 34 = .ok (.iload_n 3, 1) := by decide +kernel
theorem dX7_moveUp_35 : decode cX7_moveUp 35 = .ok (.aload_n 0, 1) := by decide +kernel
theorem dX7_moveUp_36 : decode cX7_moveUp 36 = .ok (.getfield 9, 3) := by decide +kernel
theorem dX7_moveUp_39 : decode cX7_moveUp 39 = .ok (.iload_n 3, 1) := by decide +kernel
theorem dX7_moveUp_40 : decode cX7_moveUp 40 = .ok (.iconst 1, 1) := by decide +kernel
theorem dX7_moveUp_41 : decode cX7_moveUp 41 = .ok (.iadd, 1) := by decide +kernel
theorem dX7_moveUp_42 : decode cX7_moveUp 42 = .ok (.iaload, 1) := by decide +kernel
theorem dX7_moveUp_43 : decode cX7_moveUp 43 = .ok (.iastore, 1) := by decide +kernel
theorem dX7_moveUp_44 : decode cX7_moveUp 44 = .ok (.iinc 3 1, 3) := by decide +kernel
theorem dX7_moveUp_47 : decode cX7_moveUp 47 = .ok (.goto (-39), 3) := by decide +kernel
theorem dX7_moveUp_50 : decode cX7_moveUp 50 = .ok (.aload_n 0, 1) := by decide +kernel
theorem dX7_moveUp_51 : decode cX7_moveUp 51 = .ok (.getfield 17, 3) := by decide +kernel
theorem dX7_moveUp_54 : decode cX7_moveUp 54 = .ok (.iconst 1, 1) := by decide +kernel
theorem dX7_moveUp_55 : decode cX7_moveUp 55 = .ok (.if_icmp .lt 24, 3) := by decide +kernel
theorem dX7_moveUp_58 : decode cX7_moveUp 58 = .ok (.aload_n 0, 1) := by decide +kernel
theorem dX7_moveUp_59 : decode cX7_moveUp 59 = .ok (.getfield 17, 3) := by decide +kernel
theorem dX7_moveUp_62 : decode cX7_moveUp 62 = .ok (.bipush 6, 2) := by decide +kernel
theorem dX7_moveUp_64 : decode cX7_moveUp 64 = .ok (.if_icmp .gt 15, 3) := by decide +kernel
theorem dX7_moveUp_67 : decode cX7_moveUp 67 = .ok (.aload_n 0, 1) := by decide +kernel
theorem dX7_moveUp_68 : decode cX7_moveUp 68 = .ok (.getfield 9, 3) := by decide +kernel
theorem dX7_moveUp_71 : decode cX7_moveUp 71 = .ok (.aload_n 0, 1) := by decide +kernel
theorem dX7_moveUp_72 : decode cX7_moveUp 72 = .ok (.getfield 17, 3) := by decide +kernel
theorem dX7_moveUp_75 : decode cX7_moveUp 75 = .ok (.iconst 1, 1) := by decide +kernel
theorem dX7_moveUp_76 : decode cX7_moveUp 76 = .ok (.isub, 1) := by decide +kernel
theorem dX7_moveUp_77 : decode cX7_moveUp 77 = .ok (.iload_n 2, 1) := by decide +kernel
theorem dX7_moveUp_78 : decode cX7_moveUp 78 = .ok (.iastore, 1) := by decide +kernel
theorem dX7_moveUp_79 : decode cX7_moveUp 79 = .ok (.return_, 1) := by decide +kernel
theorem dX8_init_0 : decode cX8_init 0 = .ok (.aload_n 0, 1) := by decide +kernel
theorem dX8_init_1 : decode cX8_init 1 = .ok (.invokespecial 3, 3) := by decide +kernel
theorem dX8_init_4 : decode cX8_init 4 = .ok (.aload_n 0, 1) := by decide +kernel
theorem dX8_init_5 : decode cX8_init 5 = .ok (.bipush 7, 2) := by decide +kernel
theorem dX8_init_7 : decode cX8_init 7 = .ok (.newarray .int, 2) := by decide +kernel
theorem dX8_init_9 : decode cX8_init 9 = .ok (.putfield 9, 3) := by decide +kernel
theorem dX8_init_12 : decode cX8_init 12 = .ok (.aload_n 0, 1) := by decide +kernel
theorem dX8_init_13 : decode cX8_init 13 = .ok (.iconst 0, 1) := by decide +kernel
theorem dX8_init_14 : decode cX8_init 14 = .ok (.putfield 15, 3) := by decide +kernel
theorem dX8_init_17 : decode cX8_init 17 = .ok (.aload_n 0, 1) := by decide +kernel
theorem dX8_init_18 : decode cX8_init 18 = .ok (.iconst 0, 1) := by decide +kernel
theorem dX8_init_19 : decode cX8_init 19 = .ok (.putfield 19, 3) := by decide +kernel
theorem dX8_init_22 : decode cX8_init 22 = .ok (.aload_n 0, 1) := by decide +kernel
theorem dX8_init_23 : decode cX8_init 23 = .ok (.lconst 0, 1) := by decide +kernel
theorem dX8_init_24 : decode cX8_init 24 = .ok (.putfield 22, 3) := by decide +kernel
theorem dX8_init_27 : decode cX8_init 27 = .ok (.return_, 1) := by decide +kernel
set_option maxRecDepth 20000 in
theorem ggX8_countRoll_X8_countFace : GoodIn wsX8_countRoll wsX8_countFace := goodIn_r _ [5, 6, 7, 8, 9, 10] (by decide +kernel) (by decide +kernel)
set_option maxRecDepth 20000 in
theorem gX8_countRoll_X8_countFace : GoodIn wsX8_countRoll (wsV RX8 26 RX8 yX8_countFace wsX8_countFace) := goodIn_app (goodIn_of _ (by decide +kernel)) ggX8_countRoll_X8_countFace
theorem dX8_countRoll_0 : decode cX8_countRoll 0 = .ok (.aload_n 0, 1) := by decide +kernel
theorem dX8_countRoll_1 : decode cX8_countRoll 1 = .ok (.iload_n 1, 1) := by decide +kernel
theorem dX8_countRoll_2 : decode cX8_countRoll 2 = .ok (.invokevirtual 26, 3) := by decide +kernel
theorem dX8_countRoll_5 : decode cX8_countRoll 5 = .ok (.aload_n 0, 1) := by decide +kernel
theorem dX8_countRoll_6 : decode cX8_countRoll 6 = .ok (.iload_n 2, 1) := by decide +kernel
theorem dX8_countRoll_7 : decode cX8_countRoll 7 = .ok (.invokevirtual 26, 3) := by decide +kernel
theorem dX8_countRoll_10 : decode cX8_countRoll 10 = .ok (.return_, 1) := by decide +kernel
theorem dX8_countFace_0 : decode cX8_countFace 0 = .ok (.iload_n 1, 1) := by decide +kernel
theorem dX8_countFace_1 : decode cX8_countFace 1 = .ok (.iconst 1, 1) := by decide +kernel
theorem dX8_countFace_2 : decode cX8_countFace 2 = .ok (.if_icmp .lt 19, 3) := by decide +kernel
theorem dX8_countFace_5 : decode cX8_countFace 5 = .ok (.iload_n 1, 1) := by decide +kernel
theorem dX8_countFace_6 : decode cX8_countFace 6 = .ok (.bipush 6, 2) := by decide +kernel
theorem dX8_countFace_8 : decode cX8_countFace 8 = .ok (.if_icmp .gt 13, 3) := by decide +kernel
theorem dX8_countFace_11 : decode cX8_countFace 11 = .ok (.aload_n 0, 1) := by decide +kernel
theorem dX8_countFace_12 : decode cX8_countFace 12 = .ok (.getfield 9, 3) := by decide +kernel
theorem dX8_countFace_15 : decode cX8_countFace 15 = .ok (.iload_n 1, 1) := by decide +kernel
theorem dX8_countFace_16 : decode cX8_countFace 16 = .ok (.dup2, 1) := by decide +kernel
theorem dX8_countFace_17 : decode cX8_countFace 17 = .ok (.iaload, 1) := by decide +kernel
theorem dX8_countFace_18 : decode cX8_countFace 18 = .ok (.iconst 1, 1) := by decide +kernel
theorem dX8_countFace_19 : decode cX8_countFace 19 = .ok (.iadd, 1) := by decide +kernel
theorem dX8_countFace_20 : decode cX8_countFace 20 = .ok (.iastore, 1) := by decide +kernel
theorem dX8_countFace_21 : decode cX8_countFace 21 = .ok (.return_, 1) := by decide +kernel
theorem dX8_countPlay_0 : decode cX8_countPlay 0 = .ok (.aload_n 0, 1) := by decide +kernel
theorem dX8_countPlay_1 : decode cX8_countPlay 1 = .ok (.dup, 1) := by decide +kernel
theorem dX8_countPlay_2 : decode cX8_countPlay 2 = .ok (.getfield 15, 3) := by decide +kernel
theorem dX8_countPlay_5 : decode cX8_countPlay 5 = .ok (.iconst 1, 1) := by decide +kernel
theorem dX8_countPlay_6 : decode cX8_countPlay 6 = .ok (.iadd, 1) := by decide +kernel
theorem dX8_countPlay_7 : decode cX8_countPlay 7 = .ok (.putfield 15, 3) := by decide +kernel
theorem dX8_countPlay_10 : decode cX8_countPlay 10 = .ok (.aload_n 0, 1) := by decide +kernel
theorem dX8_countPlay_11 : decode cX8_countPlay 11 = .ok (.dup, 1) := by decide +kernel
theorem dX8_countPlay_12 : decode cX8_countPlay 12 = .ok (.getfield 19, 3) := by decide +kernel
theorem dX8_countPlay_15 : decode cX8_countPlay 15 = .ok (.iload_n 1, 1) := by decide +kernel
theorem dX8_countPlay_16 : decode cX8_countPlay 16 = .ok (.ifCond .le 7, 3) := by decide +kernel
theorem dX8_countPlay_19 : decode cX8_countPlay 19 = .ok (.iconst 1, 1) := by decide +kernel
theorem dX8_countPlay_20 : decode cX8_countPlay 20 = .ok (.goto 4, 3) := by decide +kernel
theorem dX8_countPlay_23 : decode cX8_countPlay 23 = .ok (.iconst 0, 1) := by decide +kernel
theorem dX8_countPlay_24 : decode cX8_countPlay 24 = .ok (.iadd, 1) := by decide +kernel
theorem dX8_countPlay_25 : decode cX8_countPlay 25 = .ok (.putfield 19, 3) := by decide +kernel
theorem dX8_countPlay_28 : decode cX8_countPlay 28 = .ok (.aload_n 0, 1) := by decide +kernel
theorem dX8_countPlay_29 : decode cX8_countPlay 29 = .ok (.dup, 1) := by decide +kernel
theorem dX8_countPlay_30 : decode cX8_countPlay 30 = .ok (.getfield 22, 3) := by decide +kernel
theorem dX8_countPlay_33 : decode cX8_countPlay 33 = .ok (.iload_n 2, 1) := by decide +kernel
theorem dX8_countPlay_34 : decode cX8_countPlay 34 = .ok (.i2l, 1) := by decide +kernel
theorem dX8_countPlay_35 : decode cX8_countPlay 35 = .ok (.ladd, 1) := by decide +kernel
theorem dX8_countPlay_36 : decode cX8_countPlay 36 = .ok (.putfield 22, 3) := by decide +kernel
theorem dX8_countPlay_39 : decode cX8_countPlay 39 = .ok (.return_, 1) := by decide +kernel
theorem dX8_allPlays_0 : decode cX8_allPlays 0 = .ok (.aload_n 0, 1) := by decide +kernel
theorem dX8_allPlays_1 : decode cX8_allPlays 1 = .ok (.getfield 15, 3) := by decide +kernel
theorem dX8_allPlays_4 : decode cX8_allPlays 4 = .ok (.ireturn, 1) := by decide +kernel
theorem dX8_hitting_0 : decode cX8_hitting 0 = .ok (.aload_n 0, 1) := by decide +kernel
theorem dX8_hitting_1 : decode cX8_hitting 1 = .ok (.getfield 19, 3) := by decide +kernel
theorem dX8_hitting_4 : decode cX8_hitting 4 = .ok (.ireturn, 1) := by decide +kernel
theorem dX8_errors_0 : decode cX8_errors 0 = .ok (.aload_n 0, 1) := by decide +kernel
theorem dX8_errors_1 : decode cX8_errors 1 = .ok (.getfield 22, 3) := by decide +kernel
theorem dX8_errors_4 : decode cX8_errors 4 = .ok (.lreturn, 1) := by decide +kernel
theorem dX8_unevenness_0 : decode cX8_unevenness 0 = .ok (.lconst 0, 1) := by decide +kernel
theorem dX8_unevenness_1 : decode cX8_unevenness 1 = .ok (.lstore_n 1, 1) := by decide +kernel
theorem dX8_unevenness_2 : decode cX8_unevenness 2 = .ok (.iconst 1, 1) := by decide +kernel
theorem dX8_unevenness_3 : decode cX8_unevenness 3 = .ok (.istore_n 3, 1) := by decide +kernel
theorem dX8_unevenness_4 : decode cX8_unevenness 4 = .ok (.iload_n 3, 1) := by decide +kernel
theorem dX8_unevenness_5 : decode cX8_unevenness 5 = .ok (.bipush 6, 2) := by decide +kernel
theorem dX8_unevenness_7 : decode cX8_unevenness 7 = .ok (.if_icmp .gt 19, 3) := by decide +kernel
theorem dX8_unevenness_10 : decode cX8_unevenness 10 = .ok (.lload_n 1, 1) := by decide +kernel
theorem dX8_unevenness_11 : decode cX8_unevenness 11 = .ok (.aload_n 0, 1) := by decide +kernel
theorem dX8_unevenness_12 : decode cX8_unevenness 12 = .ok (.getfield 9, 3) := by decide +kernel
theorem dX8_unevenness_15 : decode cX8_unevenness 15 = .ok (.iload_n 3, 1) := by decide +kernel
theorem dX8_unevenness_16 : decode cX8_unevenness 16 = .ok (.iaload, 1) := by decide +kernel
theorem dX8_unevenness_17 : decode cX8_unevenness 17 = .ok (.i2l, 1) := by decide +kernel
theorem dX8_unevenness_18 : decode cX8_unevenness 18 = .ok (.ladd, 1) := by decide +kernel
theorem dX8_unevenness_19 : decode cX8_unevenness 19 = .ok (.lstore_n 1, 1) := by decide +kernel
theorem dX8_unevenness_20 : decode cX8_unevenness 20 = .ok (.iinc 3 1, 3) := by decide +kernel
theorem dX8_unevenness_23 : decode cX8_unevenness 23 = .ok (.goto (-19), 3) := by decide +kernel
theorem dX8_unevenness_26 : decode cX8_unevenness 26 = .ok (.lconst 0, 1) := by decide +kernel
theorem dX8_unevenness_27 : decode cX8_unevenness 27 = .ok (.lstore_n 3, 1) := by decide +kernel
theorem dX8_unevenness_28 : decode cX8_unevenness 28 = .ok (.iconst 1, 1) := by decide +kernel
theorem dX8_unevenness_29 : decode cX8_unevenness 29 = .ok (.istore 5, 2) := by decide +kernel
theorem dX8_unevenness_31 : decode cX8_unevenness 31 = .ok (.iload 5, 2) := by decide +kernel
theorem dX8_unevenness_33 : decode cX8_unevenness 33 = .ok (.bipush 6, 2) := by decide +kernel
theorem dX8_unevenness_35 : decode cX8_unevenness 35 = .ok (.if_icmp .gt 33, 3) := by decide +kernel
theorem dX8_unevenness_38 : decode cX8_unevenness 38 = .ok (.ldc2_w 30, 3) := by decide +kernel
theorem dX8_unevenness_41 : decode cX8_unevenness 41 = .ok (.aload_n 0, 1) := by decide +kernel
theorem dX8_unevenness_42 : decode cX8_unevenness 42 = .ok (.getfield 9, 3) := by decide +kernel
theorem dX8_unevenness_45 : decode cX8_unevenness 45 = .ok (.iload 5, 2) := by decide +kernel
theorem dX8_unevenness_47 : decode cX8_unevenness 47 = .ok (.iaload, 1) := by decide +kernel
theorem dX8_unevenness_48 : decode cX8_unevenness 48 = .ok (.i2l, 1) := by decide +kernel
theorem dX8_unevenness_49 : decode cX8_unevenness 49 = .ok (.lmul, 1) := by decide +kernel
theorem dX8_unevenness_50 : decode cX8_unevenness 50 = .ok (.lload_n 1, 1) := by decide +kernel
theorem dX8_unevenness_51 : decode cX8_unevenness 51 = .ok (.lsub, 1) := by decide +kernel
theorem dX8_unevenness_52 : decode cX8_unevenness 52 = .ok (.lstore 6, 2) := by decide +kernel
theorem dX8_unevenness_54 : decode cX8_unevenness 54 = .ok (.lload_n 3, 1) := by decide +kernel
theorem dX8_unevenness_55 : decode cX8_unevenness 55 = .ok (.lload 6, 2) := by decide +kernel
theorem dX8_unevenness_57 : decode cX8_unevenness 57 = .ok (.lload 6, 2) := by decide +kernel
theorem dX8_unevenness_59 : decode cX8_unevenness 59 = .ok (.lmul, 1) := by decide +kernel
theorem dX8_unevenness_60 : decode cX8_unevenness 60 = .ok (.ladd, 1) := by decide +kernel
theorem dX8_unevenness_61 : decode cX8_unevenness 61 = .ok (.lstore_n 3, 1) := by decide +kernel
theorem dX8_unevenness_62 : decode cX8_unevenness 62 = .ok (.iinc 5 1, 3) := by decide +kernel
theorem dX8_unevenness_65 : decode cX8_unevenness 65 = .ok (.goto (-34), 3) := by decide +kernel
theorem dX8_unevenness_68 : decode cX8_unevenness 68 = .ok (.lload_n 3, 1) := by decide +kernel
theorem dX8_unevenness_69 : decode cX8_unevenness 69 = .ok (.lreturn, 1) := by decide +kernel
set_option maxRecDepth 20000 in
theorem ggX9_init_X4_init : GoodIn wsX9_init wsX4_init := goodIn_r _ [49, 50, 2, 3, 51, 52, 53, 54, 55, 56, 57, 126, 127, 128, 129, 130, 131, 132] (by decide +kernel) (by decide +kernel)
set_option maxRecDepth 20000 in
theorem gX9_init_X4_init_n9 : GoodIn wsX9_init (wsX4_init) := ggX9_init_X4_init
set_option maxRecDepth 20000 in
theorem ggX9_init_X7_init : GoodIn wsX9_init wsX7_init := goodIn_r _ [59, 60, 2, 3, 61, 62, 63, 64, 65, 150, 151, 152] (by decide +kernel) (by decide +kernel)
set_option maxRecDepth 20000 in
theorem gX9_init_X7_init_n18 : GoodIn wsX9_init (wsX7_init) := ggX9_init_X7_init
set_option maxRecDepth 20000 in
theorem ggX9_init_X3_init : GoodIn wsX9_init wsX3_init := goodIn_r _ [67, 68, 2, 3, 61, 69, 70, 71, 72, 73, 74, 153, 154, 155, 156, 157, 158] (by decide +kernel) (by decide +kernel)
set_option maxRecDepth 20000 in
theorem gX9_init_X3_init_n25 : GoodIn wsX9_init (wsX3_init) := ggX9_init_X3_init
set_option maxRecDepth 20000 in
theorem ggX9_init_X8_init : GoodIn wsX9_init wsX8_init := goodIn_r _ [76, 77, 2, 3, 61, 78, 79, 80, 81, 159, 160, 161, 162] (by decide +kernel) (by decide +kernel)
set_option maxRecDepth 20000 in
theorem gX9_init_X8_init_n32 : GoodIn wsX9_init (wsX8_init) := ggX9_init_X8_init
set_option maxRecDepth 20000 in
theorem ggX9_init_X6_init : GoodIn wsX9_init wsX6_init := goodIn_r _ [83, 84, 2, 3, 85, 86, 87, 88, 89, 163, 164, 165, 166, 167] (by decide +kernel) (by decide +kernel)
set_option maxRecDepth 20000 in
theorem gX9_init_X6_init_n39 : GoodIn wsX9_init (wsX6_init) := ggX9_init_X6_init
set_option maxRecDepth 20000 in
theorem ggX9_init_X2_init : GoodIn wsX9_init wsX2_init := goodIn_r _ [91, 92, 2, 3, 63, 93, 94, 168, 169] (by decide +kernel) (by decide +kernel)
set_option maxRecDepth 20000 in
theorem gX9_init_X2_init_n46 : GoodIn wsX9_init (wsX2_init) := ggX9_init_X2_init
set_option maxRecDepth 20000 in
theorem ggX9_init_X1_init : GoodIn wsX9_init wsX1_init := goodIn_r _ [97, 98, 2, 3, 99, 100, 101, 102, 103, 104, 105, 170] (by decide +kernel) (by decide +kernel)
set_option maxRecDepth 20000 in
theorem gX9_init_X1_init : GoodIn wsX9_init (wsX1_init) := ggX9_init_X1_init
set_option maxRecDepth 20000 in
theorem ggX9_init_X5_init : GoodIn wsX9_init wsX5_init := goodIn_r _ [108, 109, 2, 3, 110, 38, 39, 111, 61, 112, 113, 63, 114, 115, 116, 117, 118, 119, 120, 121, 122, 123, 124, 125, 181, 171, 172, 173, 174, 175, 176, 177, 178, 179, 180] (by decide +kernel) (by decide +kernel)
set_option maxRecDepth 20000 in
theorem gX9_init_X5_init : GoodIn wsX9_init (wsX5_init) := ggX9_init_X5_init
set_option maxRecDepth 20000 in
theorem ggX9_init_X0_init : GoodIn wsX9_init wsX0_init := goodIn_r _ [123, 124, 2, 3, 61, 125, 181] (by decide +kernel) (by decide +kernel)
set_option maxRecDepth 20000 in
theorem gX9_init_X0_init_n70 : GoodIn wsX9_init (wsX0_init) := ggX9_init_X0_init
theorem dX9_init_0 : decode cX9_init 0 = .ok (.aload_n 0, 1) := by decide +kernel
theorem dX9_init_1 : decode cX9_init 1 = .ok (.invokespecial 1, 3) := by decide +kernel
theorem dX9_init_4 : decode cX9_init 4 = .ok (.aload_n 0, 1) := by decide +kernel
theorem dX9_init_5 : decode cX9_init 5 = .ok (.new 7, 3) := by decide +kernel
theorem dX9_init_8 : decode cX9_init 8 = .ok (.dup, 1) := by decide +kernel
theorem dX9_init_9 : decode cX9_init 9 = .ok (.invokespecial 9, 3) := by decide +kernel
theorem dX9_init_12 : decode cX9_init 12 = .ok (.putfield 10, 3) := by decide +kernel
theorem dX9_init_15 : decode cX9_init 15 = .ok (.aload_n 0, 1) := by decide +kernel
theorem dX9_init_16 : decode cX9_init 16 = .ok (.new 16, 3) := by decide +kernel
theorem dX9_init_19 : decode cX9_init 19 = .ok (.dup, 1) := by decide +kernel
theorem dX9_init_20 : decode cX9_init 20 = .ok (.invokespecial 18, 3) := by decide +kernel
theorem dX9_init_23 : decode cX9_init 23 = .ok (.putfield 19, 3) := by decide +kernel
theorem dX9_init_26 : decode cX9_init 26 = .ok (.aload_n 0, 1) := by decide +kernel
theorem dX9_init_27 : decode cX9_init 27 = .ok (.new 23, 3) := by decide +kernel
theorem dX9_init_30 : decode cX9_init 30 = .ok (.dup, 1) := by decide +kernel
theorem dX9_init_31 : decode cX9_init 31 = .ok (.invokespecial 25, 3) := by decide +kernel
theorem dX9_init_34 : decode cX9_init 34 = .ok (.putfield 26, 3) := by decide +kernel
theorem dX9_init_37 : decode cX9_init 37 = .ok (.aload_n 0, 1) := by decide +kernel
theorem dX9_init_38 : decode cX9_init 38 = .ok (.new 30, 3) := by decide +kernel
theorem dX9_init_41 : decode cX9_init 41 = .ok (.dup, 1) := by decide +kernel
theorem dX9_init_42 : decode cX9_init 42 = .ok (.invokespecial 32, 3) := by decide +kernel
theorem dX9_init_45 : decode cX9_init 45 = .ok (.putfield 33, 3) := by decide +kernel
theorem dX9_init_48 : decode cX9_init 48 = .ok (.aload_n 0, 1) := by decide +kernel
theorem dX9_init_49 : decode cX9_init 49 = .ok (.new 37, 3) := by decide +kernel
theorem dX9_init_52 : decode cX9_init 52 = .ok (.dup, 1) := by decide +kernel
theorem dX9_init_53 : decode cX9_init 53 = .ok (.invokespecial 39, 3) := by decide +kernel
theorem dX9_init_56 : decode cX9_init 56 = .ok (.putfield 40, 3) := by decide +kernel
theorem dX9_init_59 : decode cX9_init 59 = .ok (.aload_n 0, 1) := by decide +kernel
theorem dX9_init_60 : decode cX9_init 60 = .ok (.new 44, 3) := by decide +kernel
theorem dX9_init_63 : decode cX9_init 63 = .ok (.dup, 1) := by decide +kernel
theorem dX9_init_64 : decode cX9_init 64 = .ok (.invokespecial 46, 3) := by decide +kernel
theorem dX9_init_67 : decode cX9_init 67 = .ok (.putfield 47, 3) := by decide +kernel
theorem dX9_init_70 : decode cX9_init 70 = .ok (.aload_n 0, 1) := by decide +kernel
theorem dX9_init_71 : decode cX9_init 71 = .ok (.new 51, 3) := by decide +kernel
theorem dX9_init_74 : decode cX9_init 74 = .ok (.dup, 1) := by decide +kernel
theorem dX9_init_75 : decode cX9_init 75 = .ok (.invokespecial 53, 3) := by decide +kernel
theorem dX9_init_78 : decode cX9_init 78 = .ok (.putfield 54, 3) := by decide +kernel
theorem dX9_init_81 : decode cX9_init 81 = .ok (.aload_n 0, 1) := by decide +kernel
theorem dX9_init_82 : decode cX9_init 82 = .ok (.new 58, 3) := by decide +kernel
theorem dX9_init_85 : decode cX9_init 85 = .ok (.dup, 1) := by decide +kernel
theorem dX9_init_86 : decode cX9_init 86 = .ok (.invokespecial 60, 3) := by decide +kernel
theorem dX9_init_89 : decode cX9_init 89 = .ok (.putfield 61, 3) := by decide +kernel
theorem dX9_init_92 : decode cX9_init 92 = .ok (.aload_n 0, 1) := by decide +kernel
theorem dX9_init_93 : decode cX9_init 93 = .ok (.new 58, 3) := by decide +kernel
theorem dX9_init_96 : decode cX9_init 96 = .ok (.dup, 1) := by decide +kernel
theorem dX9_init_97 : decode cX9_init 97 = .ok (.invokespecial 60, 3) := by decide +kernel
theorem dX9_init_100 : decode cX9_init 100 = .ok (.putfield 65, 3) := by decide +kernel
theorem dX9_init_103 : decode cX9_init 103 = .ok (.aload_n 0, 1) := by decide +kernel
theorem dX9_init_104 : decode cX9_init 104 = .ok (.new 68, 3) := by decide +kernel
theorem dX9_init_107 : decode cX9_init 107 = .ok (.dup, 1) := by decide +kernel
theorem dX9_init_108 : decode cX9_init 108 = .ok (.invokespecial 70, 3) := by decide +kernel
theorem dX9_init_111 : decode cX9_init 111 = .ok (.putfield 71, 3) := by decide +kernel
theorem dX9_init_114 : decode cX9_init 114 = .ok (.aload_n 0, 1) := by decide +kernel
theorem dX9_init_115 : decode cX9_init 115 = .ok (.new 68, 3) := by decide +kernel
theorem dX9_init_118 : decode cX9_init 118 = .ok (.dup, 1) := by decide +kernel
theorem dX9_init_119 : decode cX9_init 119 = .ok (.invokespecial 70, 3) := by decide +kernel
theorem dX9_init_122 : decode cX9_init 122 = .ok (.putfield 75, 3) := by decide +kernel
theorem dX9_init_125 : decode cX9_init 125 = .ok (.aload_n 0, 1) := by decide +kernel
theorem dX9_init_126 : decode cX9_init 126 = .ok (.new 68, 3) := by decide +kernel
theorem dX9_init_129 : decode cX9_init 129 = .ok (.dup, 1) := by decide +kernel
theorem dX9_init_130 : decode cX9_init 130 = .ok (.invokespecial 70, 3) := by decide +kernel
theorem dX9_init_133 : decode cX9_init 133 = .ok (.putfield 78, 3) := by decide +kernel
theorem dX9_init_136 : decode cX9_init 136 = .ok (.aload_n 0, 1) := by decide +kernel
theorem dX9_init_137 : decode cX9_init 137 = .ok (.bipush 45, 2) := by decide +kernel
theorem dX9_init_139 : decode cX9_init 139 = .ok (.putfield 81, 3) := by decide +kernel
theorem dX9_init_142 : decode cX9_init 142 = .ok (.aload_n 0, 1) := by decide +kernel
theorem dX9_init_143 : decode cX9_init 143 = .ok (.iconst 0, 1) := by decide +kernel
theorem dX9_init_144 : decode cX9_init 144 = .ok (.putfield 85, 3) := by decide +kernel
theorem dX9_init_147 : decode cX9_init 147 = .ok (.aload_n 0, 1) := by decide +kernel
theorem dX9_init_148 : decode cX9_init 148 = .ok (.iconst 1, 1) := by decide +kernel
theorem dX9_init_149 : decode cX9_init 149 = .ok (.putfield 89, 3) := by decide +kernel
theorem dX9_init_152 : decode cX9_init 152 = .ok (.aload_n 0, 1) := by decide +kernel
theorem dX9_init_153 : decode cX9_init 153 = .ok (.iconst (-1), 1) := by decide +kernel
theorem dX9_init_154 : decode cX9_init 154 = .ok (.putfield 92, 3) := by decide +kernel
theorem dX9_init_157 : decode cX9_init 157 = .ok (.aload_n 0, 1) := by decide +kernel
theorem dX9_init_158 : decode cX9_init 158 = .ok (.iconst 0, 1) := by decide +kernel
theorem dX9_init_159 : decode cX9_init 159 = .ok (.putfield 95, 3) := by decide +kernel
theorem dX9_init_162 : decode cX9_init 162 = .ok (.return_, 1) := by decide +kernel
set_option maxRecDepth 20000 in
theorem ggX9_start_X9_layoutOf : GoodIn wsX9_start wsX9_layoutOf := goodIn_r _ [11, 12, 13, 14, 15] (by decide +kernel) (by decide +kernel)
set_option maxRecDepth 20000 in
theorem gX9_start_X9_layoutOf : GoodIn wsX9_start (va_wsS RX9 98 yX9_layoutOf wsX9_layoutOf) := goodIn_app (goodIn_of _ (by decide +kernel)) ggX9_start_X9_layoutOf
set_option maxRecDepth 20000 in
theorem ggX9_start_X9_menIn : GoodIn wsX9_start wsX9_menIn := goodIn_r _ [18] (by decide +kernel) (by decide +kernel)
set_option maxRecDepth 20000 in
theorem gX9_start_X9_menIn : GoodIn wsX9_start (va_wsS RX9 102 yX9_menIn wsX9_menIn) := goodIn_app (goodIn_of _ (by decide +kernel)) ggX9_start_X9_menIn
set_option maxRecDepth 20000 in
theorem ggX9_start_X7_size : GoodIn wsX9_start wsX7_size := goodIn_r _ [23, 24, 54, 55, 56] (by decide +kernel) (by decide +kernel)
set_option maxRecDepth 20000 in
theorem gX9_start_X7_size : GoodIn wsX9_start (wsV RX9 113 RX7 yX7_size wsX7_size) := goodIn_app (goodIn_of _ (by decide +kernel)) ggX9_start_X7_size
set_option maxRecDepth 20000 in
theorem ggX9_start_X4_open : GoodIn wsX9_start wsX4_open := goodIn_r _ [29, 30, 31, 32, 33, 34, 35, 36, 57, 58, 59, 60, 61, 62, 63] (by decide +kernel) (by decide +kernel)
set_option maxRecDepth 20000 in
theorem gX9_start_X4_open : GoodIn wsX9_start (wsV RX9 122 RX4 yX4_open wsX4_open) := goodIn_app (goodIn_of _ (by decide +kernel)) ggX9_start_X4_open
theorem dX9_start_0 : decode cX9_start 0 = .ok (.iload_n 1, 1) := by decide +kernel
theorem dX9_start_1 : decode cX9_start 1 = .ok (.invokestatic 98, 3) := by decide +kernel
theorem dX9_start_4 : decode cX9_start 4 = .ok (.invokestatic 102, 3) := by decide +kernel
theorem dX9_start_7 : decode cX9_start 7 = .ok (.istore 4, 2) := by decide +kernel
theorem dX9_start_9 : decode cX9_start 9 = .ok (.iload 4, 2) := by decide +kernel
theorem dX9_start_11 : decode cX9_start 11 = .ok (.ifCond .eq 13, 3) := by decide +kernel
theorem dX9_start_14 : decode cX9_start 14 = .ok (.iload_n 2, 1) := by decide +kernel
theorem dX9_start_15 : decode cX9_start 15 = .ok (.ifCond .lt 9, 3) := by decide +kernel
theorem dX9_start_18 : decode cX9_start 18 = .ok (.iload_n 2, 1) := by decide +kernel
theorem dX9_start_19 : decode cX9_start 19 = .ok (.bipush 25, 2) := by decide +kernel
theorem dX9_start_21 : decode cX9_start 21 = .ok (.if_icmp .le 13, 3) := by decide +kernel
theorem dX9_start_24 : decode cX9_start 24 = .ok (.new 106, 3) := by decide +kernel
theorem dX9_start_27 : decode cX9_start 27 = .ok (.dup, 1) := by decide +kernel
theorem dX9_start_28 : decode cX9_start 28 = .ok (.ldc 108, 2) := by decide +kernel
theorem dX9_start_30 : decode cX9_start 30 = .ok (.invokespecial 110, 3) := by decide +kernel
theorem dX9_start_33 : decode cX9_start 33 = .ok (.athrow, 1) := by decide +kernel
theorem dX9_start_34 : decode cX9_start 34 = .ok (.aload_n 0, 1) := by decide +kernel
theorem dX9_start_35 : decode cX9_start 35 = .ok (.getfield 81, 3) := by decide +kernel
theorem dX9_start_38 : decode cX9_start 38 = .ok (.bipush 45, 2) := by decide +kernel
theorem dX9_start_40 : decode cX9_start 40 = .ok (.if_icmp .ne 17, 3) := by decide +kernel
theorem dX9_start_43 : decode cX9_start 43 = .ok (.aload_n 0, 1) := by decide +kernel
theorem dX9_start_44 : decode cX9_start 44 = .ok (.getfield 19, 3) := by decide +kernel
theorem dX9_start_47 : decode cX9_start 47 = .ok (.invokevirtual 113, 3) := by decide +kernel
theorem dX9_start_50 : decode cX9_start 50 = .ok (.ifCond .le 17, 3) := by decide +kernel
theorem dX9_start_53 : decode cX9_start 53 = .ok (.iload_n 2, 1) := by decide +kernel
theorem dX9_start_54 : decode cX9_start 54 = .ok (.ifCond .le 13, 3) := by decide +kernel
theorem dX9_start_57 : decode cX9_start 57 = .ok (.new 117, 3) := by decide +kernel
theorem dX9_start_60 : decode cX9_start 60 = .ok (.dup, 1) := by decide +kernel
theorem dX9_start_61 : decode cX9_start 61 = .ok (.ldc 119, 2) := by decide +kernel
theorem dX9_start_63 : decode cX9_start 63 = .ok (.invokespecial 121, 3) := by decide +kernel
theorem dX9_start_66 : decode cX9_start 66 = .ok (.athrow, 1) := by decide +kernel
theorem dX9_start_67 : decode cX9_start 67 = .ok (.aload_n 0, 1) := by decide +kernel
theorem dX9_start_68 : decode cX9_start 68 = .ok (.getfield 10, 3) := by decide +kernel
theorem dX9_start_71 : decode cX9_start 71 = .ok (.iload_n 1, 1) := by decide +kernel
theorem dX9_start_72 : decode cX9_start 72 = .ok (.iload_n 2, 1) := by decide +kernel
theorem dX9_start_73 : decode cX9_start 73 = .ok (.iload_n 3, 1) := by decide +kernel
theorem dX9_start_74 : decode cX9_start 74 = .ok (.invokevirtual 122, 3) := by decide +kernel
theorem dX9_start_77 : decode cX9_start 77 = .ok (.iload 4, 2) := by decide +kernel
theorem dX9_start_79 : decode cX9_start 79 = .ok (.ireturn, 1) := by decide +kernel
set_option maxRecDepth 20000 in
theorem ggX9_begin_X9_requireSide : GoodIn wsX9_begin wsX9_requireSide := goodIn_ca (goodIn_r _ [14, 15, 16] (by decide +kernel) (by decide +kernel)) (goodIn_sub (fun _ h => List.mem_cons_of_mem _ (List.mem_append_right _ h)) (by decide +kernel))
set_option maxRecDepth 20000 in
theorem gX9_begin_X9_requireSide : GoodIn wsX9_begin (va_wsS RX9 126 yX9_requireSide wsX9_requireSide) := goodIn_app (goodIn_of _ (by decide +kernel)) ggX9_begin_X9_requireSide
set_option maxRecDepth 20000 in
theorem ggX9_begin_X4_isOpen : GoodIn wsX9_begin wsX4_isOpen := goodIn_r _ [21, 22, 94, 95, 96, 97, 98, 99, 100] (by decide +kernel) (by decide +kernel)
set_option maxRecDepth 20000 in
theorem gX9_begin_X4_isOpen : GoodIn wsX9_begin (wsV RX9 130 RX4 yX4_isOpen wsX4_isOpen) := goodIn_app (goodIn_of _ (by decide +kernel)) ggX9_begin_X4_isOpen
set_option maxRecDepth 20000 in
theorem ggX9_begin_X4_isDecided : GoodIn wsX9_begin wsX4_isDecided := goodIn_r _ [26, 27, 28, 29, 30, 31, 32, 33, 94, 95, 96, 97, 98, 99, 100] (by decide +kernel) (by decide +kernel)
set_option maxRecDepth 20000 in
theorem gX9_begin_X4_isDecided : GoodIn wsX9_begin (wsV RX9 134 RX4 yX4_isDecided wsX4_isDecided) := goodIn_app (goodIn_of _ (by decide +kernel)) ggX9_begin_X4_isDecided
set_option maxRecDepth 20000 in
theorem ggX9_begin_X4_variant : GoodIn wsX9_begin wsX4_variant := goodIn_r _ [37, 38, 94, 95, 96, 97, 98, 99, 100] (by decide +kernel) (by decide +kernel)
set_option maxRecDepth 20000 in
theorem gX9_begin_X4_variant : GoodIn wsX9_begin (wsV RX9 139 RX4 yX4_variant wsX4_variant) := goodIn_app (goodIn_of _ (by decide +kernel)) ggX9_begin_X4_variant
set_option maxRecDepth 20000 in
theorem ggX9_begin_X9_layoutOf : GoodIn wsX9_begin wsX9_layoutOf := goodIn_r _ [41, 42, 43, 44, 45] (by decide +kernel) (by decide +kernel)
set_option maxRecDepth 20000 in
theorem gX9_begin_X9_layoutOf : GoodIn wsX9_begin (va_wsS RX9 98 yX9_layoutOf wsX9_layoutOf) := goodIn_app (goodIn_of _ (by decide +kernel)) ggX9_begin_X9_layoutOf
set_option maxRecDepth 20000 in
theorem ggX9_begin_X0_layOut : GoodIn wsX9_begin wsX0_layOut := goodIn_r _ [50, 51, 52, 53, 54, 55, 56, 57, 58, 49, 59, 101] (by decide +kernel) (by decide +kernel)
set_option maxRecDepth 20000 in
theorem gX9_begin_X0_layOut : GoodIn wsX9_begin (wsV RX9 143 RX0 yX0_layOut wsX0_layOut) := goodIn_app (goodIn_of _ (by decide +kernel)) ggX9_begin_X0_layOut
set_option maxRecDepth 20000 in
theorem ggX9_begin_X0_become : GoodIn wsX9_begin wsX0_become := goodIn_r _ [63, 51, 101] (by decide +kernel) (by decide +kernel)
set_option maxRecDepth 20000 in
theorem gX9_begin_X0_become : GoodIn wsX9_begin (wsV RX9 147 RX0 yX0_become wsX0_become) := goodIn_app (goodIn_of _ (by decide +kernel)) ggX9_begin_X0_become
set_option maxRecDepth 20000 in
theorem ggX9_begin_X3_clear : GoodIn wsX9_begin wsX3_clear := goodIn_r _ [68, 69, 70, 71, 102, 103, 104, 105, 106, 107] (by decide +kernel) (by decide +kernel)
set_option maxRecDepth 20000 in
theorem gX9_begin_X3_clear : GoodIn wsX9_begin (wsV RX9 151 RX3 yX3_clear wsX3_clear) := goodIn_app (goodIn_of _ (by decide +kernel)) ggX9_begin_X3_clear
set_option maxRecDepth 20000 in
theorem ggX9_begin_X4_isCrawford : GoodIn wsX9_begin wsX4_isCrawford := goodIn_r _ [75, 76, 94, 95, 96, 97, 98, 99, 100] (by decide +kernel) (by decide +kernel)
set_option maxRecDepth 20000 in
theorem gX9_begin_X4_isCrawford : GoodIn wsX9_begin (wsV RX9 155 RX4 yX4_isCrawford wsX4_isCrawford) := goodIn_app (goodIn_of _ (by decide +kernel)) ggX9_begin_X4_isCrawford
theorem dX9_begin_0 : decode cX9_begin 0 = .ok (.iload_n 1, 1) := by decide +kernel
theorem dX9_begin_1 : decode cX9_begin 1 = .ok (.invokestatic 126, 3) := by decide +kernel
theorem dX9_begin_4 : decode cX9_begin 4 = .ok (.aload_n 0, 1) := by decide +kernel
theorem dX9_begin_5 : decode cX9_begin 5 = .ok (.getfield 81, 3) := by decide +kernel
theorem dX9_begin_8 : decode cX9_begin 8 = .ok (.bipush 45, 2) := by decide +kernel
theorem dX9_begin_10 : decode cX9_begin 10 = .ok (.if_icmp .ne 23, 3) := by decide +kernel
theorem dX9_begin_13 : decode cX9_begin 13 = .ok (.aload_n 0, 1) := by decide +kernel
theorem dX9_begin_14 : decode cX9_begin 14 = .ok (.getfield 10, 3) := by decide +kernel
theorem dX9_begin_17 : decode cX9_begin 17 = .ok (.invokevirtual 130, 3) := by decide +kernel
theorem dX9_begin_20 : decode cX9_begin 20 = .ok (.ifCond .eq 13, 3) := by decide +kernel
theorem dX9_begin_23 : decode cX9_begin 23 = .ok (.aload_n 0, 1) := by decide +kernel
theorem dX9_begin_24 : decode cX9_begin 24 = .ok (.getfield 10, 3) := by decide +kernel
theorem dX9_begin_27 : decode cX9_begin 27 = .ok (.invokevirtual 134, 3) := by decide +kernel
theorem dX9_begin_30 : decode cX9_begin 30 = .ok (.ifCond .eq 13, 3) := by decide +kernel
theorem dX9_begin_33 : decode cX9_begin 33 = .ok (.new 117, 3) := by decide +kernel
theorem dX9_begin_36 : decode cX9_begin 36 = .ok (.dup, 1) := by decide +kernel
theorem dX9_begin_37 : decode cX9_begin 37 = .ok (.ldc 137, 2) := by decide +kernel
theorem dX9_begin_39 : decode cX9_begin 39 = .ok (.invokespecial 121, 3) := by decide +kernel
theorem dX9_begin_42 : decode cX9_begin 42 = .ok (.athrow, 1) := by decide +kernel
theorem dX9_begin_43 : decode cX9_begin 43 = .ok (.aload_n 0, 1) := by decide +kernel
theorem dX9_begin_44 : decode cX9_begin 44 = .ok (.getfield 71, 3) := by decide +kernel
theorem dX9_begin_47 : decode cX9_begin 47 = .ok (.aload_n 0, 1) := by decide +kernel
theorem dX9_begin_48 : decode cX9_begin 48 = .ok (.getfield 10, 3) := by decide +kernel
theorem dX9_begin_51 : decode cX9_begin 51 = .ok (.invokevirtual 139, 3) := by decide +kernel
theorem dX9_begin_54 : decode cX9_begin 54 = .ok (.invokestatic 98, 3) := by decide +kernel
theorem dX9_begin_57 : decode cX9_begin 57 = .ok (.invokevirtual 143, 3) := by decide +kernel
theorem dX9_begin_60 : decode cX9_begin 60 = .ok (.aload_n 0, 1) := by decide +kernel
theorem dX9_begin_61 : decode cX9_begin 61 = .ok (.getfield 75, 3) := by decide +kernel
theorem dX9_begin_64 : decode cX9_begin 64 = .ok (.aload_n 0, 1) := by decide +kernel
theorem dX9_begin_65 : decode cX9_begin 65 = .ok (.getfield 71, 3) := by decide +kernel
theorem dX9_begin_68 : decode cX9_begin 68 = .ok (.invokevirtual 147, 3) := by decide +kernel
theorem dX9_begin_71 : decode cX9_begin 71 = .ok (.aload_n 0, 1) := by decide +kernel
theorem dX9_begin_72 : decode cX9_begin 72 = .ok (.getfield 26, 3) := by decide +kernel
theorem dX9_begin_75 : decode cX9_begin 75 = .ok (.aload_n 0, 1) := by decide +kernel
theorem dX9_begin_76 : decode cX9_begin 76 = .ok (.getfield 10, 3) := by decide +kernel
theorem dX9_begin_79 : decode cX9_begin 79 = .ok (.invokevirtual 139, 3) := by decide +kernel
theorem dX9_begin_82 : decode cX9_begin 82 = .ok (.iload_n 1, 1) := by decide +kernel
theorem dX9_begin_83 : decode cX9_begin 83 = .ok (.invokevirtual 151, 3) := by decide +kernel
theorem dX9_begin_86 : decode cX9_begin 86 = .ok (.aload_n 0, 1) := by decide +kernel
theorem dX9_begin_87 : decode cX9_begin 87 = .ok (.iconst 1, 1) := by decide +kernel
theorem dX9_begin_88 : decode cX9_begin 88 = .ok (.putfield 89, 3) := by decide +kernel
theorem dX9_begin_91 : decode cX9_begin 91 = .ok (.aload_n 0, 1) := by decide +kernel
theorem dX9_begin_92 : decode cX9_begin 92 = .ok (.iconst (-1), 1) := by decide +kernel
theorem dX9_begin_93 : decode cX9_begin 93 = .ok (.putfield 92, 3) := by decide +kernel
theorem dX9_begin_96 : decode cX9_begin 96 = .ok (.aload_n 0, 1) := by decide +kernel
theorem dX9_begin_97 : decode cX9_begin 97 = .ok (.iload_n 1, 1) := by decide +kernel
theorem dX9_begin_98 : decode cX9_begin 98 = .ok (.putfield 85, 3) := by decide +kernel
theorem dX9_begin_101 : decode cX9_begin 101 = .ok (.aload_n 0, 1) := by decide +kernel
theorem dX9_begin_102 : decode cX9_begin 102 = .ok (.bipush 100, 2) := by decide +kernel
theorem dX9_begin_104 : decode cX9_begin 104 = .ok (.putfield 81, 3) := by decide +kernel
theorem dX9_begin_107 : decode cX9_begin 107 = .ok (.aload_n 0, 1) := by decide +kernel
theorem dX9_begin_108 : decode cX9_begin 108 = .ok (.getfield 10, 3) := by decide +kernel
theorem dX9_begin_111 : decode cX9_begin 111 = .ok (.invokevirtual 155, 3) := by decide +kernel
theorem dX9_begin_114 : decode cX9_begin 114 = .ok (.ireturn, 1) := by decide +kernel
theorem dX9_state_0 : decode cX9_state 0 = .ok (.aload_n 0, 1) := by decide +kernel
theorem dX9_state_1 : decode cX9_state 1 = .ok (.getfield 81, 3) := by decide +kernel
theorem dX9_state_4 : decode cX9_state 4 = .ok (.ireturn, 1) := by decide +kernel
theorem dX9_turn_0 : decode cX9_turn 0 = .ok (.aload_n 0, 1) := by decide +kernel
theorem dX9_turn_1 : decode cX9_turn 1 = .ok (.getfield 81, 3) := by decide +kernel
theorem dX9_turn_4 : decode cX9_turn 4 = .ok (.bipush 45, 2) := by decide +kernel
theorem dX9_turn_6 : decode cX9_turn 6 = .ok (.if_icmp .ne 13, 3) := by decide +kernel
theorem dX9_turn_9 : decode cX9_turn 9 = .ok (.new 117, 3) := by decide +kernel
theorem dX9_turn_12 : decode cX9_turn 12 = .ok (.dup, 1) := by decide +kernel
theorem dX9_turn_13 : decode cX9_turn 13 = .ok (.ldc 158, 2) := by decide +kernel
theorem dX9_turn_15 : decode cX9_turn 15 = .ok (.invokespecial 121, 3) := by decide +kernel
theorem dX9_turn_18 : decode cX9_turn 18 = .ok (.athrow, 1) := by decide +kernel
theorem dX9_turn_19 : decode cX9_turn 19 = .ok (.aload_n 0, 1) := by decide +kernel
theorem dX9_turn_20 : decode cX9_turn 20 = .ok (.getfield 81, 3) := by decide +kernel
theorem dX9_turn_23 : decode cX9_turn 23 = .ok (.bipush 116, 2) := by decide +kernel
theorem dX9_turn_25 : decode cX9_turn 25 = .ok (.if_icmp .ne 12, 3) := by decide +kernel
theorem dX9_turn_28 : decode cX9_turn 28 = .ok (.iconst 1, 1) := by decide +kernel
theorem dX9_turn_29 : decode cX9_turn 29 = .ok (.aload_n 0, 1) := by decide +kernel
theorem dX9_turn_30 : decode cX9_turn 30 = .ok (.getfield 85, 3) := by decide +kernel
theorem dX9_turn_33 : decode cX9_turn 33 = .ok (.isub, 1) := by decide +kernel
theorem dX9_turn_34 : decode cX9_turn 34 = .ok (.goto 7, 3) := by decide +kernel
theorem dX9_turn_37 : decode cX9_turn 37 = .ok (.aload_n 0, 1) := by decide +kernel
theorem dX9_turn_38 : decode cX9_turn 38 = .ok (.getfield 85, 3) := by decide +kernel
theorem dX9_turn_41 : decode cX9_turn 41 = .ok (.ireturn, 1) := by decide +kernel
set_option maxRecDepth 20000 in
theorem ggX9_score_X9_requireSide : GoodIn wsX9_score wsX9_requireSide := goodIn_ca (goodIn_r _ [5, 6, 7] (by decide +kernel) (by decide +kernel)) (goodIn_sub (fun _ h => List.mem_cons_of_mem _ (List.mem_append_right _ h)) (by decide +kernel))
set_option maxRecDepth 20000 in
theorem gX9_score_X9_requireSide : GoodIn wsX9_score (va_wsS RX9 126 yX9_requireSide wsX9_requireSide) := goodIn_app (goodIn_of _ (by decide +kernel)) ggX9_score_X9_requireSide
set_option maxRecDepth 20000 in
theorem ggX9_score_X4_pointsOf : GoodIn wsX9_score wsX4_pointsOf := goodIn_r _ [12, 13, 14, 32, 33, 34, 35, 36, 37, 38] (by decide +kernel) (by decide +kernel)
set_option maxRecDepth 20000 in
theorem gX9_score_X4_pointsOf : GoodIn wsX9_score (wsV RX9 160 RX4 yX4_pointsOf wsX4_pointsOf) := goodIn_app (goodIn_of _ (by decide +kernel)) ggX9_score_X4_pointsOf
theorem dX9_score_0 : decode cX9_score 0 = .ok (.iload_n 1, 1) := by decide +kernel
theorem dX9_score_1 : decode cX9_score 1 = .ok (.invokestatic 126, 3) := by decide +kernel
theorem dX9_score_4 : decode cX9_score 4 = .ok (.aload_n 0, 1) := by decide +kernel
theorem dX9_score_5 : decode cX9_score 5 = .ok (.getfield 10, 3) := by decide +kernel
theorem dX9_score_8 : decode cX9_score 8 = .ok (.iload_n 1, 1) := by decide +kernel
theorem dX9_score_9 : decode cX9_score 9 = .ok (.invokevirtual 160, 3) := by decide +kernel
theorem dX9_score_12 : decode cX9_score 12 = .ok (.ireturn, 1) := by decide +kernel
theorem dX9_won_0 : decode cX9_won 0 = .ok (.aload_n 0, 1) := by decide +kernel
theorem dX9_won_1 : decode cX9_won 1 = .ok (.getfield 95, 3) := by decide +kernel
theorem dX9_won_4 : decode cX9_won 4 = .ok (.ireturn, 1) := by decide +kernel
set_option maxRecDepth 20000 in
theorem ggX9_isOver_X4_isOpen : GoodIn wsX9_isOver wsX4_isOpen := goodIn_r _ [8, 9, 38, 39, 40, 41, 42, 43, 44] (by decide +kernel) (by decide +kernel)
set_option maxRecDepth 20000 in
theorem gX9_isOver_X4_isOpen : GoodIn wsX9_isOver (wsV RX9 130 RX4 yX4_isOpen wsX4_isOpen) := goodIn_app (goodIn_of _ (by decide +kernel)) ggX9_isOver_X4_isOpen
set_option maxRecDepth 20000 in
theorem ggX9_isOver_X4_isDecided : GoodIn wsX9_isOver wsX4_isDecided := goodIn_r _ [13, 14, 15, 16, 17, 18, 19, 20, 38, 39, 40, 41, 42, 43, 44] (by decide +kernel) (by decide +kernel)
set_option maxRecDepth 20000 in
theorem gX9_isOver_X4_isDecided : GoodIn wsX9_isOver (wsV RX9 134 RX4 yX4_isDecided wsX4_isDecided) := goodIn_app (goodIn_of _ (by decide +kernel)) ggX9_isOver_X4_isDecided
theorem dX9_isOver_0 : decode cX9_isOver 0 = .ok (.aload_n 0, 1) := by decide +kernel
theorem dX9_isOver_1 : decode cX9_isOver 1 = .ok (.getfield 10, 3) := by decide +kernel
theorem dX9_isOver_4 : decode cX9_isOver 4 = .ok (.invokevirtual 130, 3) := by decide +kernel
theorem dX9_isOver_7 : decode cX9_isOver 7 = .ok (.ifCond .ne 13, 3) := by decide +kernel
theorem dX9_isOver_10 : decode cX9_isOver 10 = .ok (.new 117, 3) := by decide +kernel
theorem dX9_isOver_13 : decode cX9_isOver 13 = .ok (.dup, 1) := by decide +kernel
theorem dX9_isOver_14 : decode cX9_isOver 14 = .ok (.ldc 164, 2) := by decide +kernel
theorem dX9_isOver_16 : decode cX9_isOver 16 = .ok (.invokespecial 121, 3) := by decide +kernel
theorem dX9_isOver_19 : decode cX9_isOver 19 = .ok (.athrow, 1) := by decide +kernel
theorem dX9_isOver_20 : decode cX9_isOver 20 = .ok (.aload_n 0, 1) := by decide +kernel
theorem dX9_isOver_21 : decode cX9_isOver 21 = .ok (.getfield 10, 3) := by decide +kernel
theorem dX9_isOver_24 : decode cX9_isOver 24 = .ok (.invokevirtual 134, 3) := by decide +kernel
theorem dX9_isOver_27 : decode cX9_isOver 27 = .ok (.ireturn, 1) := by decide +kernel
set_option maxRecDepth 20000 in
theorem ggX9_roll_X9_requirePhase : GoodIn wsX9_roll wsX9_requirePhase := goodIn_ca (goodIn_r _ [13, 14, 15, 8, 160, 161, 162, 163, 164, 165, 166, 167, 168, 169, 170, 171, 172, 173, 174, 175, 176] (by decide +kernel) (by decide +kernel)) (goodIn_sub (fun _ h => List.mem_cons_of_mem _ (List.mem_append_right _ h)) (by decide +kernel))
set_option maxRecDepth 20000 in
theorem gX9_roll_X9_requirePhase : GoodIn wsX9_roll (wsV RX9 168 RX9 yX9_requirePhase wsX9_requirePhase) := goodIn_app (goodIn_of _ (by decide +kernel)) ggX9_roll_X9_requirePhase
set_option maxRecDepth 20000 in
theorem ggX9_roll_X6_become : GoodIn wsX9_roll wsX6_become := goodIn_r _ [20, 21, 22, 23, 24, 25, 26, 27, 28, 29, 30, 31, 32, 19, 33, 34, 35, 36, 177, 178, 179, 180, 181] (by decide +kernel) (by decide +kernel)
set_option maxRecDepth 20000 in
theorem gX9_roll_X6_become : GoodIn wsX9_roll (wsV RX9 172 RX6 yX6_become wsX6_become) := goodIn_app (goodIn_of _ (by decide +kernel)) ggX9_roll_X6_become
set_option maxRecDepth 20000 in
theorem ggX9_roll_X8_countRoll : GoodIn wsX9_roll wsX8_countRoll := goodIn_r _ [41, 42, 43, 44, 40, 45, 46, 182, 183, 184, 185] (by decide +kernel) (by decide +kernel)
set_option maxRecDepth 20000 in
theorem gX9_roll_X8_countRoll : GoodIn wsX9_roll (wsV RX9 175 RX8 yX8_countRoll wsX8_countRoll) := goodIn_app (goodIn_of _ (by decide +kernel)) ggX9_roll_X8_countRoll
set_option maxRecDepth 20000 in
theorem ggX9_roll_X6_greater : GoodIn wsX9_roll wsX6_greater := goodIn_r _ [50, 25, 177, 178, 179, 180, 181] (by decide +kernel) (by decide +kernel)
set_option maxRecDepth 20000 in
theorem gX9_roll_X6_greater : GoodIn wsX9_roll (wsV RX9 178 RX6 yX6_greater wsX6_greater) := goodIn_app (goodIn_of _ (by decide +kernel)) ggX9_roll_X6_greater
set_option maxRecDepth 20000 in
theorem ggX9_roll_X6_lesser : GoodIn wsX9_roll wsX6_lesser := goodIn_r _ [54, 29, 177, 178, 179, 180, 181] (by decide +kernel) (by decide +kernel)
set_option maxRecDepth 20000 in
theorem gX9_roll_X6_lesser : GoodIn wsX9_roll (wsV RX9 181 RX6 yX6_lesser wsX6_lesser) := goodIn_app (goodIn_of _ (by decide +kernel)) ggX9_roll_X6_lesser
set_option maxRecDepth 20000 in
theorem ggX9_roll_X5_collect : GoodIn wsX9_roll wsX5_collect := goodIn_r _ [59, 60, 61, 62, 63, 64, 65, 66, 67, 68, 69, 70, 58, 71, 72, 73, 74, 75, 76, 77, 78, 79, 80, 81, 82, 83, 84, 85, 86, 87, 88, 89, 90, 91, 92, 93, 94, 22, 23, 24, 95, 96, 97, 98, 99, 12, 100, 101, 102, 103, 104, 105, 106, 107, 108, 109, 110, 111, 112, 113, 114, 115, 116, 117, 118, 119, 120, 121, 122, 123, 124, 125, 126, 127, 128, 129, 130, 131, 132, 133, 134, 135, 136, 137, 138, 139, 140, 141, 142, 143, 144, 145, 146, 147, 148, 149, 150, 151, 152, 153, 154, 155, 186, 187, 188, 189, 190, 191, 192, 193, 194, 195, 196] (by decide +kernel) (by decide +kernel)
set_option maxRecDepth 20000 in
theorem gX9_roll_X5_collect : GoodIn wsX9_roll (wsV RX9 184 RX5 yX5_collect wsX5_collect) := goodIn_app (goodIn_of _ (by decide +kernel)) ggX9_roll_X5_collect
set_option maxRecDepth 20000 in
theorem ggX9_roll_X5_count : GoodIn wsX9_roll wsX5_count := goodIn_r _ [159, 73, 186, 187, 188, 189, 190, 191, 192, 193, 194, 195] (by decide +kernel) (by decide +kernel)
set_option maxRecDepth 20000 in
theorem gX9_roll_X5_count : GoodIn wsX9_roll (wsV RX9 188 RX5 yX5_count wsX5_count) := goodIn_app (goodIn_of _ (by decide +kernel)) ggX9_roll_X5_count
theorem dX9_roll_0 : decode cX9_roll 0 = .ok (.iload_n 1, 1) := by decide +kernel
theorem dX9_roll_1 : decode cX9_roll 1 = .ok (.iconst 1, 1) := by decide +kernel
theorem dX9_roll_2 : decode cX9_roll 2 = .ok (.if_icmp .lt 20, 3) := by decide +kernel
theorem dX9_roll_5 : decode cX9_roll 5 = .ok (.iload_n 1, 1) := by decide +kernel
theorem dX9_roll_6 : decode cX9_roll 6 = .ok (.bipush 6, 2) := by decide +kernel
theorem dX9_roll_8 : decode cX9_roll 8 = .ok (.if_icmp .gt 14, 3) := by decide +kernel
theorem dX9_roll_11 : decode cX9_roll 11 = .ok (.iload_n 2, 1) := by decide +kernel
theorem dX9_roll_12 : decode cX9_roll 12 = .ok (.iconst 1, 1) := by decide +kernel
theorem dX9_roll_13 : decode cX9_roll 13 = .ok (.if_icmp .lt 9, 3) := by decide +kernel
theorem dX9_roll_16 : decode cX9_roll 16 = .ok (.iload_n 2, 1) := by decide +kernel
theorem dX9_roll_17 : decode cX9_roll 17 = .ok (.bipush 6, 2) := by decide +kernel
theorem dX9_roll_19 : decode cX9_roll 19 = .ok (.if_icmp .le 13, 3) := by decide +kernel
theorem dX9_roll_22 : decode cX9_roll 22 = .ok (.new 106, 3) := by decide +kernel
theorem dX9_roll_25 : decode cX9_roll 25 = .ok (.dup, 1) := by decide +kernel
theorem dX9_roll_26 : decode cX9_roll 26 = .ok (.ldc 166, 2) := by decide +kernel
theorem dX9_roll_28 : decode cX9_roll 28 = .ok (.invokespecial 110, 3) := by decide +kernel
theorem dX9_roll_31 : decode cX9_roll 31 = .ok (.athrow, 1) := by decide +kernel
theorem dX9_roll_32 : decode cX9_roll 32 = .ok (.aload_n 0, 1) := by decide +kernel
theorem dX9_roll_33 : decode cX9_roll 33 = .ok (.bipush 100, 2) := by decide +kernel
theorem dX9_roll_35 : decode cX9_roll 35 = .ok (.invokevirtual 168, 3) := by decide +kernel
theorem dX9_roll_38 : decode cX9_roll 38 = .ok (.aload_n 0, 1) := by decide +kernel
theorem dX9_roll_39 : decode cX9_roll 39 = .ok (.getfield 40, 3) := by decide +kernel
theorem dX9_roll_42 : decode cX9_roll 42 = .ok (.iload_n 1, 1) := by decide +kernel
theorem dX9_roll_43 : decode cX9_roll 43 = .ok (.iload_n 2, 1) := by decide +kernel
theorem dX9_roll_44 : decode cX9_roll 44 = .ok (.invokevirtual 172, 3) := by decide +kernel
theorem dX9_roll_47 : decode cX9_roll 47 = .ok (.aload_n 0, 1) := by decide +kernel
theorem dX9_roll_48 : decode cX9_roll 48 = .ok (.getfield 33, 3) := by decide +kernel
theorem dX9_roll_51 : decode cX9_roll 51 = .ok (.iload_n 1, 1) := by decide +kernel
theorem dX9_roll_52 : decode cX9_roll 52 = .ok (.iload_n 2, 1) := by decide +kernel
theorem dX9_roll_53 : decode cX9_roll 53 = .ok (.invokevirtual 175, 3) := by decide +kernel
theorem dX9_roll_56 : decode cX9_roll 56 = .ok (.aload_n 0, 1) := by decide +kernel
theorem dX9_roll_57 : decode cX9_roll 57 = .ok (.getfield 61, 3) := by decide +kernel
theorem dX9_roll_60 : decode cX9_roll 60 = .ok (.aload_n 0, 1) := by decide +kernel
theorem dX9_roll_61 : decode cX9_roll 61 = .ok (.getfield 71, 3) := by decide +kernel
theorem dX9_roll_64 : decode cX9_roll 64 = .ok (.aload_n 0, 1) := by decide +kernel
theorem dX9_roll_65 : decode cX9_roll 65 = .ok (.getfield 85, 3) := by decide +kernel
theorem dX9_roll_68 : decode cX9_roll 68 = .ok (.aload_n 0, 1) := by decide +kernel
theorem dX9_roll_69 : decode cX9_roll 69 = .ok (.getfield 40, 3) := by decide +kernel
theorem dX9_roll_72 : decode cX9_roll 72 = .ok (.invokevirtual 178, 3) := by decide +kernel
theorem dX9_roll_75 : decode cX9_roll 75 = .ok (.aload_n 0, 1) := by decide +kernel
theorem dX9_roll_76 : decode cX9_roll 76 = .ok (.getfield 40, 3) := by decide +kernel
theorem dX9_roll_79 : decode cX9_roll 79 = .ok (.invokevirtual 181, 3) := by decide +kernel
theorem dX9_roll_82 : decode cX9_roll 82 = .ok (.invokevirtual 184, 3) := by decide +kernel
theorem dX9_roll_85 : decode cX9_roll 85 = .ok (.aload_n 0, 1) := by decide +kernel
theorem dX9_roll_86 : decode cX9_roll 86 = .ok (.bipush 114, 2) := by decide +kernel
theorem dX9_roll_88 : decode cX9_roll 88 = .ok (.putfield 81, 3) := by decide +kernel
theorem dX9_roll_91 : decode cX9_roll 91 = .ok (.aload_n 0, 1) := by decide +kernel
theorem dX9_roll_92 : decode cX9_roll 92 = .ok (.getfield 61, 3) := by decide +kernel
theorem dX9_roll_95 : decode cX9_roll 95 = .ok (.invokevirtual 188, 3) := by decide +kernel
theorem dX9_roll_98 : decode cX9_roll 98 = .ok (.ireturn, 1) := by decide +kernel
set_option maxRecDepth 20000 in
theorem ggX9_plays_X9_requirePhase : GoodIn wsX9_plays wsX9_requirePhase := goodIn_ca (goodIn_r _ [6, 7, 8, 9, 16, 17, 18, 19, 20, 21, 22, 23, 24, 25, 26, 27, 28, 29, 30, 31, 32] (by decide +kernel) (by decide +kernel)) (goodIn_sub (fun _ h => List.mem_cons_of_mem _ (List.mem_append_right _ h)) (by decide +kernel))
set_option maxRecDepth 20000 in
theorem gX9_plays_X9_requirePhase : GoodIn wsX9_plays (wsV RX9 168 RX9 yX9_requirePhase wsX9_requirePhase) := goodIn_app (goodIn_of _ (by decide +kernel)) ggX9_plays_X9_requirePhase
set_option maxRecDepth 20000 in
theorem ggX9_plays_X5_count : GoodIn wsX9_plays wsX5_count := goodIn_r _ [14, 15, 33, 34, 35, 36, 37, 38, 39, 40, 41, 42] (by decide +kernel) (by decide +kernel)
set_option maxRecDepth 20000 in
theorem gX9_plays_X5_count : GoodIn wsX9_plays (wsV RX9 188 RX5 yX5_count wsX5_count) := goodIn_app (goodIn_of _ (by decide +kernel)) ggX9_plays_X5_count
theorem dX9_plays_0 : decode cX9_plays 0 = .ok (.aload_n 0, 1) := by decide +kernel
theorem dX9_plays_1 : decode cX9_plays 1 = .ok (.bipush 114, 2) := by decide +kernel
theorem dX9_plays_3 : decode cX9_plays 3 = .ok (.invokevirtual 168, 3) := by decide +kernel
theorem dX9_plays_6 : decode cX9_plays 6 = .ok (.aload_n 0, 1) := by decide +kernel
theorem dX9_plays_7 : decode cX9_plays 7 = .ok (.getfield 61, 3) := by decide +kernel
theorem dX9_plays_10 : decode cX9_plays 10 = .ok (.invokevirtual 188, 3) := by decide +kernel
theorem dX9_plays_13 : decode cX9_plays 13 = .ok (.ireturn, 1) := by decide +kernel
set_option maxRecDepth 20000 in
theorem ggX9_moves_X9_requirePlay : GoodIn wsX9_moves wsX9_requirePlay := goodIn_ca (goodIn_ca (goodIn_r _ [6, 7, 8, 1, 9, 10, 11, 5, 12, 13, 14, 15, 16, 17, 18, 19, 20, 21, 27, 28, 29, 30, 31, 32, 33, 34, 35, 36, 37, 38, 39, 40, 41, 42, 43, 44, 45, 46, 47, 48, 49, 50, 51, 52, 53] (by decide +kernel) (by decide +kernel)) (goodIn_sub (fun _ h => List.mem_cons_of_mem _ (List.mem_append_left _ (List.mem_append_right _ h))) (by decide +kernel))) (goodIn_sub (fun _ h => List.mem_cons_of_mem _ (List.mem_append_right _ h)) (by decide +kernel))
set_option maxRecDepth 20000 in
theorem gX9_moves_X9_requirePlay : GoodIn wsX9_moves (wsV RX9 191 RX9 yX9_requirePlay wsX9_requirePlay) := goodIn_app (goodIn_of _ (by decide +kernel)) ggX9_moves_X9_requirePlay
set_option maxRecDepth 20000 in
theorem ggX9_moves_X5_length : GoodIn wsX9_moves wsX5_length := goodIn_r _ [25, 26, 44, 45, 46, 47, 48, 49, 50, 51, 52, 53] (by decide +kernel) (by decide +kernel)
set_option maxRecDepth 20000 in
theorem gX9_moves_X5_length : GoodIn wsX9_moves (wsV RX9 194 RX5 yX5_length wsX5_length) := goodIn_app (goodIn_of _ (by decide +kernel)) ggX9_moves_X5_length
theorem dX9_moves_0 : decode cX9_moves 0 = .ok (.aload_n 0, 1) := by decide +kernel
theorem dX9_moves_1 : decode cX9_moves 1 = .ok (.iload_n 1, 1) := by decide +kernel
theorem dX9_moves_2 : decode cX9_moves 2 = .ok (.invokevirtual 191, 3) := by decide +kernel
theorem dX9_moves_5 : decode cX9_moves 5 = .ok (.aload_n 0, 1) := by decide +kernel
theorem dX9_moves_6 : decode cX9_moves 6 = .ok (.getfield 61, 3) := by decide +kernel
theorem dX9_moves_9 : decode cX9_moves 9 = .ok (.invokevirtual 194, 3) := by decide +kernel
theorem dX9_moves_12 : decode cX9_moves 12 = .ok (.ireturn, 1) := by decide +kernel
set_option maxRecDepth 20000 in
theorem ggX9_moveFrom_X9_requireMove : GoodIn wsX9_moveFrom wsX9_requireMove := goodIn_ca (goodIn_ca (goodIn_r _ [5, 6, 7, 8, 9, 10, 11, 4, 12, 13, 14, 15, 16, 17, 18, 19, 20, 21, 22, 23, 24, 25, 26, 27, 28, 29, 30, 31, 32, 33, 34, 35, 36, 37, 38, 42, 43, 44, 45, 46, 47, 48, 49, 50, 51, 52, 53, 54, 55, 56, 57, 58, 59, 60, 61, 62, 63, 64, 65, 66, 67, 68] (by decide +kernel) (by decide +kernel)) (goodIn_sub (fun _ h => List.mem_cons_of_mem _ (List.mem_append_left _ (List.mem_append_right _ h))) (by decide +kernel))) (goodIn_sub (fun _ h => List.mem_cons_of_mem _ (List.mem_append_right _ h)) (by decide +kernel))
set_option maxRecDepth 20000 in
theorem gX9_moveFrom_X9_requireMove : GoodIn wsX9_moveFrom (wsV RX9 197 RX9 yX9_requireMove wsX9_requireMove) := goodIn_app (goodIn_of _ (by decide +kernel)) ggX9_moveFrom_X9_requireMove
set_option maxRecDepth 20000 in
theorem ggX9_moveFrom_X9_fromOf : GoodIn wsX9_moveFrom wsX9_fromOf := goodIn_r _ [41] (by decide +kernel) (by decide +kernel)
set_option maxRecDepth 20000 in
theorem gX9_moveFrom_X9_fromOf : GoodIn wsX9_moveFrom (va_wsS RX9 201 yX9_fromOf wsX9_fromOf) := goodIn_app (goodIn_of _ (by decide +kernel)) ggX9_moveFrom_X9_fromOf
theorem dX9_moveFrom_0 : decode cX9_moveFrom 0 = .ok (.aload_n 0, 1) := by decide +kernel
theorem dX9_moveFrom_1 : decode cX9_moveFrom 1 = .ok (.iload_n 1, 1) := by decide +kernel
theorem dX9_moveFrom_2 : decode cX9_moveFrom 2 = .ok (.iload_n 2, 1) := by decide +kernel
theorem dX9_moveFrom_3 : decode cX9_moveFrom 3 = .ok (.invokevirtual 197, 3) := by decide +kernel
theorem dX9_moveFrom_6 : decode cX9_moveFrom 6 = .ok (.invokestatic 201, 3) := by decide +kernel
theorem dX9_moveFrom_9 : decode cX9_moveFrom 9 = .ok (.ireturn, 1) := by decide +kernel
set_option maxRecDepth 20000 in
theorem ggX9_moveTo_X9_requireMove : GoodIn wsX9_moveTo wsX9_requireMove := goodIn_ca (goodIn_ca (goodIn_r _ [9, 10, 11, 12, 13, 14, 15, 8, 16, 17, 18, 19, 20, 21, 22, 23, 24, 25, 26, 27, 28, 29, 30, 31, 32, 33, 34, 35, 36, 37, 38, 39, 40, 41, 42, 49, 50, 51, 52, 53, 54, 55, 56, 57, 58, 59, 60, 61, 62, 63, 64, 65, 66, 67, 68, 69, 70, 71, 72, 73, 74, 75] (by decide +kernel) (by decide +kernel)) (goodIn_sub (fun _ h => List.mem_cons_of_mem _ (List.mem_append_left _ (List.mem_append_right _ h))) (by decide +kernel))) (goodIn_sub (fun _ h => List.mem_cons_of_mem _ (List.mem_append_right _ h)) (by decide +kernel))
set_option maxRecDepth 20000 in
theorem gX9_moveTo_X9_requireMove : GoodIn wsX9_moveTo (wsV RX9 197 RX9 yX9_requireMove wsX9_requireMove) := goodIn_app (goodIn_of _ (by decide +kernel)) ggX9_moveTo_X9_requireMove
set_option maxRecDepth 20000 in
theorem ggX9_moveTo_X9_fromOf : GoodIn wsX9_moveTo wsX9_fromOf := goodIn_r _ [45] (by decide +kernel) (by decide +kernel)
set_option maxRecDepth 20000 in
theorem gX9_moveTo_X9_fromOf : GoodIn wsX9_moveTo (va_wsS RX9 201 yX9_fromOf wsX9_fromOf) := goodIn_app (goodIn_of _ (by decide +kernel)) ggX9_moveTo_X9_fromOf
set_option maxRecDepth 20000 in
theorem ggX9_moveTo_X9_dieOf : GoodIn wsX9_moveTo wsX9_dieOf := goodIn_r _ [48] (by decide +kernel) (by decide +kernel)
set_option maxRecDepth 20000 in
theorem gX9_moveTo_X9_dieOf : GoodIn wsX9_moveTo (va_wsS RX9 204 yX9_dieOf wsX9_dieOf) := goodIn_app (goodIn_of _ (by decide +kernel)) ggX9_moveTo_X9_dieOf
theorem dX9_moveTo_0 : decode cX9_moveTo 0 = .ok (.aload_n 0, 1) := by decide +kernel
theorem dX9_moveTo_1 : decode cX9_moveTo 1 = .ok (.iload_n 1, 1) := by decide +kernel
theorem dX9_moveTo_2 : decode cX9_moveTo 2 = .ok (.iload_n 2, 1) := by decide +kernel
theorem dX9_moveTo_3 : decode cX9_moveTo 3 = .ok (.invokevirtual 197, 3) := by decide +kernel
theorem dX9_moveTo_6 : decode cX9_moveTo 6 = .ok (.istore_n 3, 1) := by decide +kernel
theorem dX9_moveTo_7 : decode cX9_moveTo 7 = .ok (.iload_n 3, 1) := by decide +kernel
theorem dX9_moveTo_8 : decode cX9_moveTo 8 = .ok (.invokestatic 201, 3) := by decide +kernel
theorem dX9_moveTo_11 : decode cX9_moveTo 11 = .ok (.iload_n 3, 1) := by decide +kernel
theorem dX9_moveTo_12 : decode cX9_moveTo 12 = .ok (.invokestatic 204, 3) := by decide +kernel
theorem dX9_moveTo_15 : decode cX9_moveTo 15 = .ok (.isub, 1) := by decide +kernel
theorem dX9_moveTo_16 : decode cX9_moveTo 16 = .ok (.iconst 0, 1) := by decide +kernel
theorem dX9_moveTo_17 : decode cX9_moveTo 17 = .ok (.invokestatic 207, 3) := by decide +kernel
theorem dX9_moveTo_20 : decode cX9_moveTo 20 = .ok (.ireturn, 1) := by decide +kernel
set_option maxRecDepth 20000 in
theorem ggX9_play_X9_requirePlay : GoodIn wsX9_play wsX9_requirePlay := goodIn_ca (goodIn_ca (goodIn_r _ [5, 6, 7, 8, 9, 10, 11, 4, 12, 13, 14, 15, 16, 17, 18, 19, 20, 21, 171, 172, 173, 174, 175, 176, 177, 178, 179, 180, 181, 182, 183, 184, 185, 186, 187, 188, 189, 190, 191, 192, 193, 194, 195, 196, 197] (by decide +kernel) (by decide +kernel)) (goodIn_sub (fun _ h => List.mem_cons_of_mem _ (List.mem_append_left _ (List.mem_append_right _ h))) (by decide +kernel))) (goodIn_sub (fun _ h => List.mem_cons_of_mem _ (List.mem_append_right _ h)) (by decide +kernel))
set_option maxRecDepth 20000 in
theorem gX9_play_X9_requirePlay : GoodIn wsX9_play (wsV RX9 191 RX9 yX9_requirePlay wsX9_requirePlay) := goodIn_app (goodIn_of _ (by decide +kernel)) ggX9_play_X9_requirePlay
set_option maxRecDepth 20000 in
theorem ggX9_play_X9_carryOut : GoodIn wsX9_play wsX9_carryOut := goodIn_r _ [25, 8, 26, 27, 28, 29, 30, 31, 15, 32, 33, 34, 19, 35, 36, 37, 38, 39, 40, 41, 42, 4, 43, 44, 45, 46, 47, 48, 49, 50, 51, 52, 53, 54, 55, 56, 57, 58, 59, 60, 61, 62, 63, 64, 65, 66, 67, 68, 69, 70, 71, 72, 73, 74, 75, 76, 77, 78, 79, 80, 81, 82, 83, 84, 85, 86, 87, 88, 89, 90, 91, 92, 93, 94, 95, 96, 97, 98, 99, 100, 101, 102, 103, 104, 105, 106, 107, 108, 109, 110, 111, 112, 113, 114, 115, 116, 117, 118, 119, 120, 121, 122, 123, 124, 125, 126, 127, 128, 129, 130, 131, 132, 133, 134, 135, 136, 137, 138, 139, 140, 141, 142, 143, 144, 145, 146, 147, 148, 149, 150, 151, 152, 153, 154, 155, 156, 157, 158, 159, 160, 161, 162, 163, 164, 165, 166, 167, 168, 169, 170, 171, 172, 173, 174, 175, 176, 177, 178, 179, 180, 181, 182, 183, 184, 185, 186, 187, 188, 189, 190, 191, 192, 193, 194, 195, 196, 197, 198, 199, 200, 201, 202, 203, 204, 205, 206, 207, 208, 209, 210, 211, 212, 213, 214, 215, 216, 217, 218, 219, 220, 221, 222, 223] (by decide +kernel) (by decide +kernel)
set_option maxRecDepth 20000 in
theorem gX9_play_X9_carryOut : GoodIn wsX9_play (wsV RX9 212 RX9 yX9_carryOut wsX9_carryOut) := goodIn_app (goodIn_of _ (by decide +kernel)) ggX9_play_X9_carryOut
theorem dX9_play_0 : decode cX9_play 0 = .ok (.aload_n 0, 1) := by decide +kernel
theorem dX9_play_1 : decode cX9_play 1 = .ok (.iload_n 1, 1) := by decide +kernel
theorem dX9_play_2 : decode cX9_play 2 = .ok (.invokevirtual 191, 3) := by decide +kernel
theorem dX9_play_5 : decode cX9_play 5 = .ok (.aload_n 0, 1) := by decide +kernel
theorem dX9_play_6 : decode cX9_play 6 = .ok (.iload_n 1, 1) := by decide +kernel
theorem dX9_play_7 : decode cX9_play 7 = .ok (.invokevirtual 212, 3) := by decide +kernel
theorem dX9_play_10 : decode cX9_play 10 = .ok (.ireturn, 1) := by decide +kernel
set_option maxRecDepth 20000 in
theorem ggX9_move_X9_requirePhase : GoodIn wsX9_move wsX9_requirePhase := goodIn_ca (goodIn_r _ [10, 11, 12, 13, 54, 55, 56, 57, 58, 59, 60, 61, 62, 63, 64, 65, 66, 67, 68, 69, 70] (by decide +kernel) (by decide +kernel)) (goodIn_sub (fun _ h => List.mem_cons_of_mem _ (List.mem_append_right _ h)) (by decide +kernel))
set_option maxRecDepth 20000 in
theorem gX9_move_X9_requirePhase : GoodIn wsX9_move (wsV RX9 168 RX9 yX9_requirePhase wsX9_requirePhase) := goodIn_app (goodIn_of _ (by decide +kernel)) ggX9_move_X9_requirePhase
set_option maxRecDepth 20000 in
theorem ggX9_move_X6_isLeft : GoodIn wsX9_move wsX6_isLeft := goodIn_r _ [18, 19, 20, 21, 22, 71, 72, 73, 74, 75] (by decide +kernel) (by decide +kernel)
set_option maxRecDepth 20000 in
theorem gX9_move_X6_isLeft : GoodIn wsX9_move (wsV RX9 215 RX6 yX6_isLeft wsX6_isLeft) := goodIn_app (goodIn_of _ (by decide +kernel)) ggX9_move_X6_isLeft
set_option maxRecDepth 20000 in
theorem ggX9_move_X0_canStep : GoodIn wsX9_move wsX0_canStep := goodIn_r _ [27, 28, 29, 30, 26, 31, 32, 33, 34, 35, 36, 76] (by decide +kernel) (by decide +kernel)
set_option maxRecDepth 20000 in
theorem gX9_move_X0_canStep : GoodIn wsX9_move (wsV RX9 219 RX0 yX0_canStep wsX0_canStep) := goodIn_app (goodIn_of _ (by decide +kernel)) ggX9_move_X0_canStep
set_option maxRecDepth 20000 in
theorem ggX9_move_X6_use : GoodIn wsX9_move wsX6_use := goodIn_r _ [40, 19, 20, 22, 41, 71, 72, 73, 74, 75] (by decide +kernel) (by decide +kernel)
set_option maxRecDepth 20000 in
theorem gX9_move_X6_use : GoodIn wsX9_move (wsV RX9 228 RX6 yX6_use wsX6_use) := goodIn_app (goodIn_of _ (by decide +kernel)) ggX9_move_X6_use
set_option maxRecDepth 20000 in
theorem ggX9_move_X0_step : GoodIn wsX9_move wsX0_step := goodIn_r _ [45, 46, 47, 48, 49, 50, 51, 52, 26, 53, 32, 28, 29, 30, 31, 76] (by decide +kernel) (by decide +kernel)
set_option maxRecDepth 20000 in
theorem gX9_move_X0_step : GoodIn wsX9_move (wsV RX9 231 RX0 yX0_step wsX0_step) := goodIn_app (goodIn_of _ (by decide +kernel)) ggX9_move_X0_step
theorem dX9_move_0 : decode cX9_move 0 = .ok (.aload_n 0, 1) := by decide +kernel
theorem dX9_move_1 : decode cX9_move 1 = .ok (.bipush 114, 2) := by decide +kernel
theorem dX9_move_3 : decode cX9_move 3 = .ok (.invokevirtual 168, 3) := by decide +kernel
theorem dX9_move_6 : decode cX9_move 6 = .ok (.aload_n 0, 1) := by decide +kernel
theorem dX9_move_7 : decode cX9_move 7 = .ok (.getfield 40, 3) := by decide +kernel
theorem dX9_move_10 : decode cX9_move 10 = .ok (.iload_n 2, 1) := by decide +kernel
theorem dX9_move_11 : decode cX9_move 11 = .ok (.invokevirtual 215, 3) := by decide +kernel
theorem dX9_move_14 : decode cX9_move 14 = .ok (.ifCond .eq 19, 3) := by decide +kernel
theorem dX9_move_17 : decode cX9_move 17 = .ok (.aload_n 0, 1) := by decide +kernel
theorem dX9_move_18 : decode cX9_move 18 = .ok (.getfield 75, 3) := by decide +kernel
theorem dX9_move_21 : decode cX9_move 21 = .ok (.aload_n 0, 1) := by decide +kernel
theorem dX9_move_22 : decode cX9_move 22 = .ok (.getfield 85, 3) := by decide +kernel
theorem dX9_move_25 : decode cX9_move 25 = .ok (.iload_n 1, 1) := by decide +kernel
theorem dX9_move_26 : decode cX9_move 26 = .ok (.iload_n 2, 1) := by decide +kernel
theorem dX9_move_27 : decode cX9_move 27 = .ok (.invokevirtual 219, 3) := by decide +kernel
theorem dX9_move_30 : decode cX9_move 30 = .ok (.ifCond .ne 13, 3) := by decide +kernel
theorem dX9_move_33 : decode cX9_move 33 = .ok (.new 223, 3) := by decide +kernel
theorem dX9_move_36 : decode cX9_move 36 = .ok (.dup, 1) := by decide +kernel
theorem dX9_move_37 : decode cX9_move 37 = .ok (.ldc 225, 2) := by decide +kernel
theorem dX9_move_39 : decode cX9_move 39 = .ok (.invokespecial 227, 3) := by decide +kernel
theorem dX9_move_42 : decode cX9_move 42 = .ok (.athrow, 1) := by decide +kernel
theorem dX9_move_43 : decode cX9_move 43 = .ok (.aload_n 0, 1) := by decide +kernel
theorem dX9_move_44 : decode cX9_move 44 = .ok (.getfield 40, 3) := by decide +kernel
theorem dX9_move_47 : decode cX9_move 47 = .ok (.iload_n 2, 1) := by decide +kernel
theorem dX9_move_48 : decode cX9_move 48 = .ok (.invokevirtual 228, 3) := by decide +kernel
theorem dX9_move_51 : decode cX9_move 51 = .ok (.aload_n 0, 1) := by decide +kernel
theorem dX9_move_52 : decode cX9_move 52 = .ok (.getfield 75, 3) := by decide +kernel
theorem dX9_move_55 : decode cX9_move 55 = .ok (.aload_n 0, 1) := by decide +kernel
theorem dX9_move_56 : decode cX9_move 56 = .ok (.getfield 85, 3) := by decide +kernel
theorem dX9_move_59 : decode cX9_move 59 = .ok (.iload_n 1, 1) := by decide +kernel
theorem dX9_move_60 : decode cX9_move 60 = .ok (.iload_n 2, 1) := by decide +kernel
theorem dX9_move_61 : decode cX9_move 61 = .ok (.invokevirtual 231, 3) := by decide +kernel
theorem dX9_move_64 : decode cX9_move 64 = .ok (.ireturn, 1) := by decide +kernel
set_option maxRecDepth 20000 in
theorem ggX9_undo_X9_requirePhase : GoodIn wsX9_undo wsX9_requirePhase := goodIn_ca (goodIn_r _ [8, 9, 10, 11, 28, 29, 30, 31, 32, 33, 34, 35, 36, 37, 38, 39, 40, 41, 42, 43, 44] (by decide +kernel) (by decide +kernel)) (goodIn_sub (fun _ h => List.mem_cons_of_mem _ (List.mem_append_right _ h)) (by decide +kernel))
set_option maxRecDepth 20000 in
theorem gX9_undo_X9_requirePhase : GoodIn wsX9_undo (wsV RX9 168 RX9 yX9_requirePhase wsX9_requirePhase) := goodIn_app (goodIn_of _ (by decide +kernel)) ggX9_undo_X9_requirePhase
set_option maxRecDepth 20000 in
theorem ggX9_undo_X0_become : GoodIn wsX9_undo wsX0_become := goodIn_r _ [16, 17, 45] (by decide +kernel) (by decide +kernel)
set_option maxRecDepth 20000 in
theorem gX9_undo_X0_become : GoodIn wsX9_undo (wsV RX9 147 RX0 yX0_become wsX0_become) := goodIn_app (goodIn_of _ (by decide +kernel)) ggX9_undo_X0_become
set_option maxRecDepth 20000 in
theorem ggX9_undo_X6_takeBack : GoodIn wsX9_undo wsX6_takeBack := goodIn_r _ [22, 23, 24, 25, 26, 27, 46, 47, 48, 49, 50] (by decide +kernel) (by decide +kernel)
set_option maxRecDepth 20000 in
theorem gX9_undo_X6_takeBack : GoodIn wsX9_undo (wsV RX9 234 RX6 yX6_takeBack wsX6_takeBack) := goodIn_app (goodIn_of _ (by decide +kernel)) ggX9_undo_X6_takeBack
theorem dX9_undo_0 : decode cX9_undo 0 = .ok (.aload_n 0, 1) := by decide +kernel
theorem dX9_undo_1 : decode cX9_undo 1 = .ok (.bipush 114, 2) := by decide +kernel
theorem dX9_undo_3 : decode cX9_undo 3 = .ok (.invokevirtual 168, 3) := by decide +kernel
theorem dX9_undo_6 : decode cX9_undo 6 = .ok (.aload_n 0, 1) := by decide +kernel
theorem dX9_undo_7 : decode cX9_undo 7 = .ok (.getfield 75, 3) := by decide +kernel
theorem dX9_undo_10 : decode cX9_undo 10 = .ok (.aload_n 0, 1) := by decide +kernel
theorem dX9_undo_11 : decode cX9_undo 11 = .ok (.getfield 71, 3) := by decide +kernel
theorem dX9_undo_14 : decode cX9_undo 14 = .ok (.invokevirtual 147, 3) := by decide +kernel
theorem dX9_undo_17 : decode cX9_undo 17 = .ok (.aload_n 0, 1) := by decide +kernel
theorem dX9_undo_18 : decode cX9_undo 18 = .ok (.getfield 40, 3) := by decide +kernel
theorem dX9_undo_21 : decode cX9_undo 21 = .ok (.invokevirtual 234, 3) := by decide +kernel
theorem dX9_undo_24 : decode cX9_undo 24 = .ok (.ireturn, 1) := by decide +kernel
set_option maxRecDepth 20000 in
theorem ggX9_finish_X9_requirePhase : GoodIn wsX9_finish wsX9_requirePhase := goodIn_ca (goodIn_r _ [7, 8, 9, 10, 176, 177, 178, 179, 180, 181, 182, 183, 184, 185, 186, 187, 188, 189, 190, 191, 192] (by decide +kernel) (by decide +kernel)) (goodIn_sub (fun _ h => List.mem_cons_of_mem _ (List.mem_append_right _ h)) (by decide +kernel))
set_option maxRecDepth 20000 in
theorem gX9_finish_X9_requirePhase : GoodIn wsX9_finish (wsV RX9 168 RX9 yX9_requirePhase wsX9_requirePhase) := goodIn_app (goodIn_of _ (by decide +kernel)) ggX9_finish_X9_requirePhase
set_option maxRecDepth 20000 in
theorem ggX9_finish_X9_numberOfPlayToBoard : GoodIn wsX9_finish wsX9_numberOfPlayToBoard := goodIn_r _ [14, 15, 16, 17, 18, 19, 20, 21, 22, 23, 24, 25, 26, 27, 28, 29, 30, 31, 32, 33, 34, 35, 36, 37, 38, 39, 40, 41, 6, 42, 43, 44, 45, 46, 47, 48, 49, 50, 51, 52, 53, 54, 55, 56, 57, 58, 59, 60, 61, 62, 63, 64, 65, 66, 176, 177, 178, 179, 180, 181, 182, 183, 184, 185, 186, 187, 188, 189, 190, 191, 192, 193, 194, 195, 196, 197, 198, 199, 200, 201, 202, 203] (by decide +kernel) (by decide +kernel)
set_option maxRecDepth 20000 in
theorem gX9_finish_X9_numberOfPlayToBoard : GoodIn wsX9_finish (wsV RX9 237 RX9 yX9_numberOfPlayToBoard wsX9_numberOfPlayToBoard) := goodIn_app (goodIn_of _ (by decide +kernel)) ggX9_finish_X9_numberOfPlayToBoard
set_option maxRecDepth 20000 in
theorem ggX9_finish_X9_carryOut : GoodIn wsX9_finish wsX9_carryOut := goodIn_r _ [70, 15, 17, 18, 19, 71, 72, 73, 10, 32, 33, 34, 23, 35, 36, 37, 38, 39, 29, 40, 41, 6, 42, 43, 44, 45, 46, 47, 48, 49, 50, 51, 52, 53, 54, 55, 56, 57, 58, 31, 59, 60, 61, 62, 26, 27, 28, 30, 74, 75, 76, 77, 78, 79, 80, 81, 82, 83, 84, 85, 86, 87, 88, 89, 90, 91, 92, 93, 94, 95, 96, 97, 98, 99, 100, 101, 102, 103, 104, 105, 106, 107, 108, 109, 110, 111, 112, 113, 114, 115, 116, 117, 118, 119, 120, 121, 122, 123, 124, 125, 126, 127, 128, 129, 130, 131, 132, 133, 134, 135, 136, 137, 138, 139, 140, 141, 142, 143, 144, 145, 146, 147, 148, 149, 150, 151, 152, 153, 154, 155, 156, 157, 158, 159, 160, 161, 162, 163, 164, 165, 166, 167, 168, 169, 170, 171, 172, 173, 174, 175, 176, 177, 178, 179, 180, 181, 182, 183, 184, 185, 186, 187, 188, 189, 190, 191, 192, 193, 194, 195, 196, 197, 198, 199, 200, 201, 202, 203, 204, 205, 206, 207, 208, 209, 210, 211, 212, 213, 214, 215, 216, 217, 218, 219, 220, 221, 222, 223, 224, 225, 226, 227, 228] (by decide +kernel) (by decide +kernel)
set_option maxRecDepth 20000 in
theorem gX9_finish_X9_carryOut : GoodIn wsX9_finish (wsV RX9 212 RX9 yX9_carryOut wsX9_carryOut) := goodIn_app (goodIn_of _ (by decide +kernel)) ggX9_finish_X9_carryOut
theorem dX9_finish_0 : decode cX9_finish 0 = .ok (.aload_n 0, 1) := by decide +kernel
theorem dX9_finish_1 : decode cX9_finish 1 = .ok (.bipush 114, 2) := by decide +kernel
theorem dX9_finish_3 : decode cX9_finish 3 = .ok (.invokevirtual 168, 3) := by decide +kernel
theorem dX9_finish_6 : decode cX9_finish 6 = .ok (.aload_n 0, 1) := by decide +kernel
theorem dX9_finish_7 : decode cX9_finish 7 = .ok (.invokevirtual 237, 3) := by decide +kernel
theorem dX9_finish_10 : decode cX9_finish 10 = .ok (.istore_n 1, 1) := by decide +kernel
theorem dX9_finish_11 : decode cX9_finish 11 = .ok (.iload_n 1, 1) := by decide +kernel
theorem dX9_finish_12 : decode cX9_finish 12 = .ok (.ifCond .ge 13, 3) := by decide +kernel
theorem dX9_finish_15 : decode cX9_finish 15 = .ok (.new 223, 3) := by decide +kernel
theorem dX9_finish_18 : decode cX9_finish 18 = .ok (.dup, 1) := by decide +kernel
theorem dX9_finish_19 : decode cX9_finish 19 = .ok (.ldc 240, 2) := by decide +kernel
theorem dX9_finish_21 : decode cX9_finish 21 = .ok (.invokespecial 227, 3) := by decide +kernel
theorem dX9_finish_24 : decode cX9_finish 24 = .ok (.athrow, 1) := by decide +kernel
theorem dX9_finish_25 : decode cX9_finish 25 = .ok (.aload_n 0, 1) := by decide +kernel
theorem dX9_finish_26 : decode cX9_finish 26 = .ok (.iload_n 1, 1) := by decide +kernel
theorem dX9_finish_27 : decode cX9_finish 27 = .ok (.invokevirtual 212, 3) := by decide +kernel
theorem dX9_finish_30 : decode cX9_finish 30 = .ok (.pop, 1) := by decide +kernel
theorem dX9_finish_31 : decode cX9_finish 31 = .ok (.iload_n 1, 1) := by decide +kernel
theorem dX9_finish_32 : decode cX9_finish 32 = .ok (.ireturn, 1) := by decide +kernel
set_option maxRecDepth 20000 in
theorem ggX9_men_X9_requireSide : GoodIn wsX9_men wsX9_requireSide := goodIn_ca (goodIn_r _ [7, 8, 9] (by decide +kernel) (by decide +kernel)) (goodIn_sub (fun _ h => List.mem_cons_of_mem _ (List.mem_append_right _ h)) (by decide +kernel))
set_option maxRecDepth 20000 in
theorem gX9_men_X9_requireSide : GoodIn wsX9_men (va_wsS RX9 126 yX9_requireSide wsX9_requireSide) := goodIn_app (goodIn_of _ (by decide +kernel)) ggX9_men_X9_requireSide
set_option maxRecDepth 20000 in
theorem ggX9_men_X0_at : GoodIn wsX9_men wsX0_at := goodIn_r _ [14, 15, 33] (by decide +kernel) (by decide +kernel)
set_option maxRecDepth 20000 in
theorem gX9_men_X0_at : GoodIn wsX9_men (wsV RX9 247 RX0 yX0_at wsX0_at) := goodIn_app (goodIn_of _ (by decide +kernel)) ggX9_men_X0_at
theorem dX9_men_0 : decode cX9_men 0 = .ok (.iload_n 1, 1) := by decide +kernel
theorem dX9_men_1 : decode cX9_men 1 = .ok (.invokestatic 126, 3) := by decide +kernel
theorem dX9_men_4 : decode cX9_men 4 = .ok (.iload_n 2, 1) := by decide +kernel
theorem dX9_men_5 : decode cX9_men 5 = .ok (.ifCond .lt 9, 3) := by decide +kernel
theorem dX9_men_8 : decode cX9_men 8 = .ok (.iload_n 2, 1) := by decide +kernel
theorem dX9_men_9 : decode cX9_men 9 = .ok (.bipush 25, 2) := by decide +kernel
theorem dX9_men_11 : decode cX9_men 11 = .ok (.if_icmp .le 13, 3) := by decide +kernel
theorem dX9_men_14 : decode cX9_men 14 = .ok (.new 242, 3) := by decide +kernel
theorem dX9_men_17 : decode cX9_men 17 = .ok (.dup, 1) := by decide +kernel
theorem dX9_men_18 : decode cX9_men 18 = .ok (.ldc 244, 2) := by decide +kernel
theorem dX9_men_20 : decode cX9_men 20 = .ok (.invokespecial 246, 3) := by decide +kernel
theorem dX9_men_23 : decode cX9_men 23 = .ok (.athrow, 1) := by decide +kernel
theorem dX9_men_24 : decode cX9_men 24 = .ok (.aload_n 0, 1) := by decide +kernel
theorem dX9_men_25 : decode cX9_men 25 = .ok (.getfield 75, 3) := by decide +kernel
theorem dX9_men_28 : decode cX9_men 28 = .ok (.iload_n 1, 1) := by decide +kernel
theorem dX9_men_29 : decode cX9_men 29 = .ok (.iload_n 2, 1) := by decide +kernel
theorem dX9_men_30 : decode cX9_men 30 = .ok (.invokevirtual 247, 3) := by decide +kernel
theorem dX9_men_33 : decode cX9_men 33 = .ok (.ireturn, 1) := by decide +kernel
set_option maxRecDepth 20000 in
theorem ggX9_pips_X9_requireSide : GoodIn wsX9_pips wsX9_requireSide := goodIn_ca (goodIn_r _ [5, 6, 7] (by decide +kernel) (by decide +kernel)) (goodIn_sub (fun _ h => List.mem_cons_of_mem _ (List.mem_append_right _ h)) (by decide +kernel))
set_option maxRecDepth 20000 in
theorem gX9_pips_X9_requireSide : GoodIn wsX9_pips (va_wsS RX9 126 yX9_requireSide wsX9_requireSide) := goodIn_app (goodIn_of _ (by decide +kernel)) ggX9_pips_X9_requireSide
set_option maxRecDepth 20000 in
theorem ggX9_pips_X0_pipsOf : GoodIn wsX9_pips wsX0_pipsOf := goodIn_r _ [12, 13, 14, 15, 11, 16, 17, 35] (by decide +kernel) (by decide +kernel)
set_option maxRecDepth 20000 in
theorem gX9_pips_X0_pipsOf : GoodIn wsX9_pips (wsV RX9 250 RX0 yX0_pipsOf wsX0_pipsOf) := goodIn_app (goodIn_of _ (by decide +kernel)) ggX9_pips_X0_pipsOf
theorem dX9_pips_0 : decode cX9_pips 0 = .ok (.iload_n 1, 1) := by decide +kernel
theorem dX9_pips_1 : decode cX9_pips 1 = .ok (.invokestatic 126, 3) := by decide +kernel
theorem dX9_pips_4 : decode cX9_pips 4 = .ok (.aload_n 0, 1) := by decide +kernel
theorem dX9_pips_5 : decode cX9_pips 5 = .ok (.getfield 75, 3) := by decide +kernel
theorem dX9_pips_8 : decode cX9_pips 8 = .ok (.iload_n 1, 1) := by decide +kernel
theorem dX9_pips_9 : decode cX9_pips 9 = .ok (.invokevirtual 250, 3) := by decide +kernel
theorem dX9_pips_12 : decode cX9_pips 12 = .ok (.ireturn, 1) := by decide +kernel
theorem dX9_cube_0 : decode cX9_cube 0 = .ok (.aload_n 0, 1) := by decide +kernel
theorem dX9_cube_1 : decode cX9_cube 1 = .ok (.getfield 89, 3) := by decide +kernel
theorem dX9_cube_4 : decode cX9_cube 4 = .ok (.ireturn, 1) := by decide +kernel
theorem dX9_owner_0 : decode cX9_owner 0 = .ok (.aload_n 0, 1) := by decide +kernel
theorem dX9_owner_1 : decode cX9_owner 1 = .ok (.getfield 92, 3) := by decide +kernel
theorem dX9_owner_4 : decode cX9_owner 4 = .ok (.ireturn, 1) := by decide +kernel
set_option maxRecDepth 20000 in
theorem ggX9_offer_X9_requirePhase : GoodIn wsX9_offer wsX9_requirePhase := goodIn_ca (goodIn_r _ [12, 13, 14, 7, 21, 22, 23, 24, 25, 26, 27, 28, 29, 30, 31, 32, 33, 34, 35, 36, 37] (by decide +kernel) (by decide +kernel)) (goodIn_sub (fun _ h => List.mem_cons_of_mem _ (List.mem_append_right _ h)) (by decide +kernel))
set_option maxRecDepth 20000 in
theorem gX9_offer_X9_requirePhase : GoodIn wsX9_offer (wsV RX9 168 RX9 yX9_requirePhase wsX9_requirePhase) := goodIn_app (goodIn_of _ (by decide +kernel)) ggX9_offer_X9_requirePhase
set_option maxRecDepth 20000 in
theorem ggX9_offer_X4_isCrawford : GoodIn wsX9_offer wsX4_isCrawford := goodIn_r _ [19, 20, 38, 39, 40, 41, 42, 43, 44] (by decide +kernel) (by decide +kernel)
set_option maxRecDepth 20000 in
theorem gX9_offer_X4_isCrawford : GoodIn wsX9_offer (wsV RX9 155 RX4 yX4_isCrawford wsX4_isCrawford) := goodIn_app (goodIn_of _ (by decide +kernel)) ggX9_offer_X4_isCrawford
theorem dX9_offer_0 : decode cX9_offer 0 = .ok (.aload_n 0, 1) := by decide +kernel
theorem dX9_offer_1 : decode cX9_offer 1 = .ok (.bipush 100, 2) := by decide +kernel
theorem dX9_offer_3 : decode cX9_offer 3 = .ok (.invokevirtual 168, 3) := by decide +kernel
theorem dX9_offer_6 : decode cX9_offer 6 = .ok (.aload_n 0, 1) := by decide +kernel
theorem dX9_offer_7 : decode cX9_offer 7 = .ok (.getfield 89, 3) := by decide +kernel
theorem dX9_offer_10 : decode cX9_offer 10 = .ok (.bipush 64, 2) := by decide +kernel
theorem dX9_offer_12 : decode cX9_offer 12 = .ok (.if_icmp .ge 26, 3) := by decide +kernel
theorem dX9_offer_15 : decode cX9_offer 15 = .ok (.aload_n 0, 1) := by decide +kernel
theorem dX9_offer_16 : decode cX9_offer 16 = .ok (.getfield 92, 3) := by decide +kernel
theorem dX9_offer_19 : decode cX9_offer 19 = .ok (.iconst 1, 1) := by decide +kernel
theorem dX9_offer_20 : decode cX9_offer 20 = .ok (.aload_n 0, 1) := by decide +kernel
theorem dX9_offer_21 : decode cX9_offer 21 = .ok (.getfield 85, 3) := by decide +kernel
theorem dX9_offer_24 : decode cX9_offer 24 = .ok (.isub, 1) := by decide +kernel
theorem dX9_offer_25 : decode cX9_offer 25 = .ok (.if_icmp .eq 13, 3) := by decide +kernel
theorem dX9_offer_28 : decode cX9_offer 28 = .ok (.aload_n 0, 1) := by decide +kernel
theorem dX9_offer_29 : decode cX9_offer 29 = .ok (.getfield 10, 3) := by decide +kernel
theorem dX9_offer_32 : decode cX9_offer 32 = .ok (.invokevirtual 155, 3) := by decide +kernel
theorem dX9_offer_35 : decode cX9_offer 35 = .ok (.ifCond .eq 13, 3) := by decide +kernel
theorem dX9_offer_38 : decode cX9_offer 38 = .ok (.new 223, 3) := by decide +kernel
theorem dX9_offer_41 : decode cX9_offer 41 = .ok (.dup, 1) := by decide +kernel
theorem dX9_offer_42 : decode cX9_offer 42 = .ok (.ldc 253, 2) := by decide +kernel
theorem dX9_offer_44 : decode cX9_offer 44 = .ok (.invokespecial 227, 3) := by decide +kernel
theorem dX9_offer_47 : decode cX9_offer 47 = .ok (.athrow, 1) := by decide +kernel
theorem dX9_offer_48 : decode cX9_offer 48 = .ok (.aload_n 0, 1) := by decide +kernel
theorem dX9_offer_49 : decode cX9_offer 49 = .ok (.bipush 116, 2) := by decide +kernel
theorem dX9_offer_51 : decode cX9_offer 51 = .ok (.putfield 81, 3) := by decide +kernel
theorem dX9_offer_54 : decode cX9_offer 54 = .ok (.iconst 2, 1) := by decide +kernel
theorem dX9_offer_55 : decode cX9_offer 55 = .ok (.aload_n 0, 1) := by decide +kernel
theorem dX9_offer_56 : decode cX9_offer 56 = .ok (.getfield 89, 3) := by decide +kernel
theorem dX9_offer_59 : decode cX9_offer 59 = .ok (.imul, 1) := by decide +kernel
theorem dX9_offer_60 : decode cX9_offer 60 = .ok (.ireturn, 1) := by decide +kernel
set_option maxRecDepth 20000 in
theorem ggX9_take_X9_requirePhase : GoodIn wsX9_take wsX9_requirePhase := goodIn_ca (goodIn_r _ [5, 6, 7, 8, 16, 17, 18, 19, 20, 21, 22, 23, 24, 25, 26, 27, 28, 29, 30, 31, 32] (by decide +kernel) (by decide +kernel)) (goodIn_sub (fun _ h => List.mem_cons_of_mem _ (List.mem_append_right _ h)) (by decide +kernel))
set_option maxRecDepth 20000 in
theorem gX9_take_X9_requirePhase : GoodIn wsX9_take (wsV RX9 168 RX9 yX9_requirePhase wsX9_requirePhase) := goodIn_app (goodIn_of _ (by decide +kernel)) ggX9_take_X9_requirePhase
set_option maxRecDepth 20000 in
theorem ggX9_take_X9_turnCube : GoodIn wsX9_take wsX9_turnCube := goodIn_r _ [12, 13, 14, 15, 8, 16, 17, 18, 19, 20, 21, 22, 23, 24, 25, 26, 27, 28, 29, 30, 31, 32] (by decide +kernel) (by decide +kernel)
set_option maxRecDepth 20000 in
theorem gX9_take_X9_turnCube : GoodIn wsX9_take (wsV RX9 255 RX9 yX9_turnCube wsX9_turnCube) := goodIn_app (goodIn_of _ (by decide +kernel)) ggX9_take_X9_turnCube
theorem dX9_take_0 : decode cX9_take 0 = .ok (.aload_n 0, 1) := by decide +kernel
theorem dX9_take_1 : decode cX9_take 1 = .ok (.bipush 116, 2) := by decide +kernel
theorem dX9_take_3 : decode cX9_take 3 = .ok (.invokevirtual 168, 3) := by decide +kernel
theorem dX9_take_6 : decode cX9_take 6 = .ok (.aload_n 0, 1) := by decide +kernel
theorem dX9_take_7 : decode cX9_take 7 = .ok (.iconst 2, 1) := by decide +kernel
theorem dX9_take_8 : decode cX9_take 8 = .ok (.invokevirtual 255, 3) := by decide +kernel
theorem dX9_take_11 : decode cX9_take 11 = .ok (.ireturn, 1) := by decide +kernel
set_option maxRecDepth 20000 in
theorem ggX9_drop_X9_requirePhase : GoodIn wsX9_drop wsX9_requirePhase := goodIn_ca (goodIn_r _ [7, 8, 9, 10, 51, 52, 53, 54, 55, 56, 57, 58, 59, 60, 61, 62, 63, 64, 65, 66, 67] (by decide +kernel) (by decide +kernel)) (goodIn_sub (fun _ h => List.mem_cons_of_mem _ (List.mem_append_right _ h)) (by decide +kernel))
set_option maxRecDepth 20000 in
theorem gX9_drop_X9_requirePhase : GoodIn wsX9_drop (wsV RX9 168 RX9 yX9_requirePhase wsX9_requirePhase) := goodIn_app (goodIn_of _ (by decide +kernel)) ggX9_drop_X9_requirePhase
set_option maxRecDepth 20000 in
theorem ggX9_drop_X9_endGame : GoodIn wsX9_drop wsX9_endGame := goodIn_r _ [14, 10, 15, 16, 2, 17, 18, 19, 20, 21, 22, 23, 24, 25, 26, 27, 28, 29, 30, 31, 32, 33, 34, 35, 36, 37, 38, 39, 40, 41, 42, 43, 44, 45, 46, 47, 48, 49, 50, 51, 52, 53, 54, 55, 56, 57, 58, 59, 60, 61, 62, 63, 64, 65, 66, 67, 68, 69, 70, 71, 72, 73, 74, 75, 76, 77] (by decide +kernel) (by decide +kernel)
set_option maxRecDepth 20000 in
theorem gX9_drop_X9_endGame : GoodIn wsX9_drop (wsV RX9 258 RX9 yX9_endGame wsX9_endGame) := goodIn_app (goodIn_of _ (by decide +kernel)) ggX9_drop_X9_endGame
theorem dX9_drop_0 : decode cX9_drop 0 = .ok (.aload_n 0, 1) := by decide +kernel
theorem dX9_drop_1 : decode cX9_drop 1 = .ok (.bipush 116, 2) := by decide +kernel
theorem dX9_drop_3 : decode cX9_drop 3 = .ok (.invokevirtual 168, 3) := by decide +kernel
theorem dX9_drop_6 : decode cX9_drop 6 = .ok (.aload_n 0, 1) := by decide +kernel
theorem dX9_drop_7 : decode cX9_drop 7 = .ok (.aload_n 0, 1) := by decide +kernel
theorem dX9_drop_8 : decode cX9_drop 8 = .ok (.getfield 85, 3) := by decide +kernel
theorem dX9_drop_11 : decode cX9_drop 11 = .ok (.iconst 1, 1) := by decide +kernel
theorem dX9_drop_12 : decode cX9_drop 12 = .ok (.invokevirtual 258, 3) := by decide +kernel
theorem dX9_drop_15 : decode cX9_drop 15 = .ok (.aload_n 0, 1) := by decide +kernel
theorem dX9_drop_16 : decode cX9_drop 16 = .ok (.getfield 89, 3) := by decide +kernel
theorem dX9_drop_19 : decode cX9_drop 19 = .ok (.ireturn, 1) := by decide +kernel
set_option maxRecDepth 20000 in
theorem ggX9_beaver_X9_requirePhase : GoodIn wsX9_beaver wsX9_requirePhase := goodIn_ca (goodIn_r _ [9, 10, 11, 12, 26, 27, 28, 29, 30, 31, 32, 33, 34, 35, 36, 37, 38, 39, 40, 41, 42] (by decide +kernel) (by decide +kernel)) (goodIn_sub (fun _ h => List.mem_cons_of_mem _ (List.mem_append_right _ h)) (by decide +kernel))
set_option maxRecDepth 20000 in
theorem gX9_beaver_X9_requirePhase : GoodIn wsX9_beaver (wsV RX9 168 RX9 yX9_requirePhase wsX9_requirePhase) := goodIn_app (goodIn_of _ (by decide +kernel)) ggX9_beaver_X9_requirePhase
set_option maxRecDepth 20000 in
theorem ggX9_beaver_X4_isForMoney : GoodIn wsX9_beaver wsX4_isForMoney := goodIn_r _ [17, 18, 19, 43, 44, 45, 46, 47, 48, 49] (by decide +kernel) (by decide +kernel)
set_option maxRecDepth 20000 in
theorem gX9_beaver_X4_isForMoney : GoodIn wsX9_beaver (wsV RX9 261 RX4 yX4_isForMoney wsX4_isForMoney) := goodIn_app (goodIn_of _ (by decide +kernel)) ggX9_beaver_X4_isForMoney
set_option maxRecDepth 20000 in
theorem ggX9_beaver_X9_turnCube : GoodIn wsX9_beaver wsX9_turnCube := goodIn_r _ [23, 4, 24, 25, 12, 26, 27, 28, 29, 30, 31, 32, 33, 34, 35, 36, 37, 38, 39, 40, 41, 42] (by decide +kernel) (by decide +kernel)
set_option maxRecDepth 20000 in
theorem gX9_beaver_X9_turnCube : GoodIn wsX9_beaver (wsV RX9 255 RX9 yX9_turnCube wsX9_turnCube) := goodIn_app (goodIn_of _ (by decide +kernel)) ggX9_beaver_X9_turnCube
theorem dX9_beaver_0 : decode cX9_beaver 0 = .ok (.aload_n 0, 1) := by decide +kernel
theorem dX9_beaver_1 : decode cX9_beaver 1 = .ok (.bipush 116, 2) := by decide +kernel
theorem dX9_beaver_3 : decode cX9_beaver 3 = .ok (.invokevirtual 168, 3) := by decide +kernel
theorem dX9_beaver_6 : decode cX9_beaver 6 = .ok (.aload_n 0, 1) := by decide +kernel
theorem dX9_beaver_7 : decode cX9_beaver 7 = .ok (.getfield 10, 3) := by decide +kernel
theorem dX9_beaver_10 : decode cX9_beaver 10 = .ok (.invokevirtual 261, 3) := by decide +kernel
theorem dX9_beaver_13 : decode cX9_beaver 13 = .ok (.ifCond .eq 14, 3) := by decide +kernel
theorem dX9_beaver_16 : decode cX9_beaver 16 = .ok (.iconst 4, 1) := by decide +kernel
theorem dX9_beaver_17 : decode cX9_beaver 17 = .ok (.aload_n 0, 1) := by decide +kernel
theorem dX9_beaver_18 : decode cX9_beaver 18 = .ok (.getfield 89, 3) := by decide +kernel
theorem dX9_beaver_21 : decode cX9_beaver 21 = .ok (.imul, 1) := by decide +kernel
theorem dX9_beaver_22 : decode cX9_beaver 22 = .ok (.bipush 64, 2) := by decide +kernel
theorem dX9_beaver_24 : decode cX9_beaver 24 = .ok (.if_icmp .le 14, 3) := by decide +kernel
theorem dX9_beaver_27 : decode cX9_beaver 27 = .ok (.new 223, 3) := by decide +kernel
theorem dX9_beaver_30 : decode cX9_beaver 30 = .ok (.dup, 1) := by decide +kernel
theorem dX9_beaver_31 : decode cX9_beaver 31 = .ok (.ldc_w 264, 3) := by decide +kernel
theorem dX9_beaver_34 : decode cX9_beaver 34 = .ok (.invokespecial 227, 3) := by decide +kernel
theorem dX9_beaver_37 : decode cX9_beaver 37 = .ok (.athrow, 1) := by decide +kernel
theorem dX9_beaver_38 : decode cX9_beaver 38 = .ok (.aload_n 0, 1) := by decide +kernel
theorem dX9_beaver_39 : decode cX9_beaver 39 = .ok (.iconst 4, 1) := by decide +kernel
theorem dX9_beaver_40 : decode cX9_beaver 40 = .ok (.invokevirtual 255, 3) := by decide +kernel
theorem dX9_beaver_43 : decode cX9_beaver 43 = .ok (.ireturn, 1) := by decide +kernel
set_option maxRecDepth 20000 in
theorem ggX9_worth_X9_requireSide : GoodIn wsX9_worth wsX9_requireSide := goodIn_ca (goodIn_r _ [8, 9, 10] (by decide +kernel) (by decide +kernel)) (goodIn_sub (fun _ h => List.mem_cons_of_mem _ (List.mem_append_right _ h)) (by decide +kernel))
set_option maxRecDepth 20000 in
theorem gX9_worth_X9_requireSide : GoodIn wsX9_worth (va_wsS RX9 126 yX9_requireSide wsX9_requireSide) := goodIn_app (goodIn_of _ (by decide +kernel)) ggX9_worth_X9_requireSide
set_option maxRecDepth 20000 in
theorem ggX9_worth_X0_worthFor : GoodIn wsX9_worth wsX0_worthFor := goodIn_r _ [15, 16, 34] (by decide +kernel) (by decide +kernel)
set_option maxRecDepth 20000 in
theorem gX9_worth_X0_worthFor : GoodIn wsX9_worth (wsV RX9 266 RX0 yX0_worthFor wsX0_worthFor) := goodIn_app (goodIn_of _ (by decide +kernel)) ggX9_worth_X0_worthFor
theorem dX9_worth_0 : decode cX9_worth 0 = .ok (.iload_n 1, 1) := by decide +kernel
theorem dX9_worth_1 : decode cX9_worth 1 = .ok (.invokestatic 126, 3) := by decide +kernel
theorem dX9_worth_4 : decode cX9_worth 4 = .ok (.aload_n 0, 1) := by decide +kernel
theorem dX9_worth_5 : decode cX9_worth 5 = .ok (.getfield 81, 3) := by decide +kernel
theorem dX9_worth_8 : decode cX9_worth 8 = .ok (.bipush 45, 2) := by decide +kernel
theorem dX9_worth_10 : decode cX9_worth 10 = .ok (.if_icmp .ne 13, 3) := by decide +kernel
theorem dX9_worth_13 : decode cX9_worth 13 = .ok (.new 117, 3) := by decide +kernel
theorem dX9_worth_16 : decode cX9_worth 16 = .ok (.dup, 1) := by decide +kernel
theorem dX9_worth_17 : decode cX9_worth 17 = .ok (.ldc 158, 2) := by decide +kernel
theorem dX9_worth_19 : decode cX9_worth 19 = .ok (.invokespecial 121, 3) := by decide +kernel
theorem dX9_worth_22 : decode cX9_worth 22 = .ok (.athrow, 1) := by decide +kernel
theorem dX9_worth_23 : decode cX9_worth 23 = .ok (.aload_n 0, 1) := by decide +kernel
theorem dX9_worth_24 : decode cX9_worth 24 = .ok (.getfield 75, 3) := by decide +kernel
theorem dX9_worth_27 : decode cX9_worth 27 = .ok (.iload_n 1, 1) := by decide +kernel
theorem dX9_worth_28 : decode cX9_worth 28 = .ok (.invokevirtual 266, 3) := by decide +kernel
theorem dX9_worth_31 : decode cX9_worth 31 = .ok (.ireturn, 1) := by decide +kernel
set_option maxRecDepth 20000 in
theorem ggX9_best_X9_requirePhase : GoodIn wsX9_best wsX9_requirePhase := goodIn_ca (goodIn_r _ [6, 7, 8, 9, 16, 17, 18, 19, 20, 21, 22, 23, 24, 25, 26, 27, 28, 29, 30, 31, 32] (by decide +kernel) (by decide +kernel)) (goodIn_sub (fun _ h => List.mem_cons_of_mem _ (List.mem_append_right _ h)) (by decide +kernel))
set_option maxRecDepth 20000 in
theorem gX9_best_X9_requirePhase : GoodIn wsX9_best (wsV RX9 168 RX9 yX9_requirePhase wsX9_requirePhase) := goodIn_app (goodIn_of _ (by decide +kernel)) ggX9_best_X9_requirePhase
set_option maxRecDepth 20000 in
theorem ggX9_best_X5_numberOfGreatest : GoodIn wsX9_best wsX5_numberOfGreatest := goodIn_r _ [14, 15, 33, 34, 35, 36, 37, 38, 39, 40, 41, 42] (by decide +kernel) (by decide +kernel)
set_option maxRecDepth 20000 in
theorem gX9_best_X5_numberOfGreatest : GoodIn wsX9_best (wsV RX9 269 RX5 yX5_numberOfGreatest wsX5_numberOfGreatest) := goodIn_app (goodIn_of _ (by decide +kernel)) ggX9_best_X5_numberOfGreatest
theorem dX9_best_0 : decode cX9_best 0 = .ok (.aload_n 0, 1) := by decide +kernel
theorem dX9_best_1 : decode cX9_best 1 = .ok (.bipush 114, 2) := by decide +kernel
theorem dX9_best_3 : decode cX9_best 3 = .ok (.invokevirtual 168, 3) := by decide +kernel
theorem dX9_best_6 : decode cX9_best 6 = .ok (.aload_n 0, 1) := by decide +kernel
theorem dX9_best_7 : decode cX9_best 7 = .ok (.getfield 61, 3) := by decide +kernel
theorem dX9_best_10 : decode cX9_best 10 = .ok (.invokevirtual 269, 3) := by decide +kernel
theorem dX9_best_13 : decode cX9_best 13 = .ok (.ireturn, 1) := by decide +kernel
set_option maxRecDepth 20000 in
theorem ggX9_error_X9_requirePlay : GoodIn wsX9_error wsX9_requirePlay := goodIn_ca (goodIn_ca (goodIn_r _ [6, 7, 8, 1, 9, 10, 11, 5, 12, 13, 14, 15, 16, 17, 18, 19, 20, 21, 36, 37, 38, 39, 40, 41, 42, 43, 44, 45, 46, 47, 48, 49, 50, 51, 52, 53, 54, 55, 56, 57, 58, 59, 60, 61, 62] (by decide +kernel) (by decide +kernel)) (goodIn_sub (fun _ h => List.mem_cons_of_mem _ (List.mem_append_left _ (List.mem_append_right _ h))) (by decide +kernel))) (goodIn_sub (fun _ h => List.mem_cons_of_mem _ (List.mem_append_right _ h)) (by decide +kernel))
set_option maxRecDepth 20000 in
theorem gX9_error_X9_requirePlay : GoodIn wsX9_error (wsV RX9 191 RX9 yX9_requirePlay wsX9_requirePlay) := goodIn_app (goodIn_of _ (by decide +kernel)) ggX9_error_X9_requirePlay
set_option maxRecDepth 20000 in
theorem ggX9_error_X5_errorOf : GoodIn wsX9_error wsX5_errorOf := goodIn_r _ [25, 26, 27, 28, 19, 29, 30, 31, 32, 33, 34, 35, 53, 54, 55, 56, 57, 58, 59, 60, 61, 62] (by decide +kernel) (by decide +kernel)
set_option maxRecDepth 20000 in
theorem gX9_error_X5_errorOf : GoodIn wsX9_error (wsV RX9 272 RX5 yX5_errorOf wsX5_errorOf) := goodIn_app (goodIn_of _ (by decide +kernel)) ggX9_error_X5_errorOf
theorem dX9_error_0 : decode cX9_error 0 = .ok (.aload_n 0, 1) := by decide +kernel
theorem dX9_error_1 : decode cX9_error 1 = .ok (.iload_n 1, 1) := by decide +kernel
theorem dX9_error_2 : decode cX9_error 2 = .ok (.invokevirtual 191, 3) := by decide +kernel
theorem dX9_error_5 : decode cX9_error 5 = .ok (.aload_n 0, 1) := by decide +kernel
theorem dX9_error_6 : decode cX9_error 6 = .ok (.getfield 61, 3) := by decide +kernel
theorem dX9_error_9 : decode cX9_error 9 = .ok (.iload_n 1, 1) := by decide +kernel
theorem dX9_error_10 : decode cX9_error 10 = .ok (.invokevirtual 272, 3) := by decide +kernel
theorem dX9_error_13 : decode cX9_error 13 = .ok (.ireturn, 1) := by decide +kernel
set_option maxRecDepth 20000 in
theorem ggX9_deep_X9_requirePlay : GoodIn wsX9_deep wsX9_requirePlay := goodIn_ca (goodIn_ca (goodIn_r _ [11, 12, 13, 4, 14, 15, 16, 10, 17, 18, 19, 20, 21, 22, 23, 24, 25, 26, 146, 147, 148, 149, 150, 151, 152, 153, 154, 155, 156, 157, 158, 159, 160, 161, 162, 163, 164, 165, 166, 167, 168, 169, 170, 171, 172] (by decide +kernel) (by decide +kernel)) (goodIn_sub (fun _ h => List.mem_cons_of_mem _ (List.mem_append_left _ (List.mem_append_right _ h))) (by decide +kernel))) (goodIn_sub (fun _ h => List.mem_cons_of_mem _ (List.mem_append_right _ h)) (by decide +kernel))
set_option maxRecDepth 20000 in
theorem gX9_deep_X9_requirePlay : GoodIn wsX9_deep (wsV RX9 191 RX9 yX9_requirePlay wsX9_requirePlay) := goodIn_app (goodIn_of _ (by decide +kernel)) ggX9_deep_X9_requirePlay
set_option maxRecDepth 20000 in
theorem ggX9_deep_X0_become : GoodIn wsX9_deep wsX0_become := goodIn_r _ [31, 32, 173] (by decide +kernel) (by decide +kernel)
set_option maxRecDepth 20000 in
theorem gX9_deep_X0_become : GoodIn wsX9_deep (wsV RX9 147 RX0 yX0_become wsX0_become) := goodIn_app (goodIn_of _ (by decide +kernel)) ggX9_deep_X0_become
set_option maxRecDepth 20000 in
theorem ggX9_deep_X5_rowAt : GoodIn wsX9_deep wsX5_rowAt := goodIn_r _ [36, 37, 163, 164, 165, 166, 167, 168, 169, 170, 171, 172] (by decide +kernel) (by decide +kernel)
set_option maxRecDepth 20000 in
theorem gX9_deep_X5_rowAt : GoodIn wsX9_deep (wsV RX9 275 RX5 yX5_rowAt wsX5_rowAt) := goodIn_app (goodIn_of _ (by decide +kernel)) ggX9_deep_X5_rowAt
set_option maxRecDepth 20000 in
theorem ggX9_deep_X0_carry : GoodIn wsX9_deep wsX0_carry := goodIn_r _ [41, 42, 10, 43, 44, 45, 46, 47, 48, 49, 50, 30, 51, 52, 53, 54, 55, 56, 57, 58, 59, 32, 60, 61, 62, 63, 173] (by decide +kernel) (by decide +kernel)
set_option maxRecDepth 20000 in
theorem gX9_deep_X0_carry : GoodIn wsX9_deep (wsV RX9 278 RX0 yX0_carry wsX0_carry) := goodIn_app (goodIn_of _ (by decide +kernel)) ggX9_deep_X0_carry
set_option maxRecDepth 20000 in
theorem ggX9_deep_X5_collect : GoodIn wsX9_deep wsX5_collect := goodIn_r _ [67, 68, 69, 70, 28, 29, 30, 31, 32, 71, 72, 73, 24, 74, 75, 26, 76, 77, 78, 79, 80, 81, 82, 83, 60, 61, 62, 63, 84, 85, 86, 87, 88, 49, 50, 51, 52, 53, 54, 55, 56, 57, 58, 59, 89, 10, 90, 91, 92, 93, 94, 95, 96, 97, 98, 99, 100, 37, 101, 102, 103, 104, 105, 106, 107, 108, 109, 110, 111, 112, 113, 114, 115, 116, 117, 118, 119, 120, 121, 122, 123, 124, 125, 126, 127, 128, 129, 130, 131, 132, 133, 134, 135, 136, 137, 138, 139, 140, 141, 142, 143, 144, 163, 164, 165, 166, 167, 168, 169, 170, 171, 172, 173] (by decide +kernel) (by decide +kernel)
set_option maxRecDepth 20000 in
theorem gX9_deep_X5_collect : GoodIn wsX9_deep (wsV RX9 184 RX5 yX5_collect wsX5_collect) := goodIn_app (goodIn_of _ (by decide +kernel)) ggX9_deep_X5_collect
set_option maxRecDepth 20000 in
theorem ggX9_deep_X5_greatestWorth : GoodIn wsX9_deep wsX5_greatestWorth := goodIn_r _ [109, 76, 110, 111, 112, 24, 113, 101, 163, 164, 165, 166, 167, 168, 169, 170, 171, 172] (by decide +kernel) (by decide +kernel)
set_option maxRecDepth 20000 in
theorem gX9_deep_X5_greatestWorth : GoodIn wsX9_deep (wsV RX9 281 RX5 yX5_greatestWorth wsX5_greatestWorth) := goodIn_app (goodIn_of _ (by decide +kernel)) ggX9_deep_X5_greatestWorth
theorem dX9_deep_0 : decode cX9_deep 0 = .ok (.aload_n 0, 1) := by decide +kernel
theorem dX9_deep_1 : decode cX9_deep 1 = .ok (.iload_n 1, 1) := by decide +kernel
theorem dX9_deep_2 : decode cX9_deep 2 = .ok (.invokevirtual 191, 3) := by decide +kernel
theorem dX9_deep_5 : decode cX9_deep 5 = .ok (.aload_n 0, 1) := by decide +kernel
theorem dX9_deep_6 : decode cX9_deep 6 = .ok (.getfield 78, 3) := by decide +kernel
theorem dX9_deep_9 : decode cX9_deep 9 = .ok (.aload_n 0, 1) := by decide +kernel
theorem dX9_deep_10 : decode cX9_deep 10 = .ok (.getfield 71, 3) := by decide +kernel
theorem dX9_deep_13 : decode cX9_deep 13 = .ok (.invokevirtual 147, 3) := by decide +kernel
theorem dX9_deep_16 : decode cX9_deep 16 = .ok (.aload_n 0, 1) := by decide +kernel
theorem dX9_deep_17 : decode cX9_deep 17 = .ok (.getfield 78, 3) := by decide +kernel
theorem dX9_deep_20 : decode cX9_deep 20 = .ok (.aload_n 0, 1) := by decide +kernel
theorem dX9_deep_21 : decode cX9_deep 21 = .ok (.getfield 85, 3) := by decide +kernel
theorem dX9_deep_24 : decode cX9_deep 24 = .ok (.aload_n 0, 1) := by decide +kernel
theorem dX9_deep_25 : decode cX9_deep 25 = .ok (.getfield 61, 3) := by decide +kernel
theorem dX9_deep_28 : decode cX9_deep 28 = .ok (.iload_n 1, 1) := by decide +kernel
theorem dX9_deep_29 : decode cX9_deep 29 = .ok (.invokevirtual 275, 3) := by decide +kernel
theorem dX9_deep_32 : decode cX9_deep 32 = .ok (.invokevirtual 278, 3) := by decide +kernel
theorem dX9_deep_35 : decode cX9_deep 35 = .ok (.pop, 1) := by decide +kernel
theorem dX9_deep_36 : decode cX9_deep 36 = .ok (.lconst 0, 1) := by decide +kernel
theorem dX9_deep_37 : decode cX9_deep 37 = .ok (.lstore_n 2, 1) := by decide +kernel
theorem dX9_deep_38 : decode cX9_deep 38 = .ok (.iconst 1, 1) := by decide +kernel
theorem dX9_deep_39 : decode cX9_deep 39 = .ok (.istore 4, 2) := by decide +kernel
theorem dX9_deep_41 : decode cX9_deep 41 = .ok (.iload 4, 2) := by decide +kernel
theorem dX9_deep_43 : decode cX9_deep 43 = .ok (.bipush 6, 2) := by decide +kernel
theorem dX9_deep_45 : decode cX9_deep 45 = .ok (.if_icmp .gt 78, 3) := by decide +kernel
theorem dX9_deep_48 : decode cX9_deep 48 = .ok (.iload 4, 2) := by decide +kernel
theorem dX9_deep_50 : decode cX9_deep 50 = .ok (.istore 5, 2) := by decide +kernel
theorem dX9_deep_52 : decode cX9_deep 52 = .ok (.iload 5, 2) := by decide +kernel
theorem dX9_deep_54 : decode cX9_deep 54 = .ok (.bipush 6, 2) := by decide +kernel
theorem dX9_deep_56 : decode cX9_deep 56 = .ok (.if_icmp .gt 61, 3) := by decide +kernel
theorem dX9_deep_59 : decode cX9_deep 59 = .ok (.aload_n 0, 1) := by decide +kernel
theorem dX9_deep_60 : decode cX9_deep 60 = .ok (.getfield 65, 3) := by decide +kernel
theorem dX9_deep_63 : decode cX9_deep 63 = .ok (.aload_n 0, 1) := by decide +kernel
theorem dX9_deep_64 : decode cX9_deep 64 = .ok (.getfield 78, 3) := by decide +kernel
theorem dX9_deep_67 : decode cX9_deep 67 = .ok (.iconst 1, 1) := by decide +kernel
theorem dX9_deep_68 : decode cX9_deep 68 = .ok (.aload_n 0, 1) := by decide +kernel
theorem dX9_deep_69 : decode cX9_deep 69 = .ok (.getfield 85, 3) := by decide +kernel
theorem dX9_deep_72 : decode cX9_deep 72 = .ok (.isub, 1) := by decide +kernel
theorem dX9_deep_73 : decode cX9_deep 73 = .ok (.iload 5, 2) := by decide +kernel
theorem dX9_deep_75 : decode cX9_deep 75 = .ok (.iload 4, 2) := by decide +kernel
theorem dX9_deep_77 : decode cX9_deep 77 = .ok (.invokevirtual 184, 3) := by decide +kernel
theorem dX9_deep_80 : decode cX9_deep 80 = .ok (.aload_n 0, 1) := by decide +kernel
theorem dX9_deep_81 : decode cX9_deep 81 = .ok (.getfield 65, 3) := by decide +kernel
theorem dX9_deep_84 : decode cX9_deep 84 = .ok (.invokevirtual 281, 3) := by decide +kernel
theorem dX9_deep_87 : decode cX9_deep 87 = .ok (.i2l, 1) := by decide +kernel
theorem dX9_deep_88 : decode cX9_deep 88 = .ok (.lstore 6, 2) := by decide +kernel
theorem dX9_deep_90 : decode cX9_deep 90 = .ok (.lload_n 2, 1) := by decide +kernel
theorem dX9_deep_91 : decode cX9_deep 91 = .ok (.iload 5, 2) := by decide +kernel
theorem dX9_deep_93 : decode cX9_deep 93 = .ok (.iload 4, 2) := by decide +kernel
theorem dX9_deep_95 : decode cX9_deep 95 = .ok (.if_icmp .ne 8, 3) := by decide +kernel
theorem dX9_deep_98 : decode cX9_deep 98 = .ok (.lload 6, 2) := by decide +kernel
theorem dX9_deep_100 : decode cX9_deep 100 = .ok (.goto 9, 3) := by decide +kernel
theorem dX9_deep_103 : decode cX9_deep 103 = .ok (.ldc2_w 284, 3) := by decide +kernel
theorem dX9_deep_106 : decode cX9_deep 106 = .ok (.lload 6, 2) := by decide +kernel
theorem dX9_deep_108 : decode cX9_deep 108 = .ok (.lmul, 1) := by decide +kernel
theorem dX9_deep_109 : decode cX9_deep 109 = .ok (.ladd, 1) := by decide +kernel
theorem dX9_deep_110 : decode cX9_deep 110 = .ok (.lstore_n 2, 1) := by decide +kernel
theorem dX9_deep_111 : decode cX9_deep 111 = .ok (.iinc 5 1, 3) := by decide +kernel
theorem dX9_deep_114 : decode cX9_deep 114 = .ok (.goto (-62), 3) := by decide +kernel
theorem dX9_deep_117 : decode cX9_deep 117 = .ok (.iinc 4 1, 3) := by decide +kernel
theorem dX9_deep_120 : decode cX9_deep 120 = .ok (.goto (-79), 3) := by decide +kernel
theorem dX9_deep_123 : decode cX9_deep 123 = .ok (.lconst 0, 1) := by decide +kernel
theorem dX9_deep_124 : decode cX9_deep 124 = .ok (.lload_n 2, 1) := by decide +kernel
theorem dX9_deep_125 : decode cX9_deep 125 = .ok (.lsub, 1) := by decide +kernel
theorem dX9_deep_126 : decode cX9_deep 126 = .ok (.lreturn, 1) := by decide +kernel
set_option maxRecDepth 20000 in
theorem ggX9_chance_X9_requirePhase : GoodIn wsX9_chance wsX9_requirePhase := goodIn_ca (goodIn_r _ [10, 11, 12, 13, 71, 72, 73, 74, 75, 76, 77, 78, 79, 80, 81, 82, 83, 84, 85, 86, 87] (by decide +kernel) (by decide +kernel)) (goodIn_sub (fun _ h => List.mem_cons_of_mem _ (List.mem_append_right _ h)) (by decide +kernel))
set_option maxRecDepth 20000 in
theorem gX9_chance_X9_requirePhase : GoodIn wsX9_chance (wsV RX9 168 RX9 yX9_requirePhase wsX9_requirePhase) := goodIn_app (goodIn_of _ (by decide +kernel)) ggX9_chance_X9_requirePhase
set_option maxRecDepth 20000 in
theorem ggX9_chance_X0_isEnding : GoodIn wsX9_chance wsX0_isEnding := goodIn_r _ [18, 19, 20, 21, 17, 22, 23, 24, 25, 26, 27, 28, 29, 30, 31, 88] (by decide +kernel) (by decide +kernel)
set_option maxRecDepth 20000 in
theorem gX9_chance_X0_isEnding : GoodIn wsX9_chance (wsV RX9 286 RX0 yX0_isEnding wsX0_isEnding) := goodIn_app (goodIn_of _ (by decide +kernel)) ggX9_chance_X0_isEnding
set_option maxRecDepth 20000 in
theorem ggX9_chance_X0_lastTwo : GoodIn wsX9_chance wsX0_lastTwo := goodIn_r _ [35, 28, 29, 30, 17, 31, 23, 24, 25, 26, 27, 36, 37, 38, 39, 40, 41, 42, 43, 44, 45, 46, 88] (by decide +kernel) (by decide +kernel)
set_option maxRecDepth 20000 in
theorem gX9_chance_X0_lastTwo : GoodIn wsX9_chance (wsV RX9 291 RX0 yX0_lastTwo wsX0_lastTwo) := goodIn_app (goodIn_of _ (by decide +kernel)) ggX9_chance_X0_lastTwo
set_option maxRecDepth 20000 in
theorem ggX9_chance_X1_chanceOf : GoodIn wsX9_chance wsX1_chanceOf := goodIn_r _ [50, 51, 52, 53, 38, 54, 55, 56, 57, 58, 59, 60, 40, 41, 42, 43, 61, 37, 39, 44, 45, 46, 62, 63, 64, 65, 66, 67, 68, 69, 70, 89] (by decide +kernel) (by decide +kernel)
set_option maxRecDepth 20000 in
theorem gX9_chance_X1_chanceOf : GoodIn wsX9_chance (wsV RX9 294 RX1 yX1_chanceOf wsX1_chanceOf) := goodIn_app (goodIn_of _ (by decide +kernel)) ggX9_chance_X1_chanceOf
theorem dX9_chance_0 : decode cX9_chance 0 = .ok (.aload_n 0, 1) := by decide +kernel
theorem dX9_chance_1 : decode cX9_chance 1 = .ok (.bipush 100, 2) := by decide +kernel
theorem dX9_chance_3 : decode cX9_chance 3 = .ok (.invokevirtual 168, 3) := by decide +kernel
theorem dX9_chance_6 : decode cX9_chance 6 = .ok (.aload_n 0, 1) := by decide +kernel
theorem dX9_chance_7 : decode cX9_chance 7 = .ok (.getfield 71, 3) := by decide +kernel
theorem dX9_chance_10 : decode cX9_chance 10 = .ok (.iconst 0, 1) := by decide +kernel
theorem dX9_chance_11 : decode cX9_chance 11 = .ok (.invokevirtual 286, 3) := by decide +kernel
theorem dX9_chance_14 : decode cX9_chance 14 = .ok (.ifCond .eq 14, 3) := by decide +kernel
theorem dX9_chance_17 : decode cX9_chance 17 = .ok (.aload_n 0, 1) := by decide +kernel
theorem dX9_chance_18 : decode cX9_chance 18 = .ok (.getfield 71, 3) := by decide +kernel
theorem dX9_chance_21 : decode cX9_chance 21 = .ok (.iconst 1, 1) := by decide +kernel
theorem dX9_chance_22 : decode cX9_chance 22 = .ok (.invokevirtual 286, 3) := by decide +kernel
theorem dX9_chance_25 : decode cX9_chance 25 = .ok (.ifCond .ne 14, 3) := by decide +kernel
theorem dX9_chance_28 : decode cX9_chance 28 = .ok (.new 223, 3) := by decide +kernel
theorem dX9_chance_31 : decode cX9_chance 31 = .ok (.dup, 1) := by decide +kernel
theorem dX9_chance_32 : decode cX9_chance 32 = .ok (.ldc_w 289, 3) := by decide +kernel
theorem dX9_chance_35 : decode cX9_chance 35 = .ok (.invokespecial 227, 3) := by decide +kernel
theorem dX9_chance_38 : decode cX9_chance 38 = .ok (.athrow, 1) := by decide +kernel
theorem dX9_chance_39 : decode cX9_chance 39 = .ok (.aload_n 0, 1) := by decide +kernel
theorem dX9_chance_40 : decode cX9_chance 40 = .ok (.getfield 54, 3) := by decide +kernel
theorem dX9_chance_43 : decode cX9_chance 43 = .ok (.aload_n 0, 1) := by decide +kernel
theorem dX9_chance_44 : decode cX9_chance 44 = .ok (.getfield 71, 3) := by decide +kernel
theorem dX9_chance_47 : decode cX9_chance 47 = .ok (.aload_n 0, 1) := by decide +kernel
theorem dX9_chance_48 : decode cX9_chance 48 = .ok (.getfield 85, 3) := by decide +kernel
theorem dX9_chance_51 : decode cX9_chance 51 = .ok (.invokevirtual 291, 3) := by decide +kernel
theorem dX9_chance_54 : decode cX9_chance 54 = .ok (.aload_n 0, 1) := by decide +kernel
theorem dX9_chance_55 : decode cX9_chance 55 = .ok (.getfield 71, 3) := by decide +kernel
theorem dX9_chance_58 : decode cX9_chance 58 = .ok (.iconst 1, 1) := by decide +kernel
theorem dX9_chance_59 : decode cX9_chance 59 = .ok (.aload_n 0, 1) := by decide +kernel
theorem dX9_chance_60 : decode cX9_chance 60 = .ok (.getfield 85, 3) := by decide +kernel
theorem dX9_chance_63 : decode cX9_chance 63 = .ok (.isub, 1) := by decide +kernel
theorem dX9_chance_64 : decode cX9_chance 64 = .ok (.invokevirtual 291, 3) := by decide +kernel
theorem dX9_chance_67 : decode cX9_chance 67 = .ok (.invokevirtual 294, 3) := by decide +kernel
theorem dX9_chance_70 : decode cX9_chance 70 = .ok (.dreturn, 1) := by decide +kernel
set_option maxRecDepth 20000 in
theorem ggX9_setRate_X2_replaceRate : GoodIn wsX9_setRate wsX2_replaceRate := goodIn_r _ [8, 9, 27, 28] (by decide +kernel) (by decide +kernel)
set_option maxRecDepth 20000 in
theorem gX9_setRate_X2_replaceRate : GoodIn wsX9_setRate (wsV RX9 300 RX2 yX2_replaceRate wsX2_replaceRate) := goodIn_app (goodIn_of _ (by decide +kernel)) ggX9_setRate_X2_replaceRate
theorem dX9_setRate_0 : decode cX9_setRate 0 = .ok (.iload_n 1, 1) := by decide +kernel
theorem dX9_setRate_1 : decode cX9_setRate 1 = .ok (.ifCond .lt 9, 3) := by decide +kernel
theorem dX9_setRate_4 : decode cX9_setRate 4 = .ok (.iload_n 1, 1) := by decide +kernel
theorem dX9_setRate_5 : decode cX9_setRate 5 = .ok (.bipush 100, 2) := by decide +kernel
theorem dX9_setRate_7 : decode cX9_setRate 7 = .ok (.if_icmp .le 14, 3) := by decide +kernel
theorem dX9_setRate_10 : decode cX9_setRate 10 = .ok (.new 106, 3) := by decide +kernel
theorem dX9_setRate_13 : decode cX9_setRate 13 = .ok (.dup, 1) := by decide +kernel
theorem dX9_setRate_14 : decode cX9_setRate 14 = .ok (.ldc_w 298, 3) := by decide +kernel
theorem dX9_setRate_17 : decode cX9_setRate 17 = .ok (.invokespecial 110, 3) := by decide +kernel
theorem dX9_setRate_20 : decode cX9_setRate 20 = .ok (.athrow, 1) := by decide +kernel
theorem dX9_setRate_21 : decode cX9_setRate 21 = .ok (.aload_n 0, 1) := by decide +kernel
theorem dX9_setRate_22 : decode cX9_setRate 22 = .ok (.getfield 47, 3) := by decide +kernel
theorem dX9_setRate_25 : decode cX9_setRate 25 = .ok (.iload_n 1, 1) := by decide +kernel
theorem dX9_setRate_26 : decode cX9_setRate 26 = .ok (.invokevirtual 300, 3) := by decide +kernel
theorem dX9_setRate_29 : decode cX9_setRate 29 = .ok (.ireturn, 1) := by decide +kernel
set_option maxRecDepth 20000 in
theorem ggX9_equity_X2_of : GoodIn wsX9_equity wsX2_of := goodIn_r _ [8, 9, 10, 11, 12, 13, 14, 7, 15, 16, 34, 35] (by decide +kernel) (by decide +kernel)
set_option maxRecDepth 20000 in
theorem gX9_equity_X2_of : GoodIn wsX9_equity (wsV RX9 305 RX2 yX2_of wsX2_of) := goodIn_app (goodIn_of _ (by decide +kernel)) ggX9_equity_X2_of
theorem dX9_equity_0 : decode cX9_equity 0 = .ok (.iload_n 1, 1) := by decide +kernel
theorem dX9_equity_1 : decode cX9_equity 1 = .ok (.ifCond .lt 27, 3) := by decide +kernel
theorem dX9_equity_4 : decode cX9_equity 4 = .ok (.iload_n 1, 1) := by decide +kernel
theorem dX9_equity_5 : decode cX9_equity 5 = .ok (.bipush 25, 2) := by decide +kernel
theorem dX9_equity_7 : decode cX9_equity 7 = .ok (.if_icmp .gt 21, 3) := by decide +kernel
theorem dX9_equity_10 : decode cX9_equity 10 = .ok (.iload_n 2, 1) := by decide +kernel
theorem dX9_equity_11 : decode cX9_equity 11 = .ok (.ifCond .lt 17, 3) := by decide +kernel
theorem dX9_equity_14 : decode cX9_equity 14 = .ok (.iload_n 2, 1) := by decide +kernel
theorem dX9_equity_15 : decode cX9_equity 15 = .ok (.bipush 25, 2) := by decide +kernel
theorem dX9_equity_17 : decode cX9_equity 17 = .ok (.if_icmp .gt 11, 3) := by decide +kernel
theorem dX9_equity_20 : decode cX9_equity 20 = .ok (.iload_n 1, 1) := by decide +kernel
theorem dX9_equity_21 : decode cX9_equity 21 = .ok (.ifCond .ne 18, 3) := by decide +kernel
theorem dX9_equity_24 : decode cX9_equity 24 = .ok (.iload_n 2, 1) := by decide +kernel
theorem dX9_equity_25 : decode cX9_equity 25 = .ok (.ifCond .ne 14, 3) := by decide +kernel
theorem dX9_equity_28 : decode cX9_equity 28 = .ok (.new 106, 3) := by decide +kernel
theorem dX9_equity_31 : decode cX9_equity 31 = .ok (.dup, 1) := by decide +kernel
theorem dX9_equity_32 : decode cX9_equity 32 = .ok (.ldc_w 303, 3) := by decide +kernel
theorem dX9_equity_35 : decode cX9_equity 35 = .ok (.invokespecial 110, 3) := by decide +kernel
theorem dX9_equity_38 : decode cX9_equity 38 = .ok (.athrow, 1) := by decide +kernel
theorem dX9_equity_39 : decode cX9_equity 39 = .ok (.aload_n 0, 1) := by decide +kernel
theorem dX9_equity_40 : decode cX9_equity 40 = .ok (.getfield 47, 3) := by decide +kernel
theorem dX9_equity_43 : decode cX9_equity 43 = .ok (.iload_n 1, 1) := by decide +kernel
theorem dX9_equity_44 : decode cX9_equity 44 = .ok (.iload_n 2, 1) := by decide +kernel
theorem dX9_equity_45 : decode cX9_equity 45 = .ok (.invokevirtual 305, 3) := by decide +kernel
theorem dX9_equity_48 : decode cX9_equity 48 = .ok (.lreturn, 1) := by decide +kernel
set_option maxRecDepth 20000 in
theorem ggX9_seat_X4_isOpen : GoodIn wsX9_seat wsX4_isOpen := goodIn_r _ [12, 13, 55, 56, 57, 58, 59, 60, 61] (by decide +kernel) (by decide +kernel)
set_option maxRecDepth 20000 in
theorem gX9_seat_X4_isOpen : GoodIn wsX9_seat (wsV RX9 130 RX4 yX4_isOpen wsX4_isOpen) := goodIn_app (goodIn_of _ (by decide +kernel)) ggX9_seat_X4_isOpen
set_option maxRecDepth 20000 in
theorem ggX9_seat_X4_isForMoney : GoodIn wsX9_seat wsX4_isForMoney := goodIn_r _ [17, 13, 18, 55, 56, 57, 58, 59, 60, 61] (by decide +kernel) (by decide +kernel)
set_option maxRecDepth 20000 in
theorem gX9_seat_X4_isForMoney : GoodIn wsX9_seat (wsV RX9 261 RX4 yX4_isForMoney wsX4_isForMoney) := goodIn_app (goodIn_of _ (by decide +kernel)) ggX9_seat_X4_isForMoney
set_option maxRecDepth 20000 in
theorem ggX9_seat_X7_size : GoodIn wsX9_seat wsX7_size := goodIn_r _ [23, 24, 62, 63, 64] (by decide +kernel) (by decide +kernel)
set_option maxRecDepth 20000 in
theorem gX9_seat_X7_size : GoodIn wsX9_seat (wsV RX9 113 RX7 yX7_size wsX7_size) := goodIn_app (goodIn_of _ (by decide +kernel)) ggX9_seat_X7_size
set_option maxRecDepth 20000 in
theorem ggX9_seat_X7_invite : GoodIn wsX9_seat wsX7_invite := goodIn_r _ [28, 29, 30, 31, 32, 33, 34, 35, 24, 36, 37, 62, 63, 64] (by decide +kernel) (by decide +kernel)
set_option maxRecDepth 20000 in
theorem gX9_seat_X7_invite : GoodIn wsX9_seat (wsV RX9 313 RX7 yX7_invite wsX7_invite) := goodIn_app (goodIn_of _ (by decide +kernel)) ggX9_seat_X7_invite
theorem dX9_seat_0 : decode cX9_seat 0 = .ok (.iload_n 1, 1) := by decide +kernel
theorem dX9_seat_1 : decode cX9_seat 1 = .ok (.iconst 3, 1) := by decide +kernel
theorem dX9_seat_2 : decode cX9_seat 2 = .ok (.if_icmp .lt 9, 3) := by decide +kernel
theorem dX9_seat_5 : decode cX9_seat 5 = .ok (.iload_n 1, 1) := by decide +kernel
theorem dX9_seat_6 : decode cX9_seat 6 = .ok (.bipush 6, 2) := by decide +kernel
theorem dX9_seat_8 : decode cX9_seat 8 = .ok (.if_icmp .le 14, 3) := by decide +kernel
theorem dX9_seat_11 : decode cX9_seat 11 = .ok (.new 106, 3) := by decide +kernel
theorem dX9_seat_14 : decode cX9_seat 14 = .ok (.dup, 1) := by decide +kernel
theorem dX9_seat_15 : decode cX9_seat 15 = .ok (.ldc_w 309, 3) := by decide +kernel
theorem dX9_seat_18 : decode cX9_seat 18 = .ok (.invokespecial 110, 3) := by decide +kernel
theorem dX9_seat_21 : decode cX9_seat 21 = .ok (.athrow, 1) := by decide +kernel
theorem dX9_seat_22 : decode cX9_seat 22 = .ok (.aload_n 0, 1) := by decide +kernel
theorem dX9_seat_23 : decode cX9_seat 23 = .ok (.getfield 81, 3) := by decide +kernel
theorem dX9_seat_26 : decode cX9_seat 26 = .ok (.bipush 45, 2) := by decide +kernel
theorem dX9_seat_28 : decode cX9_seat 28 = .ok (.if_icmp .ne 23, 3) := by decide +kernel
theorem dX9_seat_31 : decode cX9_seat 31 = .ok (.aload_n 0, 1) := by decide +kernel
theorem dX9_seat_32 : decode cX9_seat 32 = .ok (.getfield 10, 3) := by decide +kernel
theorem dX9_seat_35 : decode cX9_seat 35 = .ok (.invokevirtual 130, 3) := by decide +kernel
theorem dX9_seat_38 : decode cX9_seat 38 = .ok (.ifCond .eq 24, 3) := by decide +kernel
theorem dX9_seat_41 : decode cX9_seat 41 = .ok (.aload_n 0, 1) := by decide +kernel
theorem dX9_seat_42 : decode cX9_seat 42 = .ok (.getfield 10, 3) := by decide +kernel
theorem dX9_seat_45 : decode cX9_seat 45 = .ok (.invokevirtual 261, 3) := by decide +kernel
theorem dX9_seat_48 : decode cX9_seat 48 = .ok (.ifCond .ne 14, 3) := by decide +kernel
theorem dX9_seat_51 : decode cX9_seat 51 = .ok (.new 117, 3) := by decide +kernel
theorem dX9_seat_54 : decode cX9_seat 54 = .ok (.dup, 1) := by decide +kernel
theorem dX9_seat_55 : decode cX9_seat 55 = .ok (.ldc_w 311, 3) := by decide +kernel
theorem dX9_seat_58 : decode cX9_seat 58 = .ok (.invokespecial 121, 3) := by decide +kernel
theorem dX9_seat_61 : decode cX9_seat 61 = .ok (.athrow, 1) := by decide +kernel
theorem dX9_seat_62 : decode cX9_seat 62 = .ok (.aload_n 0, 1) := by decide +kernel
theorem dX9_seat_63 : decode cX9_seat 63 = .ok (.getfield 19, 3) := by decide +kernel
theorem dX9_seat_66 : decode cX9_seat 66 = .ok (.invokevirtual 113, 3) := by decide +kernel
theorem dX9_seat_69 : decode cX9_seat 69 = .ok (.istore_n 2, 1) := by decide +kernel
theorem dX9_seat_70 : decode cX9_seat 70 = .ok (.aload_n 0, 1) := by decide +kernel
theorem dX9_seat_71 : decode cX9_seat 71 = .ok (.getfield 19, 3) := by decide +kernel
theorem dX9_seat_74 : decode cX9_seat 74 = .ok (.iload_n 1, 1) := by decide +kernel
theorem dX9_seat_75 : decode cX9_seat 75 = .ok (.invokevirtual 313, 3) := by decide +kernel
theorem dX9_seat_78 : decode cX9_seat 78 = .ok (.iload_n 2, 1) := by decide +kernel
theorem dX9_seat_79 : decode cX9_seat 79 = .ok (.ireturn, 1) := by decide +kernel
set_option maxRecDepth 20000 in
theorem ggX9_account_X7_size : GoodIn wsX9_account wsX7_size := goodIn_r _ [8, 9, 32, 33, 34] (by decide +kernel) (by decide +kernel)
set_option maxRecDepth 20000 in
theorem gX9_account_X7_size : GoodIn wsX9_account (wsV RX9 113 RX7 yX7_size wsX7_size) := goodIn_app (goodIn_of _ (by decide +kernel)) ggX9_account_X7_size
set_option maxRecDepth 20000 in
theorem ggX9_account_X7_balanceOf : GoodIn wsX9_account wsX7_balanceOf := goodIn_r _ [13, 14, 32, 33, 34] (by decide +kernel) (by decide +kernel)
set_option maxRecDepth 20000 in
theorem gX9_account_X7_balanceOf : GoodIn wsX9_account (wsV RX9 318 RX7 yX7_balanceOf wsX7_balanceOf) := goodIn_app (goodIn_of _ (by decide +kernel)) ggX9_account_X7_balanceOf
theorem dX9_account_0 : decode cX9_account 0 = .ok (.iload_n 1, 1) := by decide +kernel
theorem dX9_account_1 : decode cX9_account 1 = .ok (.ifCond .lt 14, 3) := by decide +kernel
theorem dX9_account_4 : decode cX9_account 4 = .ok (.iload_n 1, 1) := by decide +kernel
theorem dX9_account_5 : decode cX9_account 5 = .ok (.aload_n 0, 1) := by decide +kernel
theorem dX9_account_6 : decode cX9_account 6 = .ok (.getfield 19, 3) := by decide +kernel
theorem dX9_account_9 : decode cX9_account 9 = .ok (.invokevirtual 113, 3) := by decide +kernel
theorem dX9_account_12 : decode cX9_account 12 = .ok (.if_icmp .lt 14, 3) := by decide +kernel
theorem dX9_account_15 : decode cX9_account 15 = .ok (.new 242, 3) := by decide +kernel
theorem dX9_account_18 : decode cX9_account 18 = .ok (.dup, 1) := by decide +kernel
theorem dX9_account_19 : decode cX9_account 19 = .ok (.ldc_w 316, 3) := by decide +kernel
theorem dX9_account_22 : decode cX9_account 22 = .ok (.invokespecial 246, 3) := by decide +kernel
theorem dX9_account_25 : decode cX9_account 25 = .ok (.athrow, 1) := by decide +kernel
theorem dX9_account_26 : decode cX9_account 26 = .ok (.aload_n 0, 1) := by decide +kernel
theorem dX9_account_27 : decode cX9_account 27 = .ok (.getfield 19, 3) := by decide +kernel
theorem dX9_account_30 : decode cX9_account 30 = .ok (.iload_n 1, 1) := by decide +kernel
theorem dX9_account_31 : decode cX9_account 31 = .ok (.invokevirtual 318, 3) := by decide +kernel
theorem dX9_account_34 : decode cX9_account 34 = .ok (.lreturn, 1) := by decide +kernel
set_option maxRecDepth 20000 in
theorem ggX9_box_X9_requireSeat : GoodIn wsX9_box wsX9_requireSeat := goodIn_ca (goodIn_r _ [5, 6, 7, 8, 9, 10, 11, 12, 13, 14, 15, 16, 17, 18, 19, 20, 21, 22, 23, 24, 25, 26, 27, 28, 29, 30, 31, 32, 33, 34, 35, 36, 37, 38, 39] (by decide +kernel) (by decide +kernel)) (goodIn_sub (fun _ h => List.mem_cons_of_mem _ (List.mem_append_right _ h)) (by decide +kernel))
set_option maxRecDepth 20000 in
theorem gX9_box_X9_requireSeat : GoodIn wsX9_box (wsV RX9 322 RX9 yX9_requireSeat wsX9_requireSeat) := goodIn_app (goodIn_of _ (by decide +kernel)) ggX9_box_X9_requireSeat
theorem dX9_box_0 : decode cX9_box 0 = .ok (.aload_n 0, 1) := by decide +kernel
theorem dX9_box_1 : decode cX9_box 1 = .ok (.iconst 0, 1) := by decide +kernel
theorem dX9_box_2 : decode cX9_box 2 = .ok (.invokevirtual 322, 3) := by decide +kernel
theorem dX9_box_5 : decode cX9_box 5 = .ok (.ireturn, 1) := by decide +kernel
set_option maxRecDepth 20000 in
theorem ggX9_captain_X9_requireSeat : GoodIn wsX9_captain wsX9_requireSeat := goodIn_ca (goodIn_r _ [5, 6, 7, 8, 9, 10, 11, 12, 13, 14, 15, 16, 17, 18, 19, 20, 21, 22, 23, 24, 25, 26, 27, 28, 29, 30, 31, 32, 33, 34, 35, 36, 37, 38, 39] (by decide +kernel) (by decide +kernel)) (goodIn_sub (fun _ h => List.mem_cons_of_mem _ (List.mem_append_right _ h)) (by decide +kernel))
set_option maxRecDepth 20000 in
theorem gX9_captain_X9_requireSeat : GoodIn wsX9_captain (wsV RX9 322 RX9 yX9_requireSeat wsX9_requireSeat) := goodIn_app (goodIn_of _ (by decide +kernel)) ggX9_captain_X9_requireSeat
theorem dX9_captain_0 : decode cX9_captain 0 = .ok (.aload_n 0, 1) := by decide +kernel
theorem dX9_captain_1 : decode cX9_captain 1 = .ok (.iconst 1, 1) := by decide +kernel
theorem dX9_captain_2 : decode cX9_captain 2 = .ok (.invokevirtual 322, 3) := by decide +kernel
theorem dX9_captain_5 : decode cX9_captain 5 = .ok (.ireturn, 1) := by decide +kernel
set_option maxRecDepth 20000 in
theorem ggX9_inLine_X9_requireSeat : GoodIn wsX9_inLine wsX9_requireSeat := goodIn_ca (goodIn_r _ [5, 6, 7, 8, 9, 10, 11, 12, 13, 14, 15, 16, 17, 18, 19, 20, 21, 22, 23, 24, 25, 26, 27, 28, 29, 30, 31, 32, 33, 34, 35, 36, 37, 38, 39] (by decide +kernel) (by decide +kernel)) (goodIn_sub (fun _ h => List.mem_cons_of_mem _ (List.mem_append_right _ h)) (by decide +kernel))
set_option maxRecDepth 20000 in
theorem gX9_inLine_X9_requireSeat : GoodIn wsX9_inLine (wsV RX9 322 RX9 yX9_requireSeat wsX9_requireSeat) := goodIn_app (goodIn_of _ (by decide +kernel)) ggX9_inLine_X9_requireSeat
theorem dX9_inLine_0 : decode cX9_inLine 0 = .ok (.iload_n 1, 1) := by decide +kernel
theorem dX9_inLine_1 : decode cX9_inLine 1 = .ok (.ifCond .lt 13, 3) := by decide +kernel
theorem dX9_inLine_4 : decode cX9_inLine 4 = .ok (.iload_n 1, 1) := by decide +kernel
theorem dX9_inLine_5 : decode cX9_inLine 5 = .ok (.bipush 6, 2) := by decide +kernel
theorem dX9_inLine_7 : decode cX9_inLine 7 = .ok (.if_icmp .ge 7, 3) := by decide +kernel
theorem dX9_inLine_10 : decode cX9_inLine 10 = .ok (.iconst 1, 1) := by decide +kernel
theorem dX9_inLine_11 : decode cX9_inLine 11 = .ok (.goto 4, 3) := by decide +kernel
theorem dX9_inLine_14 : decode cX9_inLine 14 = .ok (.iconst 0, 1) := by decide +kernel
theorem dX9_inLine_15 : decode cX9_inLine 15 = .ok (.istore_n 2, 1) := by decide +kernel
theorem dX9_inLine_16 : decode cX9_inLine 16 = .ok (.aload_n 0, 1) := by decide +kernel
theorem dX9_inLine_17 : decode cX9_inLine 17 = .ok (.iload_n 2, 1) := by decide +kernel
theorem dX9_inLine_18 : decode cX9_inLine 18 = .ok (.ifCond .eq 9, 3) := by decide +kernel
theorem dX9_inLine_21 : decode cX9_inLine 21 = .ok (.iconst 2, 1) := by decide +kernel
theorem dX9_inLine_22 : decode cX9_inLine 22 = .ok (.iload_n 1, 1) := by decide +kernel
theorem dX9_inLine_23 : decode cX9_inLine 23 = .ok (.iadd, 1) := by decide +kernel
theorem dX9_inLine_24 : decode cX9_inLine 24 = .ok (.goto 5, 3) := by decide +kernel
theorem dX9_inLine_27 : decode cX9_inLine 27 = .ok (.bipush 6, 2) := by decide +kernel
theorem dX9_inLine_29 : decode cX9_inLine 29 = .ok (.invokevirtual 322, 3) := by decide +kernel
theorem dX9_inLine_32 : decode cX9_inLine 32 = .ok (.ireturn, 1) := by decide +kernel
set_option maxRecDepth 20000 in
theorem ggX9_played_X3_turns : GoodIn wsX9_played wsX3_turns := goodIn_r _ [6, 7, 25, 26, 27, 28, 29, 30] (by decide +kernel) (by decide +kernel)
set_option maxRecDepth 20000 in
theorem gX9_played_X3_turns : GoodIn wsX9_played (wsV RX9 325 RX3 yX3_turns wsX3_turns) := goodIn_app (goodIn_of _ (by decide +kernel)) ggX9_played_X3_turns
theorem dX9_played_0 : decode cX9_played 0 = .ok (.aload_n 0, 1) := by decide +kernel
theorem dX9_played_1 : decode cX9_played 1 = .ok (.getfield 26, 3) := by decide +kernel
theorem dX9_played_4 : decode cX9_played 4 = .ok (.invokevirtual 325, 3) := by decide +kernel
theorem dX9_played_7 : decode cX9_played 7 = .ok (.ireturn, 1) := by decide +kernel
set_option maxRecDepth 20000 in
theorem ggX9_playedAt_X9_requireTurn : GoodIn wsX9_playedAt wsX9_requireTurn := goodIn_ca (goodIn_r _ [6, 7, 8, 1, 9, 10, 11, 12, 13, 14, 20, 21, 22, 23, 24, 25, 26, 27, 28, 29, 30, 31, 32, 33, 34, 35, 36, 37, 38, 39, 40, 41, 42] (by decide +kernel) (by decide +kernel)) (goodIn_sub (fun _ h => List.mem_cons_of_mem _ (List.mem_append_right _ h)) (by decide +kernel))
set_option maxRecDepth 20000 in
theorem gX9_playedAt_X9_requireTurn : GoodIn wsX9_playedAt (wsV RX9 328 RX9 yX9_requireTurn wsX9_requireTurn) := goodIn_app (goodIn_of _ (by decide +kernel)) ggX9_playedAt_X9_requireTurn
set_option maxRecDepth 20000 in
theorem ggX9_playedAt_X3_numberAt : GoodIn wsX9_playedAt wsX3_numberAt := goodIn_r _ [18, 19, 37, 38, 39, 40, 41, 42] (by decide +kernel) (by decide +kernel)
set_option maxRecDepth 20000 in
theorem gX9_playedAt_X3_numberAt : GoodIn wsX9_playedAt (wsV RX9 331 RX3 yX3_numberAt wsX3_numberAt) := goodIn_app (goodIn_of _ (by decide +kernel)) ggX9_playedAt_X3_numberAt
theorem dX9_playedAt_0 : decode cX9_playedAt 0 = .ok (.aload_n 0, 1) := by decide +kernel
theorem dX9_playedAt_1 : decode cX9_playedAt 1 = .ok (.iload_n 1, 1) := by decide +kernel
theorem dX9_playedAt_2 : decode cX9_playedAt 2 = .ok (.invokevirtual 328, 3) := by decide +kernel
theorem dX9_playedAt_5 : decode cX9_playedAt 5 = .ok (.aload_n 0, 1) := by decide +kernel
theorem dX9_playedAt_6 : decode cX9_playedAt 6 = .ok (.getfield 26, 3) := by decide +kernel
theorem dX9_playedAt_9 : decode cX9_playedAt 9 = .ok (.iload_n 1, 1) := by decide +kernel
theorem dX9_playedAt_10 : decode cX9_playedAt 10 = .ok (.invokevirtual 331, 3) := by decide +kernel
theorem dX9_playedAt_13 : decode cX9_playedAt 13 = .ok (.ireturn, 1) := by decide +kernel
set_option maxRecDepth 20000 in
theorem ggX9_rolledAt_X9_requireTurn : GoodIn wsX9_rolledAt wsX9_requireTurn := goodIn_ca (goodIn_r _ [6, 7, 8, 1, 9, 10, 11, 12, 13, 14, 20, 21, 22, 23, 24, 25, 26, 27, 28, 29, 30, 31, 32, 33, 34, 35, 36, 37, 38, 39, 40, 41, 42] (by decide +kernel) (by decide +kernel)) (goodIn_sub (fun _ h => List.mem_cons_of_mem _ (List.mem_append_right _ h)) (by decide +kernel))
set_option maxRecDepth 20000 in
theorem gX9_rolledAt_X9_requireTurn : GoodIn wsX9_rolledAt (wsV RX9 328 RX9 yX9_requireTurn wsX9_requireTurn) := goodIn_app (goodIn_of _ (by decide +kernel)) ggX9_rolledAt_X9_requireTurn
set_option maxRecDepth 20000 in
theorem ggX9_rolledAt_X3_diceAt : GoodIn wsX9_rolledAt wsX3_diceAt := goodIn_r _ [18, 19, 37, 38, 39, 40, 41, 42] (by decide +kernel) (by decide +kernel)
set_option maxRecDepth 20000 in
theorem gX9_rolledAt_X3_diceAt : GoodIn wsX9_rolledAt (wsV RX9 334 RX3 yX3_diceAt wsX3_diceAt) := goodIn_app (goodIn_of _ (by decide +kernel)) ggX9_rolledAt_X3_diceAt
theorem dX9_rolledAt_0 : decode cX9_rolledAt 0 = .ok (.aload_n 0, 1) := by decide +kernel
theorem dX9_rolledAt_1 : decode cX9_rolledAt 1 = .ok (.iload_n 1, 1) := by decide +kernel
theorem dX9_rolledAt_2 : decode cX9_rolledAt 2 = .ok (.invokevirtual 328, 3) := by decide +kernel
theorem dX9_rolledAt_5 : decode cX9_rolledAt 5 = .ok (.aload_n 0, 1) := by decide +kernel
theorem dX9_rolledAt_6 : decode cX9_rolledAt 6 = .ok (.getfield 26, 3) := by decide +kernel
theorem dX9_rolledAt_9 : decode cX9_rolledAt 9 = .ok (.iload_n 1, 1) := by decide +kernel
theorem dX9_rolledAt_10 : decode cX9_rolledAt 10 = .ok (.invokevirtual 334, 3) := by decide +kernel
theorem dX9_rolledAt_13 : decode cX9_rolledAt 13 = .ok (.ireturn, 1) := by decide +kernel
set_option maxRecDepth 20000 in
theorem ggX9_fairness_X8_unevenness : GoodIn wsX9_fairness wsX8_unevenness := goodIn_r _ [6, 7, 8, 26, 27, 28, 29] (by decide +kernel) (by decide +kernel)
set_option maxRecDepth 20000 in
theorem gX9_fairness_X8_unevenness : GoodIn wsX9_fairness (wsV RX9 337 RX8 yX8_unevenness wsX8_unevenness) := goodIn_app (goodIn_of _ (by decide +kernel)) ggX9_fairness_X8_unevenness
theorem dX9_fairness_0 : decode cX9_fairness 0 = .ok (.aload_n 0, 1) := by decide +kernel
theorem dX9_fairness_1 : decode cX9_fairness 1 = .ok (.getfield 33, 3) := by decide +kernel
theorem dX9_fairness_4 : decode cX9_fairness 4 = .ok (.invokevirtual 337, 3) := by decide +kernel
theorem dX9_fairness_7 : decode cX9_fairness 7 = .ok (.lreturn, 1) := by decide +kernel
set_option maxRecDepth 20000 in
theorem ggX9_hitShare_X8_allPlays : GoodIn wsX9_hitShare wsX8_allPlays := goodIn_r _ [8, 9, 32, 33, 34, 35] (by decide +kernel) (by decide +kernel)
set_option maxRecDepth 20000 in
theorem gX9_hitShare_X8_allPlays : GoodIn wsX9_hitShare (wsV RX9 341 RX8 yX8_allPlays wsX8_allPlays) := goodIn_app (goodIn_of _ (by decide +kernel)) ggX9_hitShare_X8_allPlays
set_option maxRecDepth 20000 in
theorem ggX9_hitShare_X8_hitting : GoodIn wsX9_hitShare wsX8_hitting := goodIn_r _ [13, 14, 32, 33, 34, 35] (by decide +kernel) (by decide +kernel)
set_option maxRecDepth 20000 in
theorem gX9_hitShare_X8_hitting : GoodIn wsX9_hitShare (wsV RX9 349 RX8 yX8_hitting wsX8_hitting) := goodIn_app (goodIn_of _ (by decide +kernel)) ggX9_hitShare_X8_hitting
theorem dX9_hitShare_0 : decode cX9_hitShare 0 = .ok (.aload_n 0, 1) := by decide +kernel
theorem dX9_hitShare_1 : decode cX9_hitShare 1 = .ok (.getfield 33, 3) := by decide +kernel
theorem dX9_hitShare_4 : decode cX9_hitShare 4 = .ok (.invokevirtual 341, 3) := by decide +kernel
theorem dX9_hitShare_7 : decode cX9_hitShare 7 = .ok (.ifCond .ne 14, 3) := by decide +kernel
theorem dX9_hitShare_10 : decode cX9_hitShare 10 = .ok (.new 344, 3) := by decide +kernel
theorem dX9_hitShare_13 : decode cX9_hitShare 13 = .ok (.dup, 1) := by decide +kernel
theorem dX9_hitShare_14 : decode cX9_hitShare 14 = .ok (.ldc_w 346, 3) := by decide +kernel
theorem dX9_hitShare_17 : decode cX9_hitShare 17 = .ok (.invokespecial 348, 3) := by decide +kernel
theorem dX9_hitShare_20 : decode cX9_hitShare 20 = .ok (.athrow, 1) := by decide +kernel
theorem dX9_hitShare_21 : decode cX9_hitShare 21 = .ok (.aload_n 0, 1) := by decide +kernel
theorem dX9_hitShare_22 : decode cX9_hitShare 22 = .ok (.getfield 33, 3) := by decide +kernel
theorem dX9_hitShare_25 : decode cX9_hitShare 25 = .ok (.invokevirtual 349, 3) := by decide +kernel
theorem dX9_hitShare_28 : decode cX9_hitShare 28 = .ok (.i2f, 1) := by decide +kernel
theorem dX9_hitShare_29 : decode cX9_hitShare 29 = .ok (.aload_n 0, 1) := by decide +kernel
theorem dX9_hitShare_30 : decode cX9_hitShare 30 = .ok (.getfield 33, 3) := by decide +kernel
theorem dX9_hitShare_33 : decode cX9_hitShare 33 = .ok (.invokevirtual 341, 3) := by decide +kernel
theorem dX9_hitShare_36 : decode cX9_hitShare 36 = .ok (.i2f, 1) := by decide +kernel
theorem dX9_hitShare_37 : decode cX9_hitShare 37 = .ok (.fdiv, 1) := by decide +kernel
theorem dX9_hitShare_38 : decode cX9_hitShare 38 = .ok (.freturn, 1) := by decide +kernel
set_option maxRecDepth 20000 in
theorem ggX9_meanError_X8_allPlays : GoodIn wsX9_meanError wsX8_allPlays := goodIn_r _ [8, 9, 32, 33, 34, 35] (by decide +kernel) (by decide +kernel)
set_option maxRecDepth 20000 in
theorem gX9_meanError_X8_allPlays : GoodIn wsX9_meanError (wsV RX9 341 RX8 yX8_allPlays wsX8_allPlays) := goodIn_app (goodIn_of _ (by decide +kernel)) ggX9_meanError_X8_allPlays
set_option maxRecDepth 20000 in
theorem ggX9_meanError_X8_errors : GoodIn wsX9_meanError wsX8_errors := goodIn_r _ [13, 14, 32, 33, 34, 35] (by decide +kernel) (by decide +kernel)
set_option maxRecDepth 20000 in
theorem gX9_meanError_X8_errors : GoodIn wsX9_meanError (wsV RX9 352 RX8 yX8_errors wsX8_errors) := goodIn_app (goodIn_of _ (by decide +kernel)) ggX9_meanError_X8_errors
theorem dX9_meanError_0 : decode cX9_meanError 0 = .ok (.aload_n 0, 1) := by decide +kernel
theorem dX9_meanError_1 : decode cX9_meanError 1 = .ok (.getfield 33, 3) := by decide +kernel
theorem dX9_meanError_4 : decode cX9_meanError 4 = .ok (.invokevirtual 341, 3) := by decide +kernel
theorem dX9_meanError_7 : decode cX9_meanError 7 = .ok (.ifCond .ne 14, 3) := by decide +kernel
theorem dX9_meanError_10 : decode cX9_meanError 10 = .ok (.new 344, 3) := by decide +kernel
theorem dX9_meanError_13 : decode cX9_meanError 13 = .ok (.dup, 1) := by decide +kernel
theorem dX9_meanError_14 : decode cX9_meanError 14 = .ok (.ldc_w 346, 3) := by decide +kernel
theorem dX9_meanError_17 : decode cX9_meanError 17 = .ok (.invokespecial 348, 3) := by decide +kernel
theorem dX9_meanError_20 : decode cX9_meanError 20 = .ok (.athrow, 1) := by decide +kernel
theorem dX9_meanError_21 : decode cX9_meanError 21 = .ok (.aload_n 0, 1) := by decide +kernel
theorem dX9_meanError_22 : decode cX9_meanError 22 = .ok (.getfield 33, 3) := by decide +kernel
theorem dX9_meanError_25 : decode cX9_meanError 25 = .ok (.invokevirtual 352, 3) := by decide +kernel
theorem dX9_meanError_28 : decode cX9_meanError 28 = .ok (.l2d, 1) := by decide +kernel
theorem dX9_meanError_29 : decode cX9_meanError 29 = .ok (.aload_n 0, 1) := by decide +kernel
theorem dX9_meanError_30 : decode cX9_meanError 30 = .ok (.getfield 33, 3) := by decide +kernel
theorem dX9_meanError_33 : decode cX9_meanError 33 = .ok (.invokevirtual 341, 3) := by decide +kernel
theorem dX9_meanError_36 : decode cX9_meanError 36 = .ok (.i2d, 1) := by decide +kernel
theorem dX9_meanError_37 : decode cX9_meanError 37 = .ok (.ddiv, 1) := by decide +kernel
theorem dX9_meanError_38 : decode cX9_meanError 38 = .ok (.dreturn, 1) := by decide +kernel
set_option maxRecDepth 20000 in
theorem ggX9_isSound_X3_variant : GoodIn wsX9_isSound wsX3_variant := goodIn_r _ [10, 11, 97, 98, 99, 100, 101, 102] (by decide +kernel) (by decide +kernel)
set_option maxRecDepth 20000 in
theorem gX9_isSound_X3_variant : GoodIn wsX9_isSound (wsV RX9 355 RX3 yX3_variant wsX3_variant) := goodIn_app (goodIn_of _ (by decide +kernel)) ggX9_isSound_X3_variant
set_option maxRecDepth 20000 in
theorem ggX9_isSound_X9_layoutOf : GoodIn wsX9_isSound wsX9_layoutOf := goodIn_r _ [15, 16, 17, 18, 19] (by decide +kernel) (by decide +kernel)
set_option maxRecDepth 20000 in
theorem gX9_isSound_X9_layoutOf : GoodIn wsX9_isSound (va_wsS RX9 98 yX9_layoutOf wsX9_layoutOf) := goodIn_app (goodIn_of _ (by decide +kernel)) ggX9_isSound_X9_layoutOf
set_option maxRecDepth 20000 in
theorem ggX9_isSound_X9_menIn : GoodIn wsX9_isSound wsX9_menIn := goodIn_r _ [22] (by decide +kernel) (by decide +kernel)
set_option maxRecDepth 20000 in
theorem gX9_isSound_X9_menIn : GoodIn wsX9_isSound (va_wsS RX9 102 yX9_menIn wsX9_menIn) := goodIn_app (goodIn_of _ (by decide +kernel)) ggX9_isSound_X9_menIn
set_option maxRecDepth 20000 in
theorem ggX9_isSound_X0_total : GoodIn wsX9_isSound wsX0_total := goodIn_r _ [27, 28, 29, 30, 26, 31, 32, 103] (by decide +kernel) (by decide +kernel)
set_option maxRecDepth 20000 in
theorem gX9_isSound_X0_total : GoodIn wsX9_isSound (wsV RX9 356 RX0 yX0_total wsX0_total) := goodIn_app (goodIn_of _ (by decide +kernel)) ggX9_isSound_X0_total
set_option maxRecDepth 20000 in
theorem ggX9_isSound_X7_sum : GoodIn wsX9_isSound wsX7_sum := goodIn_r _ [37, 38, 104, 105, 106] (by decide +kernel) (by decide +kernel)
set_option maxRecDepth 20000 in
theorem gX9_isSound_X7_sum : GoodIn wsX9_isSound (wsV RX9 359 RX7 yX7_sum wsX7_sum) := goodIn_app (goodIn_of _ (by decide +kernel)) ggX9_isSound_X7_sum
set_option maxRecDepth 20000 in
theorem ggX9_isSound_X3_replay : GoodIn wsX9_isSound wsX3_replay := goodIn_r _ [42, 11, 43, 44, 45, 13, 14, 15, 16, 17, 18, 19, 46, 47, 48, 26, 49, 32, 50, 51, 52, 53, 54, 55, 56, 57, 58, 59, 60, 61, 62, 63, 64, 65, 66, 67, 68, 69, 70, 71, 72, 73, 74, 75, 28, 29, 30, 31, 97, 98, 99, 100, 101, 102, 103] (by decide +kernel) (by decide +kernel)
set_option maxRecDepth 20000 in
theorem gX9_isSound_X3_replay : GoodIn wsX9_isSound (wsV RX9 362 RX3 yX3_replay wsX3_replay) := goodIn_app (goodIn_of _ (by decide +kernel)) ggX9_isSound_X3_replay
set_option maxRecDepth 20000 in
theorem ggX9_isSound_X0_isLike : GoodIn wsX9_isSound wsX0_isLike := goodIn_r _ [79, 32, 103] (by decide +kernel) (by decide +kernel)
set_option maxRecDepth 20000 in
theorem gX9_isSound_X0_isLike : GoodIn wsX9_isSound (wsV RX9 365 RX0 yX0_isLike wsX0_isLike) := goodIn_app (goodIn_of _ (by decide +kernel)) ggX9_isSound_X0_isLike
theorem dX9_isSound_0 : decode cX9_isSound 0 = .ok (.aload_n 0, 1) := by decide +kernel
theorem dX9_isSound_1 : decode cX9_isSound 1 = .ok (.getfield 26, 3) := by decide +kernel
theorem dX9_isSound_4 : decode cX9_isSound 4 = .ok (.invokevirtual 355, 3) := by decide +kernel
theorem dX9_isSound_7 : decode cX9_isSound 7 = .ok (.invokestatic 98, 3) := by decide +kernel
theorem dX9_isSound_10 : decode cX9_isSound 10 = .ok (.invokestatic 102, 3) := by decide +kernel
theorem dX9_isSound_13 : decode cX9_isSound 13 = .ok (.istore_n 1, 1) := by decide +kernel
theorem dX9_isSound_14 : decode cX9_isSound 14 = .ok (.aload_n 0, 1) := by decide +kernel
theorem dX9_isSound_15 : decode cX9_isSound 15 = .ok (.getfield 75, 3) := by decide +kernel
theorem dX9_isSound_18 : decode cX9_isSound 18 = .ok (.iconst 0, 1) := by decide +kernel
theorem dX9_isSound_19 : decode cX9_isSound 19 = .ok (.invokevirtual 356, 3) := by decide +kernel
theorem dX9_isSound_22 : decode cX9_isSound 22 = .ok (.iload_n 1, 1) := by decide +kernel
theorem dX9_isSound_23 : decode cX9_isSound 23 = .ok (.if_icmp .ne 27, 3) := by decide +kernel
theorem dX9_isSound_26 : decode cX9_isSound 26 = .ok (.aload_n 0, 1) := by decide +kernel
theorem dX9_isSound_27 : decode cX9_isSound 27 = .ok (.getfield 75, 3) := by decide +kernel
theorem dX9_isSound_30 : decode cX9_isSound 30 = .ok (.iconst 1, 1) := by decide +kernel
theorem dX9_isSound_31 : decode cX9_isSound 31 = .ok (.invokevirtual 356, 3) := by decide +kernel
theorem dX9_isSound_34 : decode cX9_isSound 34 = .ok (.iload_n 1, 1) := by decide +kernel
theorem dX9_isSound_35 : decode cX9_isSound 35 = .ok (.if_icmp .ne 15, 3) := by decide +kernel
theorem dX9_isSound_38 : decode cX9_isSound 38 = .ok (.aload_n 0, 1) := by decide +kernel
theorem dX9_isSound_39 : decode cX9_isSound 39 = .ok (.getfield 19, 3) := by decide +kernel
theorem dX9_isSound_42 : decode cX9_isSound 42 = .ok (.invokevirtual 359, 3) := by decide +kernel
theorem dX9_isSound_45 : decode cX9_isSound 45 = .ok (.lconst 0, 1) := by decide +kernel
theorem dX9_isSound_46 : decode cX9_isSound 46 = .ok (.lcmp, 1) := by decide +kernel
theorem dX9_isSound_47 : decode cX9_isSound 47 = .ok (.ifCond .eq 5, 3) := by decide +kernel
theorem dX9_isSound_50 : decode cX9_isSound 50 = .ok (.iconst 0, 1) := by decide +kernel
theorem dX9_isSound_51 : decode cX9_isSound 51 = .ok (.ireturn, 1) := by decide +kernel
theorem dX9_isSound_52 : decode cX9_isSound 52 = .ok (.aload_n 0, 1) := by decide +kernel
theorem dX9_isSound_53 : decode cX9_isSound 53 = .ok (.getfield 26, 3) := by decide +kernel
theorem dX9_isSound_56 : decode cX9_isSound 56 = .ok (.aload_n 0, 1) := by decide +kernel
theorem dX9_isSound_57 : decode cX9_isSound 57 = .ok (.getfield 78, 3) := by decide +kernel
theorem dX9_isSound_60 : decode cX9_isSound 60 = .ok (.invokevirtual 362, 3) := by decide +kernel
theorem dX9_isSound_63 : decode cX9_isSound 63 = .ok (.aload_n 0, 1) := by decide +kernel
theorem dX9_isSound_64 : decode cX9_isSound 64 = .ok (.getfield 78, 3) := by decide +kernel
theorem dX9_isSound_67 : decode cX9_isSound 67 = .ok (.aload_n 0, 1) := by decide +kernel
theorem dX9_isSound_68 : decode cX9_isSound 68 = .ok (.getfield 71, 3) := by decide +kernel
theorem dX9_isSound_71 : decode cX9_isSound 71 = .ok (.invokevirtual 365, 3) := by decide +kernel
theorem dX9_isSound_74 : decode cX9_isSound 74 = .ok (.ireturn, 1) := by decide +kernel
theorem dX9_requireSide_0 : decode cX9_requireSide 0 = .ok (.iload_n 0, 1) := by decide +kernel
theorem dX9_requireSide_1 : decode cX9_requireSide 1 = .ok (.ifCond .eq 19, 3) := by decide +kernel
theorem dX9_requireSide_4 : decode cX9_requireSide 4 = .ok (.iload_n 0, 1) := by decide +kernel
theorem dX9_requireSide_5 : decode cX9_requireSide 5 = .ok (.iconst 1, 1) := by decide +kernel
theorem dX9_requireSide_6 : decode cX9_requireSide 6 = .ok (.if_icmp .eq 14, 3) := by decide +kernel
theorem dX9_requireSide_9 : decode cX9_requireSide 9 = .ok (.new 106, 3) := by decide +kernel
theorem dX9_requireSide_12 : decode cX9_requireSide 12 = .ok (.dup, 1) := by decide +kernel
theorem dX9_requireSide_13 : decode cX9_requireSide 13 = .ok (.ldc_w 369, 3) := by decide +kernel
theorem dX9_requireSide_16 : decode cX9_requireSide 16 = .ok (.invokespecial 110, 3) := by decide +kernel
theorem dX9_requireSide_19 : decode cX9_requireSide 19 = .ok (.athrow, 1) := by decide +kernel
theorem dX9_requireSide_20 : decode cX9_requireSide 20 = .ok (.return_, 1) := by decide +kernel
theorem dX9_requirePhase_0 : decode cX9_requirePhase 0 = .ok (.aload_n 0, 1) := by decide +kernel
theorem dX9_requirePhase_1 : decode cX9_requirePhase 1 = .ok (.getfield 81, 3) := by decide +kernel
theorem dX9_requirePhase_4 : decode cX9_requirePhase 4 = .ok (.iload_n 1, 1) := by decide +kernel
theorem dX9_requirePhase_5 : decode cX9_requirePhase 5 = .ok (.if_icmp .eq 14, 3) := by decide +kernel
theorem dX9_requirePhase_8 : decode cX9_requirePhase 8 = .ok (.new 117, 3) := by decide +kernel
theorem dX9_requirePhase_11 : decode cX9_requirePhase 11 = .ok (.dup, 1) := by decide +kernel
theorem dX9_requirePhase_12 : decode cX9_requirePhase 12 = .ok (.ldc_w 371, 3) := by decide +kernel
theorem dX9_requirePhase_15 : decode cX9_requirePhase 15 = .ok (.invokespecial 121, 3) := by decide +kernel
theorem dX9_requirePhase_18 : decode cX9_requirePhase 18 = .ok (.athrow, 1) := by decide +kernel
theorem dX9_requirePhase_19 : decode cX9_requirePhase 19 = .ok (.return_, 1) := by decide +kernel
set_option maxRecDepth 20000 in
theorem ggX9_requirePlay_X9_requirePhase : GoodIn wsX9_requirePlay wsX9_requirePhase := goodIn_ca (goodIn_r _ [8, 9, 10, 11, 18, 19, 20, 21, 22, 23, 24, 25, 26, 27, 28, 29, 30, 31, 32, 33, 34] (by decide +kernel) (by decide +kernel)) (goodIn_sub (fun _ h => List.mem_cons_of_mem _ (List.mem_append_right _ h)) (by decide +kernel))
set_option maxRecDepth 20000 in
theorem gX9_requirePlay_X9_requirePhase : GoodIn wsX9_requirePlay (wsV RX9 168 RX9 yX9_requirePhase wsX9_requirePhase) := goodIn_app (goodIn_of _ (by decide +kernel)) ggX9_requirePlay_X9_requirePhase
set_option maxRecDepth 20000 in
theorem ggX9_requirePlay_X5_count : GoodIn wsX9_requirePlay wsX5_count := goodIn_r _ [16, 17, 35, 36, 37, 38, 39, 40, 41, 42, 43, 44] (by decide +kernel) (by decide +kernel)
set_option maxRecDepth 20000 in
theorem gX9_requirePlay_X5_count : GoodIn wsX9_requirePlay (wsV RX9 188 RX5 yX5_count wsX5_count) := goodIn_app (goodIn_of _ (by decide +kernel)) ggX9_requirePlay_X5_count
theorem dX9_requirePlay_0 : decode cX9_requirePlay 0 = .ok (.aload_n 0, 1) := by decide +kernel
theorem dX9_requirePlay_1 : decode cX9_requirePlay 1 = .ok (.bipush 114, 2) := by decide +kernel
theorem dX9_requirePlay_3 : decode cX9_requirePlay 3 = .ok (.invokevirtual 168, 3) := by decide +kernel
theorem dX9_requirePlay_6 : decode cX9_requirePlay 6 = .ok (.iload_n 1, 1) := by decide +kernel
theorem dX9_requirePlay_7 : decode cX9_requirePlay 7 = .ok (.ifCond .lt 14, 3) := by decide +kernel
theorem dX9_requirePlay_10 : decode cX9_requirePlay 10 = .ok (.iload_n 1, 1) := by decide +kernel
theorem dX9_requirePlay_11 : decode cX9_requirePlay 11 = .ok (.aload_n 0, 1) := by decide +kernel
theorem dX9_requirePlay_12 : decode cX9_requirePlay 12 = .ok (.getfield 61, 3) := by decide +kernel
theorem dX9_requirePlay_15 : decode cX9_requirePlay 15 = .ok (.invokevirtual 188, 3) := by decide +kernel
theorem dX9_requirePlay_18 : decode cX9_requirePlay 18 = .ok (.if_icmp .lt 14, 3) := by decide +kernel
theorem dX9_requirePlay_21 : decode cX9_requirePlay 21 = .ok (.new 242, 3) := by decide +kernel
theorem dX9_requirePlay_24 : decode cX9_requirePlay 24 = .ok (.dup, 1) := by decide +kernel
theorem dX9_requirePlay_25 : decode cX9_requirePlay 25 = .ok (.ldc_w 373, 3) := by decide +kernel
theorem dX9_requirePlay_28 : decode cX9_requirePlay 28 = .ok (.invokespecial 246, 3) := by decide +kernel
theorem dX9_requirePlay_31 : decode cX9_requirePlay 31 = .ok (.athrow, 1) := by decide +kernel
theorem dX9_requirePlay_32 : decode cX9_requirePlay 32 = .ok (.return_, 1) := by decide +kernel
set_option maxRecDepth 20000 in
theorem ggX9_requireMove_X9_requirePlay : GoodIn wsX9_requireMove wsX9_requirePlay := goodIn_ca (goodIn_ca (goodIn_r _ [8, 1, 2, 3, 9, 10, 11, 7, 12, 13, 14, 15, 16, 17, 18, 19, 20, 21, 35, 36, 37, 38, 39, 40, 41, 42, 43, 44, 45, 46, 47, 48, 49, 50, 51, 52, 53, 54, 55, 56, 57, 58, 59, 60, 61] (by decide +kernel) (by decide +kernel)) (goodIn_sub (fun _ h => List.mem_cons_of_mem _ (List.mem_append_left _ (List.mem_append_right _ h))) (by decide +kernel))) (goodIn_sub (fun _ h => List.mem_cons_of_mem _ (List.mem_append_right _ h)) (by decide +kernel))
set_option maxRecDepth 20000 in
theorem gX9_requireMove_X9_requirePlay : GoodIn wsX9_requireMove (wsV RX9 191 RX9 yX9_requirePlay wsX9_requirePlay) := goodIn_app (goodIn_of _ (by decide +kernel)) ggX9_requireMove_X9_requirePlay
set_option maxRecDepth 20000 in
theorem ggX9_requireMove_X5_length : GoodIn wsX9_requireMove wsX5_length := goodIn_r _ [25, 26, 52, 53, 54, 55, 56, 57, 58, 59, 60, 61] (by decide +kernel) (by decide +kernel)
set_option maxRecDepth 20000 in
theorem gX9_requireMove_X5_length : GoodIn wsX9_requireMove (wsV RX9 194 RX5 yX5_length wsX5_length) := goodIn_app (goodIn_of _ (by decide +kernel)) ggX9_requireMove_X5_length
set_option maxRecDepth 20000 in
theorem ggX9_requireMove_X5_rowAt : GoodIn wsX9_requireMove wsX5_rowAt := goodIn_r _ [30, 31, 52, 53, 54, 55, 56, 57, 58, 59, 60, 61] (by decide +kernel) (by decide +kernel)
set_option maxRecDepth 20000 in
theorem gX9_requireMove_X5_rowAt : GoodIn wsX9_requireMove (wsV RX9 275 RX5 yX5_rowAt wsX5_rowAt) := goodIn_app (goodIn_of _ (by decide +kernel)) ggX9_requireMove_X5_rowAt
set_option maxRecDepth 20000 in
theorem ggX9_requireMove_X9_codeAt : GoodIn wsX9_requireMove wsX9_codeAt := goodIn_r _ [34] (by decide +kernel) (by decide +kernel)
set_option maxRecDepth 20000 in
theorem gX9_requireMove_X9_codeAt : GoodIn wsX9_requireMove (va_wsS RX9 377 yX9_codeAt wsX9_codeAt) := goodIn_app (goodIn_of _ (by decide +kernel)) ggX9_requireMove_X9_codeAt
theorem dX9_requireMove_0 : decode cX9_requireMove 0 = .ok (.aload_n 0, 1) := by decide +kernel
theorem dX9_requireMove_1 : decode cX9_requireMove 1 = .ok (.iload_n 1, 1) := by decide +kernel
theorem dX9_requireMove_2 : decode cX9_requireMove 2 = .ok (.invokevirtual 191, 3) := by decide +kernel
theorem dX9_requireMove_5 : decode cX9_requireMove 5 = .ok (.iload_n 2, 1) := by decide +kernel
theorem dX9_requireMove_6 : decode cX9_requireMove 6 = .ok (.ifCond .lt 14, 3) := by decide +kernel
theorem dX9_requireMove_9 : decode cX9_requireMove 9 = .ok (.iload_n 2, 1) := by decide +kernel
theorem dX9_requireMove_10 : decode cX9_requireMove 10 = .ok (.aload_n 0, 1) := by decide +kernel
theorem dX9_requireMove_11 : decode cX9_requireMove 11 = .ok (.getfield 61, 3) := by decide +kernel
theorem dX9_requireMove_14 : decode cX9_requireMove 14 = .ok (.invokevirtual 194, 3) := by decide +kernel
theorem dX9_requireMove_17 : decode cX9_requireMove 17 = .ok (.if_icmp .lt 14, 3) := by decide +kernel
theorem dX9_requireMove_20 : decode cX9_requireMove 20 = .ok (.new 242, 3) := by decide +kernel
theorem dX9_requireMove_23 : decode cX9_requireMove 23 = .ok (.dup, 1) := by decide +kernel
theorem dX9_requireMove_24 : decode cX9_requireMove 24 = .ok (.ldc_w 375, 3) := by decide +kernel
theorem dX9_requireMove_27 : decode cX9_requireMove 27 = .ok (.invokespecial 246, 3) := by decide +kernel
theorem dX9_requireMove_30 : decode cX9_requireMove 30 = .ok (.athrow, 1) := by decide +kernel
theorem dX9_requireMove_31 : decode cX9_requireMove 31 = .ok (.aload_n 0, 1) := by decide +kernel
theorem dX9_requireMove_32 : decode cX9_requireMove 32 = .ok (.getfield 61, 3) := by decide +kernel
theorem dX9_requireMove_35 : decode cX9_requireMove 35 = .ok (.iload_n 1, 1) := by decide +kernel
theorem dX9_requireMove_36 : decode cX9_requireMove 36 = .ok (.invokevirtual 275, 3) := by decide +kernel
theorem dX9_requireMove_39 : decode cX9_requireMove 39 = .ok (.iload_n 2, 1) := by decide +kernel
theorem dX9_requireMove_40 : decode cX9_requireMove 40 = .ok (.invokestatic 377, 3) := by decide +kernel
theorem dX9_requireMove_43 : decode cX9_requireMove 43 = .ok (.ireturn, 1) := by decide +kernel
set_option maxRecDepth 20000 in
theorem ggX9_requireSeat_X7_size : GoodIn wsX9_requireSeat wsX7_size := goodIn_r _ [8, 9, 32, 33, 34] (by decide +kernel) (by decide +kernel)
set_option maxRecDepth 20000 in
theorem gX9_requireSeat_X7_size : GoodIn wsX9_requireSeat (wsV RX9 113 RX7 yX7_size wsX7_size) := goodIn_app (goodIn_of _ (by decide +kernel)) ggX9_requireSeat_X7_size
set_option maxRecDepth 20000 in
theorem ggX9_requireSeat_X7_playerAt : GoodIn wsX9_requireSeat wsX7_playerAt := goodIn_r _ [13, 14, 32, 33, 34] (by decide +kernel) (by decide +kernel)
set_option maxRecDepth 20000 in
theorem gX9_requireSeat_X7_playerAt : GoodIn wsX9_requireSeat (wsV RX9 382 RX7 yX7_playerAt wsX7_playerAt) := goodIn_app (goodIn_of _ (by decide +kernel)) ggX9_requireSeat_X7_playerAt
theorem dX9_requireSeat_0 : decode cX9_requireSeat 0 = .ok (.iload_n 1, 1) := by decide +kernel
theorem dX9_requireSeat_1 : decode cX9_requireSeat 1 = .ok (.ifCond .lt 14, 3) := by decide +kernel
theorem dX9_requireSeat_4 : decode cX9_requireSeat 4 = .ok (.iload_n 1, 1) := by decide +kernel
theorem dX9_requireSeat_5 : decode cX9_requireSeat 5 = .ok (.aload_n 0, 1) := by decide +kernel
theorem dX9_requireSeat_6 : decode cX9_requireSeat 6 = .ok (.getfield 19, 3) := by decide +kernel
theorem dX9_requireSeat_9 : decode cX9_requireSeat 9 = .ok (.invokevirtual 113, 3) := by decide +kernel
theorem dX9_requireSeat_12 : decode cX9_requireSeat 12 = .ok (.if_icmp .lt 14, 3) := by decide +kernel
theorem dX9_requireSeat_15 : decode cX9_requireSeat 15 = .ok (.new 344, 3) := by decide +kernel
theorem dX9_requireSeat_18 : decode cX9_requireSeat 18 = .ok (.dup, 1) := by decide +kernel
theorem dX9_requireSeat_19 : decode cX9_requireSeat 19 = .ok (.ldc_w 380, 3) := by decide +kernel
theorem dX9_requireSeat_22 : decode cX9_requireSeat 22 = .ok (.invokespecial 348, 3) := by decide +kernel
theorem dX9_requireSeat_25 : decode cX9_requireSeat 25 = .ok (.athrow, 1) := by decide +kernel
theorem dX9_requireSeat_26 : decode cX9_requireSeat 26 = .ok (.aload_n 0, 1) := by decide +kernel
theorem dX9_requireSeat_27 : decode cX9_requireSeat 27 = .ok (.getfield 19, 3) := by decide +kernel
theorem dX9_requireSeat_30 : decode cX9_requireSeat 30 = .ok (.iload_n 1, 1) := by decide +kernel
theorem dX9_requireSeat_31 : decode cX9_requireSeat 31 = .ok (.invokevirtual 382, 3) := by decide +kernel
theorem dX9_requireSeat_34 : decode cX9_requireSeat 34 = .ok (.ireturn, 1) := by decide +kernel
set_option maxRecDepth 20000 in
theorem ggX9_requireTurn_X3_turns : GoodIn wsX9_requireTurn wsX3_turns := goodIn_r _ [8, 9, 27, 28, 29, 30, 31, 32] (by decide +kernel) (by decide +kernel)
set_option maxRecDepth 20000 in
theorem gX9_requireTurn_X3_turns : GoodIn wsX9_requireTurn (wsV RX9 325 RX3 yX3_turns wsX3_turns) := goodIn_app (goodIn_of _ (by decide +kernel)) ggX9_requireTurn_X3_turns
theorem dX9_requireTurn_0 : decode cX9_requireTurn 0 = .ok (.iload_n 1, 1) := by decide +kernel
theorem dX9_requireTurn_1 : decode cX9_requireTurn 1 = .ok (.ifCond .lt 14, 3) := by decide +kernel
theorem dX9_requireTurn_4 : decode cX9_requireTurn 4 = .ok (.iload_n 1, 1) := by decide +kernel
theorem dX9_requireTurn_5 : decode cX9_requireTurn 5 = .ok (.aload_n 0, 1) := by decide +kernel
theorem dX9_requireTurn_6 : decode cX9_requireTurn 6 = .ok (.getfield 26, 3) := by decide +kernel
theorem dX9_requireTurn_9 : decode cX9_requireTurn 9 = .ok (.invokevirtual 325, 3) := by decide +kernel
theorem dX9_requireTurn_12 : decode cX9_requireTurn 12 = .ok (.if_icmp .lt 14, 3) := by decide +kernel
theorem dX9_requireTurn_15 : decode cX9_requireTurn 15 = .ok (.new 242, 3) := by decide +kernel
theorem dX9_requireTurn_18 : decode cX9_requireTurn 18 = .ok (.dup, 1) := by decide +kernel
theorem dX9_requireTurn_19 : decode cX9_requireTurn 19 = .ok (.ldc_w 385, 3) := by decide +kernel
theorem dX9_requireTurn_22 : decode cX9_requireTurn 22 = .ok (.invokespecial 246, 3) := by decide +kernel
theorem dX9_requireTurn_25 : decode cX9_requireTurn 25 = .ok (.athrow, 1) := by decide +kernel
theorem dX9_requireTurn_26 : decode cX9_requireTurn 26 = .ok (.return_, 1) := by decide +kernel
theorem dX9_turnCube_0 : decode cX9_turnCube 0 = .ok (.aload_n 0, 1) := by decide +kernel
theorem dX9_turnCube_1 : decode cX9_turnCube 1 = .ok (.iload_n 1, 1) := by decide +kernel
theorem dX9_turnCube_2 : decode cX9_turnCube 2 = .ok (.aload_n 0, 1) := by decide +kernel
theorem dX9_turnCube_3 : decode cX9_turnCube 3 = .ok (.getfield 89, 3) := by decide +kernel
theorem dX9_turnCube_6 : decode cX9_turnCube 6 = .ok (.imul, 1) := by decide +kernel
theorem dX9_turnCube_7 : decode cX9_turnCube 7 = .ok (.putfield 89, 3) := by decide +kernel
theorem dX9_turnCube_10 : decode cX9_turnCube 10 = .ok (.aload_n 0, 1) := by decide +kernel
theorem dX9_turnCube_11 : decode cX9_turnCube 11 = .ok (.iconst 1, 1) := by decide +kernel
theorem dX9_turnCube_12 : decode cX9_turnCube 12 = .ok (.aload_n 0, 1) := by decide +kernel
theorem dX9_turnCube_13 : decode cX9_turnCube 13 = .ok (.getfield 85, 3) := by decide +kernel
theorem dX9_turnCube_16 : decode cX9_turnCube 16 = .ok (.isub, 1) := by decide +kernel
theorem dX9_turnCube_17 : decode cX9_turnCube 17 = .ok (.putfield 92, 3) := by decide +kernel
theorem dX9_turnCube_20 : decode cX9_turnCube 20 = .ok (.aload_n 0, 1) := by decide +kernel
theorem dX9_turnCube_21 : decode cX9_turnCube 21 = .ok (.bipush 100, 2) := by decide +kernel
theorem dX9_turnCube_23 : decode cX9_turnCube 23 = .ok (.putfield 81, 3) := by decide +kernel
theorem dX9_turnCube_26 : decode cX9_turnCube 26 = .ok (.aload_n 0, 1) := by decide +kernel
theorem dX9_turnCube_27 : decode cX9_turnCube 27 = .ok (.getfield 89, 3) := by decide +kernel
theorem dX9_turnCube_30 : decode cX9_turnCube 30 = .ok (.ireturn, 1) := by decide +kernel
set_option maxRecDepth 20000 in
theorem ggX9_carryOut_X5_rowAt : GoodIn wsX9_carryOut wsX5_rowAt := goodIn_r _ [13, 14, 167, 168, 169, 170, 171, 172, 173, 174, 175, 176] (by decide +kernel) (by decide +kernel)
set_option maxRecDepth 20000 in
theorem gX9_carryOut_X5_rowAt : GoodIn wsX9_carryOut (wsV RX9 275 RX5 yX5_rowAt wsX5_rowAt) := goodIn_app (goodIn_of _ (by decide +kernel)) ggX9_carryOut_X5_rowAt
set_option maxRecDepth 20000 in
theorem ggX9_carryOut_X0_carry : GoodIn wsX9_carryOut wsX0_carry := goodIn_r _ [19, 20, 21, 22, 23, 24, 25, 26, 27, 28, 29, 18, 30, 31, 32, 33, 34, 35, 36, 37, 38, 39, 40, 41, 42, 43, 177] (by decide +kernel) (by decide +kernel)
set_option maxRecDepth 20000 in
theorem gX9_carryOut_X0_carry : GoodIn wsX9_carryOut (wsV RX9 278 RX0 yX0_carry wsX0_carry) := goodIn_app (goodIn_of _ (by decide +kernel)) ggX9_carryOut_X0_carry
set_option maxRecDepth 20000 in
theorem ggX9_carryOut_X0_become : GoodIn wsX9_carryOut wsX0_become := goodIn_r _ [47, 39, 177] (by decide +kernel) (by decide +kernel)
set_option maxRecDepth 20000 in
theorem gX9_carryOut_X0_become : GoodIn wsX9_carryOut (wsV RX9 147 RX0 yX0_become wsX0_become) := goodIn_app (goodIn_of _ (by decide +kernel)) ggX9_carryOut_X0_become
set_option maxRecDepth 20000 in
theorem ggX9_carryOut_X6_asNumber : GoodIn wsX9_carryOut wsX6_asNumber := goodIn_r _ [52, 53, 54, 178, 179, 180, 181, 182] (by decide +kernel) (by decide +kernel)
set_option maxRecDepth 20000 in
theorem gX9_carryOut_X6_asNumber : GoodIn wsX9_carryOut (wsV RX9 387 RX6 yX6_asNumber wsX6_asNumber) := goodIn_app (goodIn_of _ (by decide +kernel)) ggX9_carryOut_X6_asNumber
set_option maxRecDepth 20000 in
theorem ggX9_carryOut_X3_add : GoodIn wsX9_carryOut wsX3_add := goodIn_r _ [59, 60, 61, 62, 63, 183, 184, 185, 186, 187, 188] (by decide +kernel) (by decide +kernel)
set_option maxRecDepth 20000 in
theorem gX9_carryOut_X3_add : GoodIn wsX9_carryOut (wsV RX9 390 RX3 yX3_add wsX3_add) := goodIn_app (goodIn_of _ (by decide +kernel)) ggX9_carryOut_X3_add
set_option maxRecDepth 20000 in
theorem ggX9_carryOut_X5_errorOf : GoodIn wsX9_carryOut wsX5_errorOf := goodIn_r _ [67, 68, 69, 70, 12, 71, 72, 73, 74, 75, 76, 77, 167, 168, 169, 170, 171, 172, 173, 174, 175, 176] (by decide +kernel) (by decide +kernel)
set_option maxRecDepth 20000 in
theorem gX9_carryOut_X5_errorOf : GoodIn wsX9_carryOut (wsV RX9 272 RX5 yX5_errorOf wsX5_errorOf) := goodIn_app (goodIn_of _ (by decide +kernel)) ggX9_carryOut_X5_errorOf
set_option maxRecDepth 20000 in
theorem ggX9_carryOut_X8_countPlay : GoodIn wsX9_carryOut wsX8_countPlay := goodIn_r _ [82, 83, 84, 85, 189, 190, 191, 192] (by decide +kernel) (by decide +kernel)
set_option maxRecDepth 20000 in
theorem gX9_carryOut_X8_countPlay : GoodIn wsX9_carryOut (wsV RX9 394 RX8 yX8_countPlay wsX8_countPlay) := goodIn_app (goodIn_of _ (by decide +kernel)) ggX9_carryOut_X8_countPlay
set_option maxRecDepth 20000 in
theorem ggX9_carryOut_X0_at : GoodIn wsX9_carryOut wsX0_at := goodIn_r _ [43, 39, 177] (by decide +kernel) (by decide +kernel)
set_option maxRecDepth 20000 in
theorem gX9_carryOut_X0_at : GoodIn wsX9_carryOut (wsV RX9 247 RX0 yX0_at wsX0_at) := goodIn_app (goodIn_of _ (by decide +kernel)) ggX9_carryOut_X0_at
set_option maxRecDepth 20000 in
theorem ggX9_carryOut_X0_total : GoodIn wsX9_carryOut wsX0_total := goodIn_r _ [90, 40, 41, 42, 18, 43, 39, 177] (by decide +kernel) (by decide +kernel)
set_option maxRecDepth 20000 in
theorem gX9_carryOut_X0_total : GoodIn wsX9_carryOut (wsV RX9 356 RX0 yX0_total wsX0_total) := goodIn_app (goodIn_of _ (by decide +kernel)) ggX9_carryOut_X0_total
set_option maxRecDepth 20000 in
theorem ggX9_carryOut_X9_kindAgainst : GoodIn wsX9_carryOut wsX9_kindAgainst := goodIn_r _ [94, 2, 95, 96, 86, 41, 42, 18, 43, 39, 97, 98, 99, 100, 101, 102, 103, 104, 105, 106, 107, 108, 109, 110, 111, 112, 40, 150, 151, 152, 153, 154, 155, 156, 157, 158, 159, 160, 161, 162, 163, 164, 165, 166, 177, 193, 194, 195, 196, 197, 198, 199] (by decide +kernel) (by decide +kernel)
set_option maxRecDepth 20000 in
theorem gX9_carryOut_X9_kindAgainst : GoodIn wsX9_carryOut (wsV RX9 397 RX9 yX9_kindAgainst wsX9_kindAgainst) := goodIn_app (goodIn_of _ (by decide +kernel)) ggX9_carryOut_X9_kindAgainst
set_option maxRecDepth 20000 in
theorem ggX9_carryOut_X9_endGame : GoodIn wsX9_carryOut wsX9_endGame := goodIn_r _ [116, 8, 117, 95, 96, 118, 119, 120, 121, 100, 122, 123, 124, 125, 108, 126, 127, 128, 129, 130, 131, 132, 133, 134, 135, 136, 137, 138, 139, 140, 141, 142, 143, 144, 145, 146, 147, 148, 149, 150, 151, 152, 153, 154, 155, 156, 157, 158, 159, 160, 161, 162, 163, 164, 165, 166, 193, 194, 195, 196, 197, 198, 199, 200, 201, 202] (by decide +kernel) (by decide +kernel)
set_option maxRecDepth 20000 in
theorem gX9_carryOut_X9_endGame : GoodIn wsX9_carryOut (wsV RX9 258 RX9 yX9_endGame wsX9_endGame) := goodIn_app (goodIn_of _ (by decide +kernel)) ggX9_carryOut_X9_endGame
theorem dX9_carryOut_0 : decode cX9_carryOut 0 = .ok (.aload_n 0, 1) := by decide +kernel
theorem dX9_carryOut_1 : decode cX9_carryOut 1 = .ok (.getfield 61, 3) := by decide +kernel
theorem dX9_carryOut_4 : decode cX9_carryOut 4 = .ok (.iload_n 1, 1) := by decide +kernel
theorem dX9_carryOut_5 : decode cX9_carryOut 5 = .ok (.invokevirtual 275, 3) := by decide +kernel
theorem dX9_carryOut_8 : decode cX9_carryOut 8 = .ok (.istore_n 2, 1) := by decide +kernel
theorem dX9_carryOut_9 : decode cX9_carryOut 9 = .ok (.aload_n 0, 1) := by decide +kernel
theorem dX9_carryOut_10 : decode cX9_carryOut 10 = .ok (.getfield 71, 3) := by decide +kernel
theorem dX9_carryOut_13 : decode cX9_carryOut 13 = .ok (.aload_n 0, 1) := by decide +kernel
theorem dX9_carryOut_14 : decode cX9_carryOut 14 = .ok (.getfield 85, 3) := by decide +kernel
theorem dX9_carryOut_17 : decode cX9_carryOut 17 = .ok (.iload_n 2, 1) := by decide +kernel
theorem dX9_carryOut_18 : decode cX9_carryOut 18 = .ok (.invokevirtual 278, 3) := by decide +kernel
theorem dX9_carryOut_21 : decode cX9_carryOut 21 = .ok (.istore_n 3, 1) := by decide +kernel
theorem dX9_carryOut_22 : decode cX9_carryOut 22 = .ok (.aload_n 0, 1) := by decide +kernel
theorem dX9_carryOut_23 : decode cX9_carryOut 23 = .ok (.getfield 75, 3) := by decide +kernel
theorem dX9_carryOut_26 : decode cX9_carryOut 26 = .ok (.aload_n 0, 1) := by decide +kernel
theorem dX9_carryOut_27 : decode cX9_carryOut 27 = .ok (.getfield 71, 3) := by decide +kernel
theorem dX9_carryOut_30 : decode cX9_carryOut 30 = .ok (.invokevirtual 147, 3) := by decide +kernel
theorem dX9_carryOut_33 : decode cX9_carryOut 33 = .ok (.aload_n 0, 1) := by decide +kernel
theorem dX9_carryOut_34 : decode cX9_carryOut 34 = .ok (.getfield 26, 3) := by decide +kernel
theorem dX9_carryOut_37 : decode cX9_carryOut 37 = .ok (.aload_n 0, 1) := by decide +kernel
theorem dX9_carryOut_38 : decode cX9_carryOut 38 = .ok (.getfield 40, 3) := by decide +kernel
theorem dX9_carryOut_41 : decode cX9_carryOut 41 = .ok (.invokevirtual 387, 3) := by decide +kernel
theorem dX9_carryOut_44 : decode cX9_carryOut 44 = .ok (.iload_n 1, 1) := by decide +kernel
theorem dX9_carryOut_45 : decode cX9_carryOut 45 = .ok (.iload_n 2, 1) := by decide +kernel
theorem dX9_carryOut_46 : decode cX9_carryOut 46 = .ok (.invokevirtual 390, 3) := by decide +kernel
theorem dX9_carryOut_49 : decode cX9_carryOut 49 = .ok (.aload_n 0, 1) := by decide +kernel
theorem dX9_carryOut_50 : decode cX9_carryOut 50 = .ok (.getfield 33, 3) := by decide +kernel
theorem dX9_carryOut_53 : decode cX9_carryOut 53 = .ok (.iload_n 3, 1) := by decide +kernel
theorem dX9_carryOut_54 : decode cX9_carryOut 54 = .ok (.aload_n 0, 1) := by decide +kernel
theorem dX9_carryOut_55 : decode cX9_carryOut 55 = .ok (.getfield 61, 3) := by decide +kernel
theorem dX9_carryOut_58 : decode cX9_carryOut 58 = .ok (.iload_n 1, 1) := by decide +kernel
theorem dX9_carryOut_59 : decode cX9_carryOut 59 = .ok (.invokevirtual 272, 3) := by decide +kernel
theorem dX9_carryOut_62 : decode cX9_carryOut 62 = .ok (.invokevirtual 394, 3) := by decide +kernel
theorem dX9_carryOut_65 : decode cX9_carryOut 65 = .ok (.aload_n 0, 1) := by decide +kernel
theorem dX9_carryOut_66 : decode cX9_carryOut 66 = .ok (.getfield 71, 3) := by decide +kernel
theorem dX9_carryOut_69 : decode cX9_carryOut 69 = .ok (.aload_n 0, 1) := by decide +kernel
theorem dX9_carryOut_70 : decode cX9_carryOut 70 = .ok (.getfield 85, 3) := by decide +kernel
theorem dX9_carryOut_73 : decode cX9_carryOut 73 = .ok (.iconst 0, 1) := by decide +kernel
theorem dX9_carryOut_74 : decode cX9_carryOut 74 = .ok (.invokevirtual 247, 3) := by decide +kernel
theorem dX9_carryOut_77 : decode cX9_carryOut 77 = .ok (.aload_n 0, 1) := by decide +kernel
theorem dX9_carryOut_78 : decode cX9_carryOut 78 = .ok (.getfield 71, 3) := by decide +kernel
theorem dX9_carryOut_81 : decode cX9_carryOut 81 = .ok (.aload_n 0, 1) := by decide +kernel
theorem dX9_carryOut_82 : decode cX9_carryOut 82 = .ok (.getfield 85, 3) := by decide +kernel
theorem dX9_carryOut_85 : decode cX9_carryOut 85 = .ok (.invokevirtual 356, 3) := by decide +kernel
theorem dX9_carryOut_88 : decode cX9_carryOut 88 = .ok (.if_icmp .ne 24, 3) := by decide +kernel
theorem dX9_carryOut_91 : decode cX9_carryOut 91 = .ok (.aload_n 0, 1) := by decide +kernel
theorem dX9_carryOut_92 : decode cX9_carryOut 92 = .ok (.aload_n 0, 1) := by decide +kernel
theorem dX9_carryOut_93 : decode cX9_carryOut 93 = .ok (.getfield 85, 3) := by decide +kernel
theorem dX9_carryOut_96 : decode cX9_carryOut 96 = .ok (.aload_n 0, 1) := by decide +kernel
theorem dX9_carryOut_97 : decode cX9_carryOut 97 = .ok (.iconst 1, 1) := by decide +kernel
theorem dX9_carryOut_98 : decode cX9_carryOut 98 = .ok (.aload_n 0, 1) := by decide +kernel
theorem dX9_carryOut_99 : decode cX9_carryOut 99 = .ok (.getfield 85, 3) := by decide +kernel
theorem dX9_carryOut_102 : decode cX9_carryOut 102 = .ok (.isub, 1) := by decide +kernel
theorem dX9_carryOut_103 : decode cX9_carryOut 103 = .ok (.invokevirtual 397, 3) := by decide +kernel
theorem dX9_carryOut_106 : decode cX9_carryOut 106 = .ok (.invokevirtual 258, 3) := by decide +kernel
theorem dX9_carryOut_109 : decode cX9_carryOut 109 = .ok (.goto 19, 3) := by decide +kernel
theorem dX9_carryOut_112 : decode cX9_carryOut 112 = .ok (.aload_n 0, 1) := by decide +kernel
theorem dX9_carryOut_113 : decode cX9_carryOut 113 = .ok (.iconst 1, 1) := by decide +kernel
theorem dX9_carryOut_114 : decode cX9_carryOut 114 = .ok (.aload_n 0, 1) := by decide +kernel
theorem dX9_carryOut_115 : decode cX9_carryOut 115 = .ok (.getfield 85, 3) := by decide +kernel
theorem dX9_carryOut_118 : decode cX9_carryOut 118 = .ok (.isub, 1) := by decide +kernel
theorem dX9_carryOut_119 : decode cX9_carryOut 119 = .ok (.putfield 85, 3) := by decide +kernel
theorem dX9_carryOut_122 : decode cX9_carryOut 122 = .ok (.aload_n 0, 1) := by decide +kernel
theorem dX9_carryOut_123 : decode cX9_carryOut 123 = .ok (.bipush 100, 2) := by decide +kernel
theorem dX9_carryOut_125 : decode cX9_carryOut 125 = .ok (.putfield 81, 3) := by decide +kernel
theorem dX9_carryOut_128 : decode cX9_carryOut 128 = .ok (.iload_n 3, 1) := by decide +kernel
theorem dX9_carryOut_129 : decode cX9_carryOut 129 = .ok (.ireturn, 1) := by decide +kernel
set_option maxRecDepth 20000 in
theorem ggX9_kindAgainst_X0_at : GoodIn wsX9_kindAgainst wsX0_at := goodIn_r _ [8, 9, 44] (by decide +kernel) (by decide +kernel)
set_option maxRecDepth 20000 in
theorem gX9_kindAgainst_X0_at : GoodIn wsX9_kindAgainst (wsV RX9 247 RX0 yX0_at wsX0_at) := goodIn_app (goodIn_of _ (by decide +kernel)) ggX9_kindAgainst_X0_at
set_option maxRecDepth 20000 in
theorem ggX9_kindAgainst_X4_isJacoby : GoodIn wsX9_kindAgainst wsX4_isJacoby := goodIn_r _ [14, 15, 16, 17, 18, 13, 19, 20, 21, 45, 46, 47, 48, 49, 50, 51] (by decide +kernel) (by decide +kernel)
set_option maxRecDepth 20000 in
theorem gX9_kindAgainst_X4_isJacoby : GoodIn wsX9_kindAgainst (wsV RX9 400 RX4 yX4_isJacoby wsX4_isJacoby) := goodIn_app (goodIn_of _ (by decide +kernel)) ggX9_kindAgainst_X4_isJacoby
set_option maxRecDepth 20000 in
theorem ggX9_kindAgainst_X0_farthest : GoodIn wsX9_kindAgainst wsX0_farthest := goodIn_r _ [25, 26, 5, 6, 7, 8, 9, 44] (by decide +kernel) (by decide +kernel)
set_option maxRecDepth 20000 in
theorem gX9_kindAgainst_X0_farthest : GoodIn wsX9_kindAgainst (wsV RX9 403 RX0 yX0_farthest wsX0_farthest) := goodIn_app (goodIn_of _ (by decide +kernel)) ggX9_kindAgainst_X0_farthest
theorem dX9_kindAgainst_0 : decode cX9_kindAgainst 0 = .ok (.aload_n 0, 1) := by decide +kernel
theorem dX9_kindAgainst_1 : decode cX9_kindAgainst 1 = .ok (.getfield 71, 3) := by decide +kernel
theorem dX9_kindAgainst_4 : decode cX9_kindAgainst 4 = .ok (.iload_n 1, 1) := by decide +kernel
theorem dX9_kindAgainst_5 : decode cX9_kindAgainst 5 = .ok (.iconst 0, 1) := by decide +kernel
theorem dX9_kindAgainst_6 : decode cX9_kindAgainst 6 = .ok (.invokevirtual 247, 3) := by decide +kernel
theorem dX9_kindAgainst_9 : decode cX9_kindAgainst 9 = .ok (.ifCond .gt 21, 3) := by decide +kernel
theorem dX9_kindAgainst_12 : decode cX9_kindAgainst 12 = .ok (.aload_n 0, 1) := by decide +kernel
theorem dX9_kindAgainst_13 : decode cX9_kindAgainst 13 = .ok (.getfield 10, 3) := by decide +kernel
theorem dX9_kindAgainst_16 : decode cX9_kindAgainst 16 = .ok (.invokevirtual 400, 3) := by decide +kernel
theorem dX9_kindAgainst_19 : decode cX9_kindAgainst 19 = .ok (.ifCond .eq 13, 3) := by decide +kernel
theorem dX9_kindAgainst_22 : decode cX9_kindAgainst 22 = .ok (.aload_n 0, 1) := by decide +kernel
theorem dX9_kindAgainst_23 : decode cX9_kindAgainst 23 = .ok (.getfield 89, 3) := by decide +kernel
theorem dX9_kindAgainst_26 : decode cX9_kindAgainst 26 = .ok (.iconst 1, 1) := by decide +kernel
theorem dX9_kindAgainst_27 : decode cX9_kindAgainst 27 = .ok (.if_icmp .ne 5, 3) := by decide +kernel
theorem dX9_kindAgainst_30 : decode cX9_kindAgainst 30 = .ok (.iconst 1, 1) := by decide +kernel
theorem dX9_kindAgainst_31 : decode cX9_kindAgainst 31 = .ok (.ireturn, 1) := by decide +kernel
theorem dX9_kindAgainst_32 : decode cX9_kindAgainst 32 = .ok (.aload_n 0, 1) := by decide +kernel
theorem dX9_kindAgainst_33 : decode cX9_kindAgainst 33 = .ok (.getfield 71, 3) := by decide +kernel
theorem dX9_kindAgainst_36 : decode cX9_kindAgainst 36 = .ok (.iload_n 1, 1) := by decide +kernel
theorem dX9_kindAgainst_37 : decode cX9_kindAgainst 37 = .ok (.invokevirtual 403, 3) := by decide +kernel
theorem dX9_kindAgainst_40 : decode cX9_kindAgainst 40 = .ok (.bipush 18, 2) := by decide +kernel
theorem dX9_kindAgainst_42 : decode cX9_kindAgainst 42 = .ok (.if_icmp .le 7, 3) := by decide +kernel
theorem dX9_kindAgainst_45 : decode cX9_kindAgainst 45 = .ok (.iconst 3, 1) := by decide +kernel
theorem dX9_kindAgainst_46 : decode cX9_kindAgainst 46 = .ok (.goto 4, 3) := by decide +kernel
theorem dX9_kindAgainst_49 : decode cX9_kindAgainst 49 = .ok (.iconst 2, 1) := by decide +kernel
theorem dX9_kindAgainst_50 : decode cX9_kindAgainst 50 = .ok (.ireturn, 1) := by decide +kernel
set_option maxRecDepth 20000 in
theorem ggX9_endGame_X4_addPoints : GoodIn wsX9_endGame wsX4_addPoints := goodIn_r _ [10, 11, 12, 13, 14, 15, 16, 17, 9, 18, 56, 57, 58, 59, 60, 61, 62] (by decide +kernel) (by decide +kernel)
set_option maxRecDepth 20000 in
theorem gX9_endGame_X4_addPoints : GoodIn wsX9_endGame (wsV RX9 406 RX4 yX4_addPoints wsX4_addPoints) := goodIn_app (goodIn_of _ (by decide +kernel)) ggX9_endGame_X4_addPoints
set_option maxRecDepth 20000 in
theorem ggX9_endGame_X7_settle : GoodIn wsX9_endGame wsX7_settle := goodIn_r _ [23, 24, 25, 26, 27, 22, 28, 29, 30, 31, 32, 33, 34, 35, 36, 37, 38, 63, 64, 65] (by decide +kernel) (by decide +kernel)
set_option maxRecDepth 20000 in
theorem gX9_endGame_X7_settle : GoodIn wsX9_endGame (wsV RX9 409 RX7 yX7_settle wsX7_settle) := goodIn_app (goodIn_of _ (by decide +kernel)) ggX9_endGame_X7_settle
theorem dX9_endGame_0 : decode cX9_endGame 0 = .ok (.aload_n 0, 1) := by decide +kernel
theorem dX9_endGame_1 : decode cX9_endGame 1 = .ok (.bipush 45, 2) := by decide +kernel
theorem dX9_endGame_3 : decode cX9_endGame 3 = .ok (.putfield 81, 3) := by decide +kernel
theorem dX9_endGame_6 : decode cX9_endGame 6 = .ok (.aload_n 0, 1) := by decide +kernel
theorem dX9_endGame_7 : decode cX9_endGame 7 = .ok (.iload_n 2, 1) := by decide +kernel
theorem dX9_endGame_8 : decode cX9_endGame 8 = .ok (.putfield 95, 3) := by decide +kernel
theorem dX9_endGame_11 : decode cX9_endGame 11 = .ok (.aload_n 0, 1) := by decide +kernel
theorem dX9_endGame_12 : decode cX9_endGame 12 = .ok (.getfield 10, 3) := by decide +kernel
theorem dX9_endGame_15 : decode cX9_endGame 15 = .ok (.iload_n 1, 1) := by decide +kernel
theorem dX9_endGame_16 : decode cX9_endGame 16 = .ok (.aload_n 0, 1) := by decide +kernel
theorem dX9_endGame_17 : decode cX9_endGame 17 = .ok (.getfield 89, 3) := by decide +kernel
theorem dX9_endGame_20 : decode cX9_endGame 20 = .ok (.iload_n 2, 1) := by decide +kernel
theorem dX9_endGame_21 : decode cX9_endGame 21 = .ok (.imul, 1) := by decide +kernel
theorem dX9_endGame_22 : decode cX9_endGame 22 = .ok (.invokevirtual 406, 3) := by decide +kernel
theorem dX9_endGame_25 : decode cX9_endGame 25 = .ok (.aload_n 0, 1) := by decide +kernel
theorem dX9_endGame_26 : decode cX9_endGame 26 = .ok (.getfield 19, 3) := by decide +kernel
theorem dX9_endGame_29 : decode cX9_endGame 29 = .ok (.iload_n 1, 1) := by decide +kernel
theorem dX9_endGame_30 : decode cX9_endGame 30 = .ok (.ifCond .ne 7, 3) := by decide +kernel
theorem dX9_endGame_33 : decode cX9_endGame 33 = .ok (.iconst 1, 1) := by decide +kernel
theorem dX9_endGame_34 : decode cX9_endGame 34 = .ok (.goto 4, 3) := by decide +kernel
theorem dX9_endGame_37 : decode cX9_endGame 37 = .ok (.iconst 0, 1) := by decide +kernel
theorem dX9_endGame_38 : decode cX9_endGame 38 = .ok (.aload_n 0, 1) := by decide +kernel
theorem dX9_endGame_39 : decode cX9_endGame 39 = .ok (.getfield 89, 3) := by decide +kernel
theorem dX9_endGame_42 : decode cX9_endGame 42 = .ok (.iload_n 2, 1) := by decide +kernel
theorem dX9_endGame_43 : decode cX9_endGame 43 = .ok (.imul, 1) := by decide +kernel
theorem dX9_endGame_44 : decode cX9_endGame 44 = .ok (.invokevirtual 409, 3) := by decide +kernel
theorem dX9_endGame_47 : decode cX9_endGame 47 = .ok (.return_, 1) := by decide +kernel
set_option maxRecDepth 20000 in
theorem ggX9_numberOfPlayToBoard_X5_count : GoodIn wsX9_numberOfPlayToBoard wsX5_count := goodIn_r _ [10, 11, 71, 72, 73, 74, 75, 76, 77, 78, 79, 80] (by decide +kernel) (by decide +kernel)
set_option maxRecDepth 20000 in
theorem gX9_numberOfPlayToBoard_X5_count : GoodIn wsX9_numberOfPlayToBoard (wsV RX9 188 RX5 yX5_count wsX5_count) := goodIn_app (goodIn_of _ (by decide +kernel)) ggX9_numberOfPlayToBoard_X5_count
set_option maxRecDepth 20000 in
theorem ggX9_numberOfPlayToBoard_X0_become : GoodIn wsX9_numberOfPlayToBoard wsX0_become := goodIn_r _ [16, 17, 81] (by decide +kernel) (by decide +kernel)
set_option maxRecDepth 20000 in
theorem gX9_numberOfPlayToBoard_X0_become : GoodIn wsX9_numberOfPlayToBoard (wsV RX9 147 RX0 yX0_become wsX0_become) := goodIn_app (goodIn_of _ (by decide +kernel)) ggX9_numberOfPlayToBoard_X0_become
set_option maxRecDepth 20000 in
theorem ggX9_numberOfPlayToBoard_X5_rowAt : GoodIn wsX9_numberOfPlayToBoard wsX5_rowAt := goodIn_r _ [21, 22, 71, 72, 73, 74, 75, 76, 77, 78, 79, 80] (by decide +kernel) (by decide +kernel)
set_option maxRecDepth 20000 in
theorem gX9_numberOfPlayToBoard_X5_rowAt : GoodIn wsX9_numberOfPlayToBoard (wsV RX9 275 RX5 yX5_rowAt wsX5_rowAt) := goodIn_app (goodIn_of _ (by decide +kernel)) ggX9_numberOfPlayToBoard_X5_rowAt
set_option maxRecDepth 20000 in
theorem ggX9_numberOfPlayToBoard_X0_carry : GoodIn wsX9_numberOfPlayToBoard wsX0_carry := goodIn_r _ [26, 27, 28, 29, 30, 31, 32, 33, 34, 35, 36, 15, 37, 38, 39, 40, 41, 42, 43, 44, 45, 17, 46, 47, 48, 49, 81] (by decide +kernel) (by decide +kernel)
set_option maxRecDepth 20000 in
theorem gX9_numberOfPlayToBoard_X0_carry : GoodIn wsX9_numberOfPlayToBoard (wsV RX9 278 RX0 yX0_carry wsX0_carry) := goodIn_app (goodIn_of _ (by decide +kernel)) ggX9_numberOfPlayToBoard_X0_carry
set_option maxRecDepth 20000 in
theorem ggX9_numberOfPlayToBoard_X0_isLike : GoodIn wsX9_numberOfPlayToBoard wsX0_isLike := goodIn_r _ [53, 17, 81] (by decide +kernel) (by decide +kernel)
set_option maxRecDepth 20000 in
theorem gX9_numberOfPlayToBoard_X0_isLike : GoodIn wsX9_numberOfPlayToBoard (wsV RX9 365 RX0 yX0_isLike wsX0_isLike) := goodIn_app (goodIn_of _ (by decide +kernel)) ggX9_numberOfPlayToBoard_X0_isLike
theorem dX9_numberOfPlayToBoard_0 : decode cX9_numberOfPlayToBoard 0 = .ok (.iconst 0, 1) := by decide +kernel
theorem dX9_numberOfPlayToBoard_1 : decode cX9_numberOfPlayToBoard 1 = .ok (.istore_n 1, 1) := by decide +kernel
theorem dX9_numberOfPlayToBoard_2 : decode cX9_numberOfPlayToBoard 2 = .ok (.iload_n 1, 1) := by decide +kernel
theorem dX9_numberOfPlayToBoard_3 : decode cX9_numberOfPlayToBoard 3 = .ok (.aload_n 0, 1) := by decide +kernel
theorem dX9_numberOfPlayToBoard_4 : decode cX9_numberOfPlayToBoard 4 = .ok (.getfield 61, 3) := by decide +kernel
theorem dX9_numberOfPlayToBoard_7 : decode cX9_numberOfPlayToBoard 7 = .ok (.invokevirtual 188, 3) := by decide +kernel
theorem dX9_numberOfPlayToBoard_10 : decode cX9_numberOfPlayToBoard 10 = .ok (.if_icmp .ge 56, 3) := by decide +kernel
theorem dX9_numberOfPlayToBoard_13 : decode cX9_numberOfPlayToBoard 13 = .ok (.aload_n 0, 1) := by decide +kernel
theorem dX9_numberOfPlayToBoard_14 : decode cX9_numberOfPlayToBoard 14 = .ok (.getfield 78, 3) := by decide +kernel
theorem dX9_numberOfPlayToBoard_17 : decode cX9_numberOfPlayToBoard 17 = .ok (.aload_n 0, 1) := by decide +kernel
theorem dX9_numberOfPlayToBoard_18 : decode cX9_numberOfPlayToBoard 18 = .ok (.getfield 71, 3) := by decide +kernel
theorem dX9_numberOfPlayToBoard_21 : decode cX9_numberOfPlayToBoard 21 = .ok (.invokevirtual 147, 3) := by decide +kernel
theorem dX9_numberOfPlayToBoard_24 : decode cX9_numberOfPlayToBoard 24 = .ok (.aload_n 0, 1) := by decide +kernel
theorem dX9_numberOfPlayToBoard_25 : decode cX9_numberOfPlayToBoard 25 = .ok (.getfield 78, 3) := by decide +kernel
theorem dX9_numberOfPlayToBoard_28 : decode cX9_numberOfPlayToBoard 28 = .ok (.aload_n 0, 1) := by decide +kernel
theorem dX9_numberOfPlayToBoard_29 : decode cX9_numberOfPlayToBoard 29 = .ok (.getfield 85, 3) := by decide +kernel
theorem dX9_numberOfPlayToBoard_32 : decode cX9_numberOfPlayToBoard 32 = .ok (.aload_n 0, 1) := by decide +kernel
theorem dX9_numberOfPlayToBoard_33 : decode cX9_numberOfPlayToBoard 33 = .ok (.getfield 61, 3) := by decide +kernel
theorem dX9_numberOfPlayToBoard_36 : decode cX9_numberOfPlayToBoard 36 = .ok (.iload_n 1, 1) := by decide +kernel
theorem dX9_numberOfPlayToBoard_37 : decode cX9_numberOfPlayToBoard 37 = .ok (.invokevirtual 275, 3) := by decide +kernel
theorem dX9_numberOfPlayToBoard_40 : decode cX9_numberOfPlayToBoard 40 = .ok (.invokevirtual 278, 3) := by decide +kernel
theorem dX9_numberOfPlayToBoard_43 : decode cX9_numberOfPlayToBoard 43 = .ok (.pop, 1) := by decide +kernel
theorem dX9_numberOfPlayToBoard_44 : decode cX9_numberOfPlayToBoard 44 = .ok (.aload_n 0, 1) := by decide +kernel
theorem dX9_numberOfPlayToBoard_45 : decode cX9_numberOfPlayToBoard 45 = .ok (.getfield 78, 3) := by decide +kernel
theorem dX9_numberOfPlayToBoard_48 : decode cX9_numberOfPlayToBoard 48 = .ok (.aload_n 0, 1) := by decide +kernel
theorem dX9_numberOfPlayToBoard_49 : decode cX9_numberOfPlayToBoard 49 = .ok (.getfield 75, 3) := by decide +kernel
theorem dX9_numberOfPlayToBoard_52 : decode cX9_numberOfPlayToBoard 52 = .ok (.invokevirtual 365, 3) := by decide +kernel
theorem dX9_numberOfPlayToBoard_55 : decode cX9_numberOfPlayToBoard 55 = .ok (.ifCond .eq 5, 3) := by decide +kernel
theorem dX9_numberOfPlayToBoard_58 : decode cX9_numberOfPlayToBoard 58 = .ok (.iload_n 1, 1) := by decide +kernel
theorem dX9_numberOfPlayToBoard_59 : decode cX9_numberOfPlayToBoard 59 = .ok (.ireturn, 1) := by decide +kernel
theorem dX9_numberOfPlayToBoard_60 : decode cX9_numberOfPlayToBoard 60 = .ok (.iinc 1 1, 3) := by decide +kernel
theorem dX9_numberOfPlayToBoard_63 : decode cX9_numberOfPlayToBoard 63 = .ok (.goto (-61), 3) := by decide +kernel
theorem dX9_numberOfPlayToBoard_66 : decode cX9_numberOfPlayToBoard 66 = .ok (.iconst (-1), 1) := by decide +kernel
theorem dX9_numberOfPlayToBoard_67 : decode cX9_numberOfPlayToBoard 67 = .ok (.ireturn, 1) := by decide +kernel
theorem dX9_layoutOf_0 : decode cX9_layoutOf 0 = .ok (.iload_n 0, 1) := by decide +kernel
theorem dX9_layoutOf_1 : decode cX9_layoutOf 1 = .ok (.bipush 98, 2) := by decide +kernel
theorem dX9_layoutOf_3 : decode cX9_layoutOf 3 = .ok (.if_icmp .ne 7, 3) := by decide +kernel
theorem dX9_layoutOf_6 : decode cX9_layoutOf 6 = .ok (.getstatic 413, 3) := by decide +kernel
theorem dX9_layoutOf_9 : decode cX9_layoutOf 9 = .ok (.areturn, 1) := by decide +kernel
theorem dX9_layoutOf_10 : decode cX9_layoutOf 10 = .ok (.iload_n 0, 1) := by decide +kernel
theorem dX9_layoutOf_11 : decode cX9_layoutOf 11 = .ok (.bipush 110, 2) := by decide +kernel
theorem dX9_layoutOf_13 : decode cX9_layoutOf 13 = .ok (.if_icmp .ne 7, 3) := by decide +kernel
theorem dX9_layoutOf_16 : decode cX9_layoutOf 16 = .ok (.getstatic 417, 3) := by decide +kernel
theorem dX9_layoutOf_19 : decode cX9_layoutOf 19 = .ok (.areturn, 1) := by decide +kernel
theorem dX9_layoutOf_20 : decode cX9_layoutOf 20 = .ok (.iload_n 0, 1) := by decide +kernel
theorem dX9_layoutOf_21 : decode cX9_layoutOf 21 = .ok (.bipush 104, 2) := by decide +kernel
theorem dX9_layoutOf_23 : decode cX9_layoutOf 23 = .ok (.if_icmp .ne 9, 3) := by decide +kernel
theorem dX9_layoutOf_26 : decode cX9_layoutOf 26 = .ok (.getstatic 420, 3) := by decide +kernel
theorem dX9_layoutOf_29 : decode cX9_layoutOf 29 = .ok (.goto 6, 3) := by decide +kernel
theorem dX9_layoutOf_32 : decode cX9_layoutOf 32 = .ok (.getstatic 423, 3) := by decide +kernel
theorem dX9_layoutOf_35 : decode cX9_layoutOf 35 = .ok (.areturn, 1) := by decide +kernel
theorem dX9_menIn_0 : decode cX9_menIn 0 = .ok (.iconst 0, 1) := by decide +kernel
theorem dX9_menIn_1 : decode cX9_menIn 1 = .ok (.istore_n 1, 1) := by decide +kernel
theorem dX9_menIn_2 : decode cX9_menIn 2 = .ok (.iconst 1, 1) := by decide +kernel
theorem dX9_menIn_3 : decode cX9_menIn 3 = .ok (.istore_n 2, 1) := by decide +kernel
theorem dX9_menIn_4 : decode cX9_menIn 4 = .ok (.iload_n 2, 1) := by decide +kernel
theorem dX9_menIn_5 : decode cX9_menIn 5 = .ok (.aload_n 0, 1) := by decide +kernel
theorem dX9_menIn_6 : decode cX9_menIn 6 = .ok (.arraylength, 1) := by decide +kernel
theorem dX9_menIn_7 : decode cX9_menIn 7 = .ok (.if_icmp .ge 15, 3) := by decide +kernel
theorem dX9_menIn_10 : decode cX9_menIn 10 = .ok (.iload_n 1, 1) := by decide +kernel
theorem dX9_menIn_11 : decode cX9_menIn 11 = .ok (.aload_n 0, 1) := by decide +kernel
theorem dX9_menIn_12 : decode cX9_menIn 12 = .ok (.iload_n 2, 1) := by decide +kernel
theorem dX9_menIn_13 : decode cX9_menIn 13 = .ok (.iaload, 1) := by decide +kernel
theorem dX9_menIn_14 : decode cX9_menIn 14 = .ok (.iadd, 1) := by decide +kernel
theorem dX9_menIn_15 : decode cX9_menIn 15 = .ok (.istore_n 1, 1) := by decide +kernel
theorem dX9_menIn_16 : decode cX9_menIn 16 = .ok (.iinc 2 2, 3) := by decide +kernel
theorem dX9_menIn_19 : decode cX9_menIn 19 = .ok (.goto (-15), 3) := by decide +kernel
theorem dX9_menIn_22 : decode cX9_menIn 22 = .ok (.iload_n 1, 1) := by decide +kernel
theorem dX9_menIn_23 : decode cX9_menIn 23 = .ok (.ireturn, 1) := by decide +kernel
theorem dX9_codeOf_0 : decode cX9_codeOf 0 = .ok (.iload_n 0, 1) := by decide +kernel
theorem dX9_codeOf_1 : decode cX9_codeOf 1 = .ok (.iconst 3, 1) := by decide +kernel
theorem dX9_codeOf_2 : decode cX9_codeOf 2 = .ok (.ishl, 1) := by decide +kernel
theorem dX9_codeOf_3 : decode cX9_codeOf 3 = .ok (.iload_n 1, 1) := by decide +kernel
theorem dX9_codeOf_4 : decode cX9_codeOf 4 = .ok (.ior, 1) := by decide +kernel
theorem dX9_codeOf_5 : decode cX9_codeOf 5 = .ok (.ireturn, 1) := by decide +kernel
theorem dX9_fromOf_0 : decode cX9_fromOf 0 = .ok (.iload_n 0, 1) := by decide +kernel
theorem dX9_fromOf_1 : decode cX9_fromOf 1 = .ok (.iconst 3, 1) := by decide +kernel
theorem dX9_fromOf_2 : decode cX9_fromOf 2 = .ok (.iushr, 1) := by decide +kernel
theorem dX9_fromOf_3 : decode cX9_fromOf 3 = .ok (.ireturn, 1) := by decide +kernel
theorem dX9_dieOf_0 : decode cX9_dieOf 0 = .ok (.iload_n 0, 1) := by decide +kernel
theorem dX9_dieOf_1 : decode cX9_dieOf 1 = .ok (.bipush 7, 2) := by decide +kernel
theorem dX9_dieOf_3 : decode cX9_dieOf 3 = .ok (.iand, 1) := by decide +kernel
theorem dX9_dieOf_4 : decode cX9_dieOf 4 = .ok (.ireturn, 1) := by decide +kernel
theorem dX9_codeAt_0 : decode cX9_codeAt 0 = .ok (.iload_n 0, 1) := by decide +kernel
theorem dX9_codeAt_1 : decode cX9_codeAt 1 = .ok (.bipush 8, 2) := by decide +kernel
theorem dX9_codeAt_3 : decode cX9_codeAt 3 = .ok (.iload_n 1, 1) := by decide +kernel
theorem dX9_codeAt_4 : decode cX9_codeAt 4 = .ok (.imul, 1) := by decide +kernel
theorem dX9_codeAt_5 : decode cX9_codeAt 5 = .ok (.iushr, 1) := by decide +kernel
theorem dX9_codeAt_6 : decode cX9_codeAt 6 = .ok (.sipush 255, 3) := by decide +kernel
theorem dX9_codeAt_9 : decode cX9_codeAt 9 = .ok (.iand, 1) := by decide +kernel
theorem dX9_codeAt_10 : decode cX9_codeAt 10 = .ok (.ireturn, 1) := by decide +kernel
theorem dX9_withCode_0 : decode cX9_withCode 0 = .ok (.iload_n 0, 1) := by decide +kernel
theorem dX9_withCode_1 : decode cX9_withCode 1 = .ok (.iload_n 2, 1) := by decide +kernel
theorem dX9_withCode_2 : decode cX9_withCode 2 = .ok (.bipush 8, 2) := by decide +kernel
theorem dX9_withCode_4 : decode cX9_withCode 4 = .ok (.iload_n 1, 1) := by decide +kernel
theorem dX9_withCode_5 : decode cX9_withCode 5 = .ok (.imul, 1) := by decide +kernel
theorem dX9_withCode_6 : decode cX9_withCode 6 = .ok (.ishl, 1) := by decide +kernel
theorem dX9_withCode_7 : decode cX9_withCode 7 = .ok (.ior, 1) := by decide +kernel
theorem dX9_withCode_8 : decode cX9_withCode 8 = .ok (.ireturn, 1) := by decide +kernel
theorem dX10_init_0 : decode cX10_init 0 = .ok (.aload_n 0, 1) := by decide +kernel
theorem dX10_init_1 : decode cX10_init 1 = .ok (.invokespecial 1, 3) := by decide +kernel
theorem dX10_init_4 : decode cX10_init 4 = .ok (.aload_n 0, 1) := by decide +kernel
theorem dX10_init_5 : decode cX10_init 5 = .ok (.iconst 2, 1) := by decide +kernel
theorem dX10_init_6 : decode cX10_init 6 = .ok (.newarray .int, 2) := by decide +kernel
theorem dX10_init_8 : decode cX10_init 8 = .ok (.putfield 7, 3) := by decide +kernel
theorem dX10_init_11 : decode cX10_init 11 = .ok (.aload_n 0, 1) := by decide +kernel
theorem dX10_init_12 : decode cX10_init 12 = .ok (.bipush 45, 2) := by decide +kernel
theorem dX10_init_14 : decode cX10_init 14 = .ok (.putfield 13, 3) := by decide +kernel
theorem dX10_init_17 : decode cX10_init 17 = .ok (.aload_n 0, 1) := by decide +kernel
theorem dX10_init_18 : decode cX10_init 18 = .ok (.bipush 52, 2) := by decide +kernel
theorem dX10_init_20 : decode cX10_init 20 = .ok (.newarray .int, 2) := by decide +kernel
theorem dX10_init_22 : decode cX10_init 22 = .ok (.putfield 17, 3) := by decide +kernel
theorem dX10_init_25 : decode cX10_init 25 = .ok (.aload_n 0, 1) := by decide +kernel
theorem dX10_init_26 : decode cX10_init 26 = .ok (.bipush 52, 2) := by decide +kernel
theorem dX10_init_28 : decode cX10_init 28 = .ok (.newarray .int, 2) := by decide +kernel
theorem dX10_init_30 : decode cX10_init 30 = .ok (.putfield 20, 3) := by decide +kernel
theorem dX10_init_33 : decode cX10_init 33 = .ok (.aload_n 0, 1) := by decide +kernel
theorem dX10_init_34 : decode cX10_init 34 = .ok (.iconst 1, 1) := by decide +kernel
theorem dX10_init_35 : decode cX10_init 35 = .ok (.putfield 23, 3) := by decide +kernel
theorem dX10_init_38 : decode cX10_init 38 = .ok (.aload_n 0, 1) := by decide +kernel
theorem dX10_init_39 : decode cX10_init 39 = .ok (.iconst (-1), 1) := by decide +kernel
theorem dX10_init_40 : decode cX10_init 40 = .ok (.putfield 27, 3) := by decide +kernel
theorem dX10_init_43 : decode cX10_init 43 = .ok (.aload_n 0, 1) := by decide +kernel
theorem dX10_init_44 : decode cX10_init 44 = .ok (.bipush 7, 2) := by decide +kernel
theorem dX10_init_46 : decode cX10_init 46 = .ok (.newarray .int, 2) := by decide +kernel
theorem dX10_init_48 : decode cX10_init 48 = .ok (.putfield 30, 3) := by decide +kernel
theorem dX10_init_51 : decode cX10_init 51 = .ok (.aload_n 0, 1) := by decide +kernel
theorem dX10_init_52 : decode cX10_init 52 = .ok (.ldc 33, 2) := by decide +kernel
theorem dX10_init_54 : decode cX10_init 54 = .ok (.newarray .int, 2) := by decide +kernel
theorem dX10_init_56 : decode cX10_init 56 = .ok (.putfield 34, 3) := by decide +kernel
theorem dX10_init_59 : decode cX10_init 59 = .ok (.aload_n 0, 1) := by decide +kernel
theorem dX10_init_60 : decode cX10_init 60 = .ok (.sipush 16384, 3) := by decide +kernel
theorem dX10_init_63 : decode cX10_init 63 = .ok (.newarray .int, 2) := by decide +kernel
theorem dX10_init_65 : decode cX10_init 65 = .ok (.putfield 37, 3) := by decide +kernel
theorem dX10_init_68 : decode cX10_init 68 = .ok (.aload_n 0, 1) := by decide +kernel
theorem dX10_init_69 : decode cX10_init 69 = .ok (.sipush 16384, 3) := by decide +kernel
theorem dX10_init_72 : decode cX10_init 72 = .ok (.newarray .int, 2) := by decide +kernel
theorem dX10_init_74 : decode cX10_init 74 = .ok (.putfield 40, 3) := by decide +kernel
theorem dX10_init_77 : decode cX10_init 77 = .ok (.aload_n 0, 1) := by decide +kernel
theorem dX10_init_78 : decode cX10_init 78 = .ok (.sipush 4096, 3) := by decide +kernel
theorem dX10_init_81 : decode cX10_init 81 = .ok (.newarray .int, 2) := by decide +kernel
theorem dX10_init_83 : decode cX10_init 83 = .ok (.putfield 43, 3) := by decide +kernel
theorem dX10_init_86 : decode cX10_init 86 = .ok (.aload_n 0, 1) := by decide +kernel
theorem dX10_init_87 : decode cX10_init 87 = .ok (.sipush 4096, 3) := by decide +kernel
theorem dX10_init_90 : decode cX10_init 90 = .ok (.newarray .int, 2) := by decide +kernel
theorem dX10_init_92 : decode cX10_init 92 = .ok (.putfield 46, 3) := by decide +kernel
theorem dX10_init_95 : decode cX10_init 95 = .ok (.aload_n 0, 1) := by decide +kernel
theorem dX10_init_96 : decode cX10_init 96 = .ok (.sipush 16384, 3) := by decide +kernel
theorem dX10_init_99 : decode cX10_init 99 = .ok (.newarray .int, 2) := by decide +kernel
theorem dX10_init_101 : decode cX10_init 101 = .ok (.putfield 49, 3) := by decide +kernel
theorem dX10_init_104 : decode cX10_init 104 = .ok (.aload_n 0, 1) := by decide +kernel
theorem dX10_init_105 : decode cX10_init 105 = .ok (.sipush 260, 3) := by decide +kernel
theorem dX10_init_108 : decode cX10_init 108 = .ok (.newarray .int, 2) := by decide +kernel
theorem dX10_init_110 : decode cX10_init 110 = .ok (.putfield 52, 3) := by decide +kernel
theorem dX10_init_113 : decode cX10_init 113 = .ok (.aload_n 0, 1) := by decide +kernel
theorem dX10_init_114 : decode cX10_init 114 = .ok (.iconst 5, 1) := by decide +kernel
theorem dX10_init_115 : decode cX10_init 115 = .ok (.newarray .int, 2) := by decide +kernel
theorem dX10_init_117 : decode cX10_init 117 = .ok (.putfield 55, 3) := by decide +kernel
theorem dX10_init_120 : decode cX10_init 120 = .ok (.aload_n 0, 1) := by decide +kernel
theorem dX10_init_121 : decode cX10_init 121 = .ok (.iconst 5, 1) := by decide +kernel
theorem dX10_init_122 : decode cX10_init 122 = .ok (.newarray .int, 2) := by decide +kernel
theorem dX10_init_124 : decode cX10_init 124 = .ok (.putfield 58, 3) := by decide +kernel
theorem dX10_init_127 : decode cX10_init 127 = .ok (.aload_n 0, 1) := by decide +kernel
theorem dX10_init_128 : decode cX10_init 128 = .ok (.ldc 61, 2) := by decide +kernel
theorem dX10_init_130 : decode cX10_init 130 = .ok (.newarray .double, 2) := by decide +kernel
theorem dX10_init_132 : decode cX10_init 132 = .ok (.putfield 62, 3) := by decide +kernel
theorem dX10_init_135 : decode cX10_init 135 = .ok (.aload_n 0, 1) := by decide +kernel
theorem dX10_init_136 : decode cX10_init 136 = .ok (.bipush 25, 2) := by decide +kernel
theorem dX10_init_138 : decode cX10_init 138 = .ok (.putfield 66, 3) := by decide +kernel
theorem dX10_init_141 : decode cX10_init 141 = .ok (.aload_n 0, 1) := by decide +kernel
theorem dX10_init_142 : decode cX10_init 142 = .ok (.sipush 729, 3) := by decide +kernel
theorem dX10_init_145 : decode cX10_init 145 = .ok (.newarray .long, 2) := by decide +kernel
theorem dX10_init_147 : decode cX10_init 147 = .ok (.putfield 69, 3) := by decide +kernel
theorem dX10_init_150 : decode cX10_init 150 = .ok (.aload_n 0, 1) := by decide +kernel
theorem dX10_init_151 : decode cX10_init 151 = .ok (.sipush 2048, 3) := by decide +kernel
theorem dX10_init_154 : decode cX10_init 154 = .ok (.newarray .int, 2) := by decide +kernel
theorem dX10_init_156 : decode cX10_init 156 = .ok (.putfield 73, 3) := by decide +kernel
theorem dX10_init_159 : decode cX10_init 159 = .ok (.aload_n 0, 1) := by decide +kernel
theorem dX10_init_160 : decode cX10_init 160 = .ok (.sipush 2048, 3) := by decide +kernel
theorem dX10_init_163 : decode cX10_init 163 = .ok (.newarray .int, 2) := by decide +kernel
theorem dX10_init_165 : decode cX10_init 165 = .ok (.putfield 76, 3) := by decide +kernel
theorem dX10_init_168 : decode cX10_init 168 = .ok (.aload_n 0, 1) := by decide +kernel
theorem dX10_init_169 : decode cX10_init 169 = .ok (.bipush 7, 2) := by decide +kernel
theorem dX10_init_171 : decode cX10_init 171 = .ok (.newarray .long, 2) := by decide +kernel
theorem dX10_init_173 : decode cX10_init 173 = .ok (.putfield 79, 3) := by decide +kernel
theorem dX10_init_176 : decode cX10_init 176 = .ok (.aload_n 0, 1) := by decide +kernel
theorem dX10_init_177 : decode cX10_init 177 = .ok (.bipush 6, 2) := by decide +kernel
theorem dX10_init_179 : decode cX10_init 179 = .ok (.newarray .int, 2) := by decide +kernel
theorem dX10_init_181 : decode cX10_init 181 = .ok (.putfield 82, 3) := by decide +kernel
theorem dX10_init_184 : decode cX10_init 184 = .ok (.aload_n 0, 1) := by decide +kernel
theorem dX10_init_185 : decode cX10_init 185 = .ok (.bipush 6, 2) := by decide +kernel
theorem dX10_init_187 : decode cX10_init 187 = .ok (.newarray .long, 2) := by decide +kernel
theorem dX10_init_189 : decode cX10_init 189 = .ok (.putfield 85, 3) := by decide +kernel
theorem dX10_init_192 : decode cX10_init 192 = .ok (.return_, 1) := by decide +kernel
theorem dX10_thrown_0 : decode cX10_thrown 0 = .ok (.aload_n 0, 1) := by decide +kernel
theorem dX10_thrown_1 : decode cX10_thrown 1 = .ok (.getfield 88, 3) := by decide +kernel
theorem dX10_thrown_4 : decode cX10_thrown 4 = .ok (.ireturn, 1) := by decide +kernel
theorem dX10_fails_0 : decode cX10_fails 0 = .ok (.aload_n 0, 1) := by decide +kernel
theorem dX10_fails_1 : decode cX10_fails 1 = .ok (.iload_n 1, 1) := by decide +kernel
theorem dX10_fails_2 : decode cX10_fails 2 = .ok (.putfield 88, 3) := by decide +kernel
theorem dX10_fails_5 : decode cX10_fails 5 = .ok (.iload_n 1, 1) := by decide +kernel
theorem dX10_fails_6 : decode cX10_fails 6 = .ok (.ifCond .le 7, 3) := by decide +kernel
theorem dX10_fails_9 : decode cX10_fails 9 = .ok (.iconst 1, 1) := by decide +kernel
theorem dX10_fails_10 : decode cX10_fails 10 = .ok (.goto 4, 3) := by decide +kernel
theorem dX10_fails_13 : decode cX10_fails 13 = .ok (.iconst 0, 1) := by decide +kernel
theorem dX10_fails_14 : decode cX10_fails 14 = .ok (.ireturn, 1) := by decide +kernel
theorem dX10_in_0 : decode cX10_in 0 = .ok (.iload_n 0, 1) := by decide +kernel
theorem dX10_in_1 : decode cX10_in 1 = .ok (.iload_n 1, 1) := by decide +kernel
theorem dX10_in_2 : decode cX10_in 2 = .ok (.if_icmp .lt 12, 3) := by decide +kernel
theorem dX10_in_5 : decode cX10_in 5 = .ok (.iload_n 0, 1) := by decide +kernel
theorem dX10_in_6 : decode cX10_in 6 = .ok (.iload_n 2, 1) := by decide +kernel
theorem dX10_in_7 : decode cX10_in 7 = .ok (.if_icmp .gt 7, 3) := by decide +kernel
theorem dX10_in_10 : decode cX10_in 10 = .ok (.iconst 1, 1) := by decide +kernel
theorem dX10_in_11 : decode cX10_in 11 = .ok (.goto 4, 3) := by decide +kernel
theorem dX10_in_14 : decode cX10_in 14 = .ok (.iconst 0, 1) := by decide +kernel
theorem dX10_in_15 : decode cX10_in 15 = .ok (.ireturn, 1) := by decide +kernel
theorem dX10_on_0 : decode cX10_on 0 = .ok (.aload_n 0, 1) := by decide +kernel
theorem dX10_on_1 : decode cX10_on 1 = .ok (.iload_n 1, 1) := by decide +kernel
theorem dX10_on_2 : decode cX10_on 2 = .ok (.bipush 26, 2) := by decide +kernel
theorem dX10_on_4 : decode cX10_on 4 = .ok (.iload_n 2, 1) := by decide +kernel
theorem dX10_on_5 : decode cX10_on 5 = .ok (.imul, 1) := by decide +kernel
theorem dX10_on_6 : decode cX10_on 6 = .ok (.iadd, 1) := by decide +kernel
theorem dX10_on_7 : decode cX10_on 7 = .ok (.iload_n 3, 1) := by decide +kernel
theorem dX10_on_8 : decode cX10_on 8 = .ok (.iadd, 1) := by decide +kernel
theorem dX10_on_9 : decode cX10_on 9 = .ok (.iaload, 1) := by decide +kernel
theorem dX10_on_10 : decode cX10_on 10 = .ok (.ireturn, 1) := by decide +kernel
theorem dX10_against_0 : decode cX10_against 0 = .ok (.aload_n 0, 1) := by decide +kernel
theorem dX10_against_1 : decode cX10_against 1 = .ok (.iload_n 1, 1) := by decide +kernel
theorem dX10_against_2 : decode cX10_against 2 = .ok (.bipush 26, 2) := by decide +kernel
theorem dX10_against_4 : decode cX10_against 4 = .ok (.iconst 1, 1) := by decide +kernel
theorem dX10_against_5 : decode cX10_against 5 = .ok (.iload_n 2, 1) := by decide +kernel
theorem dX10_against_6 : decode cX10_against 6 = .ok (.isub, 1) := by decide +kernel
theorem dX10_against_7 : decode cX10_against 7 = .ok (.imul, 1) := by decide +kernel
theorem dX10_against_8 : decode cX10_against 8 = .ok (.iadd, 1) := by decide +kernel
theorem dX10_against_9 : decode cX10_against 9 = .ok (.bipush 25, 2) := by decide +kernel
theorem dX10_against_11 : decode cX10_against 11 = .ok (.iadd, 1) := by decide +kernel
theorem dX10_against_12 : decode cX10_against 12 = .ok (.iload_n 3, 1) := by decide +kernel
theorem dX10_against_13 : decode cX10_against 13 = .ok (.isub, 1) := by decide +kernel
theorem dX10_against_14 : decode cX10_against 14 = .ok (.iaload, 1) := by decide +kernel
theorem dX10_against_15 : decode cX10_against 15 = .ok (.ireturn, 1) := by decide +kernel
set_option maxRecDepth 20000 in
theorem ggX10_canMove_X10_in : GoodIn wsX10_canMove wsX10_in := goodIn_r _ [4] (by decide +kernel) (by decide +kernel)
set_option maxRecDepth 20000 in
theorem gX10_canMove_X10_in : GoodIn wsX10_canMove (va_wsS RX10 91 yX10_in wsX10_in) := goodIn_app (goodIn_of _ (by decide +kernel)) ggX10_canMove_X10_in
set_option maxRecDepth 20000 in
theorem ggX10_canMove_X10_on : GoodIn wsX10_canMove wsX10_on := goodIn_r _ [7] (by decide +kernel) (by decide +kernel)
set_option maxRecDepth 20000 in
theorem gX10_canMove_X10_on : GoodIn wsX10_canMove (va_wsS RX10 95 yX10_on wsX10_on) := goodIn_app (goodIn_of _ (by decide +kernel)) ggX10_canMove_X10_on
set_option maxRecDepth 20000 in
theorem ggX10_canMove_X10_against : GoodIn wsX10_canMove wsX10_against := goodIn_r _ [10] (by decide +kernel) (by decide +kernel)
set_option maxRecDepth 20000 in
theorem gX10_canMove_X10_against : GoodIn wsX10_canMove (va_wsS RX10 99 yX10_against wsX10_against) := goodIn_app (goodIn_of _ (by decide +kernel)) ggX10_canMove_X10_against
theorem dX10_canMove_0 : decode cX10_canMove 0 = .ok (.iload_n 3, 1) := by decide +kernel
theorem dX10_canMove_1 : decode cX10_canMove 1 = .ok (.iconst 1, 1) := by decide +kernel
theorem dX10_canMove_2 : decode cX10_canMove 2 = .ok (.bipush 25, 2) := by decide +kernel
theorem dX10_canMove_4 : decode cX10_canMove 4 = .ok (.invokestatic 91, 3) := by decide +kernel
theorem dX10_canMove_7 : decode cX10_canMove 7 = .ok (.ifCond .eq 30, 3) := by decide +kernel
theorem dX10_canMove_10 : decode cX10_canMove 10 = .ok (.aload_n 0, 1) := by decide +kernel
theorem dX10_canMove_11 : decode cX10_canMove 11 = .ok (.iload_n 1, 1) := by decide +kernel
theorem dX10_canMove_12 : decode cX10_canMove 12 = .ok (.iload_n 2, 1) := by decide +kernel
theorem dX10_canMove_13 : decode cX10_canMove 13 = .ok (.iload_n 3, 1) := by decide +kernel
theorem dX10_canMove_14 : decode cX10_canMove 14 = .ok (.invokestatic 95, 3) := by decide +kernel
theorem dX10_canMove_17 : decode cX10_canMove 17 = .ok (.ifCond .eq 20, 3) := by decide +kernel
theorem dX10_canMove_20 : decode cX10_canMove 20 = .ok (.iload_n 3, 1) := by decide +kernel
theorem dX10_canMove_21 : decode cX10_canMove 21 = .ok (.bipush 25, 2) := by decide +kernel
theorem dX10_canMove_23 : decode cX10_canMove 23 = .ok (.if_icmp .eq 16, 3) := by decide +kernel
theorem dX10_canMove_26 : decode cX10_canMove 26 = .ok (.aload_n 0, 1) := by decide +kernel
theorem dX10_canMove_27 : decode cX10_canMove 27 = .ok (.iload_n 1, 1) := by decide +kernel
theorem dX10_canMove_28 : decode cX10_canMove 28 = .ok (.iload_n 2, 1) := by decide +kernel
theorem dX10_canMove_29 : decode cX10_canMove 29 = .ok (.bipush 25, 2) := by decide +kernel
theorem dX10_canMove_31 : decode cX10_canMove 31 = .ok (.invokestatic 95, 3) := by decide +kernel
theorem dX10_canMove_34 : decode cX10_canMove 34 = .ok (.ifCond .le 5, 3) := by decide +kernel
theorem dX10_canMove_37 : decode cX10_canMove 37 = .ok (.iconst 0, 1) := by decide +kernel
theorem dX10_canMove_38 : decode cX10_canMove 38 = .ok (.ireturn, 1) := by decide +kernel
theorem dX10_canMove_39 : decode cX10_canMove 39 = .ok (.iload_n 3, 1) := by decide +kernel
theorem dX10_canMove_40 : decode cX10_canMove 40 = .ok (.iload 4, 2) := by decide +kernel
theorem dX10_canMove_42 : decode cX10_canMove 42 = .ok (.if_icmp .le 23, 3) := by decide +kernel
theorem dX10_canMove_45 : decode cX10_canMove 45 = .ok (.aload_n 0, 1) := by decide +kernel
theorem dX10_canMove_46 : decode cX10_canMove 46 = .ok (.iload_n 1, 1) := by decide +kernel
theorem dX10_canMove_47 : decode cX10_canMove 47 = .ok (.iload_n 2, 1) := by decide +kernel
theorem dX10_canMove_48 : decode cX10_canMove 48 = .ok (.iload_n 3, 1) := by decide +kernel
theorem dX10_canMove_49 : decode cX10_canMove 49 = .ok (.iload 4, 2) := by decide +kernel
theorem dX10_canMove_51 : decode cX10_canMove 51 = .ok (.isub, 1) := by decide +kernel
theorem dX10_canMove_52 : decode cX10_canMove 52 = .ok (.invokestatic 99, 3) := by decide +kernel
theorem dX10_canMove_55 : decode cX10_canMove 55 = .ok (.iconst 2, 1) := by decide +kernel
theorem dX10_canMove_56 : decode cX10_canMove 56 = .ok (.if_icmp .ge 7, 3) := by decide +kernel
theorem dX10_canMove_59 : decode cX10_canMove 59 = .ok (.iconst 1, 1) := by decide +kernel
theorem dX10_canMove_60 : decode cX10_canMove 60 = .ok (.goto 4, 3) := by decide +kernel
theorem dX10_canMove_63 : decode cX10_canMove 63 = .ok (.iconst 0, 1) := by decide +kernel
theorem dX10_canMove_64 : decode cX10_canMove 64 = .ok (.ireturn, 1) := by decide +kernel
theorem dX10_canMove_65 : decode cX10_canMove 65 = .ok (.bipush 25, 2) := by decide +kernel
theorem dX10_canMove_67 : decode cX10_canMove 67 = .ok (.istore 5, 2) := by decide +kernel
theorem dX10_canMove_69 : decode cX10_canMove 69 = .ok (.aload_n 0, 1) := by decide +kernel
theorem dX10_canMove_70 : decode cX10_canMove 70 = .ok (.iload_n 1, 1) := by decide +kernel
theorem dX10_canMove_71 : decode cX10_canMove 71 = .ok (.iload_n 2, 1) := by decide +kernel
theorem dX10_canMove_72 : decode cX10_canMove 72 = .ok (.iload 5, 2) := by decide +kernel
theorem dX10_canMove_74 : decode cX10_canMove 74 = .ok (.invokestatic 95, 3) := by decide +kernel
theorem dX10_canMove_77 : decode cX10_canMove 77 = .ok (.ifCond .ne 9, 3) := by decide +kernel
theorem dX10_canMove_80 : decode cX10_canMove 80 = .ok (.iinc 5 (-1), 3) := by decide +kernel
theorem dX10_canMove_83 : decode cX10_canMove 83 = .ok (.goto (-14), 3) := by decide +kernel
theorem dX10_canMove_86 : decode cX10_canMove 86 = .ok (.iload 5, 2) := by decide +kernel
theorem dX10_canMove_88 : decode cX10_canMove 88 = .ok (.bipush 6, 2) := by decide +kernel
theorem dX10_canMove_90 : decode cX10_canMove 90 = .ok (.if_icmp .gt 19, 3) := by decide +kernel
theorem dX10_canMove_93 : decode cX10_canMove 93 = .ok (.iload_n 3, 1) := by decide +kernel
theorem dX10_canMove_94 : decode cX10_canMove 94 = .ok (.iload 4, 2) := by decide +kernel
theorem dX10_canMove_96 : decode cX10_canMove 96 = .ok (.if_icmp .eq 9, 3) := by decide +kernel
theorem dX10_canMove_99 : decode cX10_canMove 99 = .ok (.iload 5, 2) := by decide +kernel
theorem dX10_canMove_101 : decode cX10_canMove 101 = .ok (.iload_n 3, 1) := by decide +kernel
theorem dX10_canMove_102 : decode cX10_canMove 102 = .ok (.if_icmp .ne 7, 3) := by decide +kernel
theorem dX10_canMove_105 : decode cX10_canMove 105 = .ok (.iconst 1, 1) := by decide +kernel
theorem dX10_canMove_106 : decode cX10_canMove 106 = .ok (.goto 4, 3) := by decide +kernel
theorem dX10_canMove_109 : decode cX10_canMove 109 = .ok (.iconst 0, 1) := by decide +kernel
theorem dX10_canMove_110 : decode cX10_canMove 110 = .ok (.ireturn, 1) := by decide +kernel
set_option maxRecDepth 20000 in
theorem ggX10_hits_X10_against : GoodIn wsX10_hits wsX10_against := goodIn_r _ [4] (by decide +kernel) (by decide +kernel)
set_option maxRecDepth 20000 in
theorem gX10_hits_X10_against : GoodIn wsX10_hits (va_wsS RX10 99 yX10_against wsX10_against) := goodIn_app (goodIn_of _ (by decide +kernel)) ggX10_hits_X10_against
theorem dX10_hits_0 : decode cX10_hits 0 = .ok (.iload_n 3, 1) := by decide +kernel
theorem dX10_hits_1 : decode cX10_hits 1 = .ok (.iload 4, 2) := by decide +kernel
theorem dX10_hits_3 : decode cX10_hits 3 = .ok (.if_icmp .le 21, 3) := by decide +kernel
theorem dX10_hits_6 : decode cX10_hits 6 = .ok (.aload_n 0, 1) := by decide +kernel
theorem dX10_hits_7 : decode cX10_hits 7 = .ok (.iload_n 1, 1) := by decide +kernel
theorem dX10_hits_8 : decode cX10_hits 8 = .ok (.iload_n 2, 1) := by decide +kernel
theorem dX10_hits_9 : decode cX10_hits 9 = .ok (.iload_n 3, 1) := by decide +kernel
theorem dX10_hits_10 : decode cX10_hits 10 = .ok (.iload 4, 2) := by decide +kernel
theorem dX10_hits_12 : decode cX10_hits 12 = .ok (.isub, 1) := by decide +kernel
theorem dX10_hits_13 : decode cX10_hits 13 = .ok (.invokestatic 99, 3) := by decide +kernel
theorem dX10_hits_16 : decode cX10_hits 16 = .ok (.iconst 1, 1) := by decide +kernel
theorem dX10_hits_17 : decode cX10_hits 17 = .ok (.if_icmp .ne 7, 3) := by decide +kernel
theorem dX10_hits_20 : decode cX10_hits 20 = .ok (.iconst 1, 1) := by decide +kernel
theorem dX10_hits_21 : decode cX10_hits 21 = .ok (.goto 4, 3) := by decide +kernel
theorem dX10_hits_24 : decode cX10_hits 24 = .ok (.iconst 0, 1) := by decide +kernel
theorem dX10_hits_25 : decode cX10_hits 25 = .ok (.ireturn, 1) := by decide +kernel
set_option maxRecDepth 20000 in
theorem ggX10_move_X10_hits : GoodIn wsX10_move wsX10_hits := goodIn_r _ [4, 5, 6, 3, 7] (by decide +kernel) (by decide +kernel)
set_option maxRecDepth 20000 in
theorem gX10_move_X10_hits : GoodIn wsX10_move (va_wsS RX10 102 yX10_hits wsX10_hits) := goodIn_app (goodIn_of _ (by decide +kernel)) ggX10_move_X10_hits
theorem dX10_move_0 : decode cX10_move 0 = .ok (.aload_n 0, 1) := by decide +kernel
theorem dX10_move_1 : decode cX10_move 1 = .ok (.iload_n 1, 1) := by decide +kernel
theorem dX10_move_2 : decode cX10_move 2 = .ok (.iload_n 2, 1) := by decide +kernel
theorem dX10_move_3 : decode cX10_move 3 = .ok (.iload_n 3, 1) := by decide +kernel
theorem dX10_move_4 : decode cX10_move 4 = .ok (.iload 4, 2) := by decide +kernel
theorem dX10_move_6 : decode cX10_move 6 = .ok (.invokestatic 102, 3) := by decide +kernel
theorem dX10_move_9 : decode cX10_move 9 = .ok (.istore 5, 2) := by decide +kernel
theorem dX10_move_11 : decode cX10_move 11 = .ok (.iload_n 3, 1) := by decide +kernel
theorem dX10_move_12 : decode cX10_move 12 = .ok (.iload 4, 2) := by decide +kernel
theorem dX10_move_14 : decode cX10_move 14 = .ok (.if_icmp .le 10, 3) := by decide +kernel
theorem dX10_move_17 : decode cX10_move 17 = .ok (.iload_n 3, 1) := by decide +kernel
theorem dX10_move_18 : decode cX10_move 18 = .ok (.iload 4, 2) := by decide +kernel
theorem dX10_move_20 : decode cX10_move 20 = .ok (.isub, 1) := by decide +kernel
theorem dX10_move_21 : decode cX10_move 21 = .ok (.goto 4, 3) := by decide +kernel
theorem dX10_move_24 : decode cX10_move 24 = .ok (.iconst 0, 1) := by decide +kernel
theorem dX10_move_25 : decode cX10_move 25 = .ok (.istore 6, 2) := by decide +kernel
theorem dX10_move_27 : decode cX10_move 27 = .ok (.aload_n 0, 1) := by decide +kernel
theorem dX10_move_28 : decode cX10_move 28 = .ok (.iload_n 1, 1) := by decide +kernel
theorem dX10_move_29 : decode cX10_move 29 = .ok (.bipush 26, 2) := by decide +kernel
theorem dX10_move_31 : decode cX10_move 31 = .ok (.iload_n 2, 1) := by decide +kernel
theorem dX10_move_32 : decode cX10_move 32 = .ok (.imul, 1) := by decide +kernel
theorem dX10_move_33 : decode cX10_move 33 = .ok (.iadd, 1) := by decide +kernel
theorem dX10_move_34 : decode cX10_move 34 = .ok (.iload_n 3, 1) := by decide +kernel
theorem dX10_move_35 : decode cX10_move 35 = .ok (.iadd, 1) := by decide +kernel
theorem dX10_move_36 : decode cX10_move 36 = .ok (.dup2, 1) := by decide +kernel
theorem dX10_move_37 : decode cX10_move 37 = .ok (.iaload, 1) := by decide +kernel
theorem dX10_move_38 : decode cX10_move 38 = .ok (.iconst 1, 1) := by decide +kernel
theorem dX10_move_39 : decode cX10_move 39 = .ok (.isub, 1) := by decide +kernel
theorem dX10_move_40 : decode cX10_move 40 = .ok (.iastore, 1) := by decide +kernel
theorem dX10_move_41 : decode cX10_move 41 = .ok (.aload_n 0, 1) := by decide +kernel
theorem dX10_move_42 : decode cX10_move 42 = .ok (.iload_n 1, 1) := by decide +kernel
theorem dX10_move_43 : decode cX10_move 43 = .ok (.bipush 26, 2) := by decide +kernel
theorem dX10_move_45 : decode cX10_move 45 = .ok (.iload_n 2, 1) := by decide +kernel
theorem dX10_move_46 : decode cX10_move 46 = .ok (.imul, 1) := by decide +kernel
theorem dX10_move_47 : decode cX10_move 47 = .ok (.iadd, 1) := by decide +kernel
theorem dX10_move_48 : decode cX10_move 48 = .ok (.iload 6, 2) := by decide +kernel
theorem dX10_move_50 : decode cX10_move 50 = .ok (.iadd, 1) := by decide +kernel
theorem dX10_move_51 : decode cX10_move 51 = .ok (.dup2, 1) := by decide +kernel
theorem dX10_move_52 : decode cX10_move 52 = .ok (.iaload, 1) := by decide +kernel
theorem dX10_move_53 : decode cX10_move 53 = .ok (.iconst 1, 1) := by decide +kernel
theorem dX10_move_54 : decode cX10_move 54 = .ok (.iadd, 1) := by decide +kernel
theorem dX10_move_55 : decode cX10_move 55 = .ok (.iastore, 1) := by decide +kernel
theorem dX10_move_56 : decode cX10_move 56 = .ok (.iload 5, 2) := by decide +kernel
theorem dX10_move_58 : decode cX10_move 58 = .ok (.ifCond .eq 40, 3) := by decide +kernel
theorem dX10_move_61 : decode cX10_move 61 = .ok (.aload_n 0, 1) := by decide +kernel
theorem dX10_move_62 : decode cX10_move 62 = .ok (.iload_n 1, 1) := by decide +kernel
theorem dX10_move_63 : decode cX10_move 63 = .ok (.bipush 26, 2) := by decide +kernel
theorem dX10_move_65 : decode cX10_move 65 = .ok (.iconst 1, 1) := by decide +kernel
theorem dX10_move_66 : decode cX10_move 66 = .ok (.iload_n 2, 1) := by decide +kernel
theorem dX10_move_67 : decode cX10_move 67 = .ok (.isub, 1) := by decide +kernel
theorem dX10_move_68 : decode cX10_move 68 = .ok (.imul, 1) := by decide +kernel
theorem dX10_move_69 : decode cX10_move 69 = .ok (.iadd, 1) := by decide +kernel
theorem dX10_move_70 : decode cX10_move 70 = .ok (.bipush 25, 2) := by decide +kernel
theorem dX10_move_72 : decode cX10_move 72 = .ok (.iadd, 1) := by decide +kernel
theorem dX10_move_73 : decode cX10_move 73 = .ok (.iload 6, 2) := by decide +kernel
theorem dX10_move_75 : decode cX10_move 75 = .ok (.isub, 1) := by decide +kernel
theorem dX10_move_76 : decode cX10_move 76 = .ok (.dup2, 1) := by decide +kernel
theorem dX10_move_77 : decode cX10_move 77 = .ok (.iaload, 1) := by decide +kernel
theorem dX10_move_78 : decode cX10_move 78 = .ok (.iconst 1, 1) := by decide +kernel
theorem dX10_move_79 : decode cX10_move 79 = .ok (.isub, 1) := by decide +kernel
theorem dX10_move_80 : decode cX10_move 80 = .ok (.iastore, 1) := by decide +kernel
theorem dX10_move_81 : decode cX10_move 81 = .ok (.aload_n 0, 1) := by decide +kernel
theorem dX10_move_82 : decode cX10_move 82 = .ok (.iload_n 1, 1) := by decide +kernel
theorem dX10_move_83 : decode cX10_move 83 = .ok (.bipush 26, 2) := by decide +kernel
theorem dX10_move_85 : decode cX10_move 85 = .ok (.iconst 1, 1) := by decide +kernel
theorem dX10_move_86 : decode cX10_move 86 = .ok (.iload_n 2, 1) := by decide +kernel
theorem dX10_move_87 : decode cX10_move 87 = .ok (.isub, 1) := by decide +kernel
theorem dX10_move_88 : decode cX10_move 88 = .ok (.imul, 1) := by decide +kernel
theorem dX10_move_89 : decode cX10_move 89 = .ok (.iadd, 1) := by decide +kernel
theorem dX10_move_90 : decode cX10_move 90 = .ok (.bipush 25, 2) := by decide +kernel
theorem dX10_move_92 : decode cX10_move 92 = .ok (.iadd, 1) := by decide +kernel
theorem dX10_move_93 : decode cX10_move 93 = .ok (.dup2, 1) := by decide +kernel
theorem dX10_move_94 : decode cX10_move 94 = .ok (.iaload, 1) := by decide +kernel
theorem dX10_move_95 : decode cX10_move 95 = .ok (.iconst 1, 1) := by decide +kernel
theorem dX10_move_96 : decode cX10_move 96 = .ok (.iadd, 1) := by decide +kernel
theorem dX10_move_97 : decode cX10_move 97 = .ok (.iastore, 1) := by decide +kernel
