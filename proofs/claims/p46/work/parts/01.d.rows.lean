theorem dX7_moveUp_0 : decode cX7_moveUp 0 = .ok (.aload_n 0, 1) := by decide +kernel
theorem dX7_moveUp_1 : decode cX7_moveUp 1 = .ok (.iload_n 1, 1) := by decide +kernel
theorem dX7_moveUp_2 : decode cX7_moveUp 2 = .ok (.invokevirtual 30, 3) := by decide +kernel
theorem dX7_moveUp_5 : decode cX7_moveUp 5 = .ok (.istore_n 2, 1) := by decide +kernel
theorem dX7_moveUp_6 : decode cX7_moveUp 6 = .ok (.iload_n 1, 1) := by decide +kernel
theorem dX7_moveUp_7 : decode cX7_moveUp 7 = .ok (.istore_n 3, 1) := by decide +kernel
theorem dX7_moveUp_8 : decode cX7_moveUp 8 = .ok (.iload_n 3, 1) := by decide +kernel
theorem dX7_moveUp_9 : decode cX7_moveUp 9 = .ok (.ifCond .lt 41, 3) := by decide +kernel
theorem dX7_moveUp_12 : decode cX7_moveUp 12 = .ok (.iload_n 3, 1) := by decide +kernel
theorem dX7_moveUp_13 : decode cX7_moveUp 13 = .ok (.iconst 1, 1) := by decide +kernel
theorem dX7_moveUp_14 : decode cX7_moveUp 14 = .ok (.iadd, 1) := by decide +kernel
theorem dX7_moveUp_15 : decode cX7_moveUp 15 = .ok (.aload_n 0, 1) := by decide +kernel
theorem dX7_moveUp_16 : decode cX7_moveUp 16 = .ok (.getfield 17, 3) := by decide +kernel
theorem dX7_moveUp_19 : decode cX7_moveUp 19 = .ok (.if_icmp .ge 31, 3) := by decide +kernel
theorem dX7_moveUp_22 : decode cX7_moveUp 22 = .ok (.iload_n 3, 1) := by decide +kernel
theorem dX7_moveUp_23 : decode cX7_moveUp 23 = .ok (.iconst 1, 1) := by decide +kernel
theorem dX7_moveUp_24 : decode cX7_moveUp 24 = .ok (.iadd, 1) := by decide +kernel
theorem dX7_moveUp_25 : decode cX7_moveUp 25 = .ok (.bipush 6, 2) := by decide +kernel
theorem dX7_moveUp_27 : decode cX7_moveUp 27 = .ok (.if_icmp .ge 23, 3) := by decide +kernel
theorem dX7_moveUp_30 : decode cX7_moveUp 30 = .ok (.aload_n 0, 1) := by decide +kernel
theorem dX7_moveUp_31 : decode cX7_moveUp 31 = .ok (.getfield 9, 3) := by decide +kernel
theorem dX7_moveUp_34 : decode cX7_moveUp 34 = .ok (.iload_n 3, 1) := by decide +kernel
theorem dX7_moveUp_35 : decode cX7_moveUp 35 = .ok (.aload_n 0, 1) := by decide +kernel
theorem dX7_moveUp_36 : decode cX7_moveUp 36 = .ok (.getfield 9, 3) := by decide +kernel
theorem dX7_moveUp_39 : decode cX7_moveUp 39 = .ok (.iload_n 3, 1) := by decide +kernel
theorem dX7_moveUp_40 : decode cX7_moveUp 40 = .ok (.iconst 1, 1) := by decide +kernel
theorem dX7_moveUp_41 : decode cX7_moveUp 41 = .ok (.iadd, 1) := by decide +kernel
theorem dX7_moveUp_42 : decode cX7_moveUp 42 = .ok (.iaload, 1) := by decide +kernel
theorem dX7_moveUp_43 : decode cX7_moveUp 43 = .ok (.iastore, 1) := by decide +kernel
theorem dX7_moveUp_44 : decode cX7_moveUp 44 = .ok (.iinc 3 1, 3) := by decide +kernel
theorem dX7_moveUp_47 : decode cX7_moveUp 47 = .ok (.goto (-39), 3) := by decide +kernel
theorem dX7_moveUp_50 : decode cX7_moveUp 50 = .ok (.aload_n 0, 1) := by decide +kernel
theorem dX7_moveUp_51 : decode cX7_moveUp 51 = .ok (.getfield 17, 3) := by decide +kernel
theorem dX7_moveUp_54 : decode cX7_moveUp 54 = .ok (.iconst 1, 1) := by decide +kernel
theorem dX7_moveUp_55 : decode cX7_moveUp 55 = .ok (.if_icmp .lt 24, 3) := by decide +kernel
theorem dX7_moveUp_58 : decode cX7_moveUp 58 = .ok (.aload_n 0, 1) := by decide +kernel
theorem dX7_moveUp_59 : decode cX7_moveUp 59 = .ok (.getfield 17, 3) := by decide +kernel
theorem dX7_moveUp_62 : decode cX7_moveUp 62 = .ok (.bipush 6, 2) := by decide +kernel
theorem dX7_moveUp_64 : decode cX7_moveUp 64 = .ok (.if_icmp .gt 15, 3) := by decide +kernel
theorem dX7_moveUp_67 : decode cX7_moveUp 67 = .ok (.aload_n 0, 1) := by decide +kernel
theorem dX7_moveUp_68 : decode cX7_moveUp 68 = .ok (.getfield 9, 3) := by decide +kernel
theorem dX7_moveUp_71 : decode cX7_moveUp 71 = .ok (.aload_n 0, 1) := by decide +kernel
theorem dX7_moveUp_72 : decode cX7_moveUp 72 = .ok (.getfield 17, 3) := by decide +kernel
theorem dX7_moveUp_75 : decode cX7_moveUp 75 = .ok (.iconst 1, 1) := by decide +kernel
theorem dX7_moveUp_76 : decode cX7_moveUp 76 = .ok (.isub, 1) := by decide +kernel
theorem dX7_moveUp_77 : decode cX7_moveUp 77 = .ok (.iload_n 2, 1) := by decide +kernel
theorem dX7_moveUp_78 : decode cX7_moveUp 78 = .ok (.iastore, 1) := by decide +kernel
theorem dX7_moveUp_79 : decode cX7_moveUp 79 = .ok (.return_, 1) := by decide +kernel
theorem dX8_init_0 : decode cX8_init 0 = .ok (.aload_n 0, 1) := by decide +kernel
theorem dX8_init_1 : decode cX8_init 1 = .ok (.invokespecial 3, 3) := by decide +kernel
theorem dX8_init_4 : decode cX8_init 4 = .ok (.aload_n 0, 1) := by decide +kernel
theorem dX8_init_5 : decode cX8_init 5 = .ok (.bipush 7, 2) := by decide +kernel
theorem dX8_init_7 : decode cX8_init 7 = .ok (.newarray .int, 2) := by decide +kernel
theorem dX8_init_9 : decode cX8_init 9 = .ok (.putfield 9, 3) := by decide +kernel
theorem dX8_init_12 : decode cX8_init 12 = .ok (.aload_n 0, 1) := by decide +kernel
theorem dX8_init_13 : decode cX8_init 13 = .ok (.iconst 0, 1) := by decide +kernel
theorem dX8_init_14 : decode cX8_init 14 = .ok (.putfield 15, 3) := by decide +kernel
theorem dX8_init_17 : decode cX8_init 17 = .ok (.aload_n 0, 1) := by decide +kernel
theorem dX8_init_18 : decode cX8_init 18 = .ok (.iconst 0, 1) := by decide +kernel
theorem dX8_init_19 : decode cX8_init 19 = .ok (.putfield 19, 3) := by decide +kernel
theorem dX8_init_22 : decode cX8_init 22 = .ok (.aload_n 0, 1) := by decide +kernel
theorem dX8_init_23 : decode cX8_init 23 = .ok (.lconst 0, 1) := by decide +kernel
theorem dX8_init_24 : decode cX8_init 24 = .ok (.putfield 22, 3) := by decide +kernel
theorem dX8_init_27 : decode cX8_init 27 = .ok (.return_, 1) := by decide +kernel
set_option maxRecDepth 20000 in
theorem ggX8_countRoll_X8_countFace : GoodIn wsX8_countRoll wsX8_countFace := goodIn_r _ [5, 6, 7, 8, 9, 10] (by decide +kernel) (by decide +kernel)
set_option maxRecDepth 20000 in
theorem gX8_countRoll_X8_countFace : GoodIn wsX8_countRoll (wsV RX8 26 RX8 yX8_countFace wsX8_countFace) := goodIn_app (goodIn_of _ (by decide +kernel)) ggX8_countRoll_X8_countFace
theorem dX8_countRoll_0 : decode cX8_countRoll 0 = .ok (.aload_n 0, 1) := by decide +kernel
theorem dX8_countRoll_1 : decode cX8_countRoll 1 = .ok (.iload_n 1, 1) := by decide +kernel
theorem dX8_countRoll_2 : decode cX8_countRoll 2 = .ok (.invokevirtual 26, 3) := by decide +kernel
theorem dX8_countRoll_5 : decode cX8_countRoll 5 = .ok (.aload_n 0, 1) := by decide +kernel
theorem dX8_countRoll_6 : decode cX8_countRoll 6 = .ok (.iload_n 2, 1) := by decide +kernel
theorem dX8_countRoll_7 : decode cX8_countRoll 7 = .ok (.invokevirtual 26, 3) := by decide +kernel
theorem dX8_countRoll_10 : decode cX8_countRoll 10 = .ok (.return_, 1) := by decide +kernel
theorem dX8_countFace_0 : decode cX8_countFace 0 = .ok (.iload_n 1, 1) := by decide +kernel
theorem dX8_countFace_1 : decode cX8_countFace 1 = .ok (.iconst 1, 1) := by decide +kernel
theorem dX8_countFace_2 : decode cX8_countFace 2 = .ok (.if_icmp .lt 19, 3) := by decide +kernel
theorem dX8_countFace_5 : decode cX8_countFace 5 = .ok (.iload_n 1, 1) := by decide +kernel
theorem dX8_countFace_6 : decode cX8_countFace 6 = .ok (.bipush 6, 2) := by decide +kernel
theorem dX8_countFace_8 : decode cX8_countFace 8 = .ok (.if_icmp .gt 13, 3) := by decide +kernel
theorem dX8_countFace_11 : decode cX8_countFace 11 = .ok (.aload_n 0, 1) := by decide +kernel
theorem dX8_countFace_12 : decode cX8_countFace 12 = .ok (.getfield 9, 3) := by decide +kernel
theorem dX8_countFace_15 : decode cX8_countFace 15 = .ok (.iload_n 1, 1) := by decide +kernel
theorem dX8_countFace_16 : decode cX8_countFace 16 = .ok (.dup2, 1) := by decide +kernel
theorem dX8_countFace_17 : decode cX8_countFace 17 = .ok (.iaload, 1) := by decide +kernel
theorem dX8_countFace_18 : decode cX8_countFace 18 = .ok (.iconst 1, 1) := by decide +kernel
theorem dX8_countFace_19 : decode cX8_countFace 19 = .ok (.iadd, 1) := by decide +kernel
theorem dX8_countFace_20 : decode cX8_countFace 20 = .ok (.iastore, 1) := by decide +kernel
theorem dX8_countFace_21 : decode cX8_countFace 21 = .ok (.return_, 1) := by decide +kernel
theorem dX8_countPlay_0 : decode cX8_countPlay 0 = .ok (.aload_n 0, 1) := by decide +kernel
theorem dX8_countPlay_1 : decode cX8_countPlay 1 = .ok (.dup, 1) := by decide +kernel
theorem dX8_countPlay_2 : decode cX8_countPlay 2 = .ok (.getfield 15, 3) := by decide +kernel
theorem dX8_countPlay_5 : decode cX8_countPlay 5 = .ok (.iconst 1, 1) := by decide +kernel
theorem dX8_countPlay_6 : decode cX8_countPlay 6 = .ok (.iadd, 1) := by decide +kernel
theorem dX8_countPlay_7 : decode cX8_countPlay 7 = .ok (.putfield 15, 3) := by decide +kernel
theorem dX8_countPlay_10 : decode cX8_countPlay 10 = .ok (.aload_n 0, 1) := by decide +kernel
theorem dX8_countPlay_11 : decode cX8_countPlay 11 = .ok (.dup, 1) := by decide +kernel
theorem dX8_countPlay_12 : decode cX8_countPlay 12 = .ok (.getfield 19, 3) := by decide +kernel
theorem dX8_countPlay_15 : decode cX8_countPlay 15 = .ok (.iload_n 1, 1) := by decide +kernel
theorem dX8_countPlay_16 : decode cX8_countPlay 16 = .ok (.ifCond .le 7, 3) := by decide +kernel
theorem dX8_countPlay_19 : decode cX8_countPlay 19 = .ok (.iconst 1, 1) := by decide +kernel
theorem dX8_countPlay_20 : decode cX8_countPlay 20 = .ok (.goto 4, 3) := by decide +kernel
theorem dX8_countPlay_23 : decode cX8_countPlay 23 = .ok (.iconst 0, 1) := by decide +kernel
theorem dX8_countPlay_24 : decode cX8_countPlay 24 = .ok (.iadd, 1) := by decide +kernel
theorem dX8_countPlay_25 : decode cX8_countPlay 25 = .ok (.putfield 19, 3) := by decide +kernel
theorem dX8_countPlay_28 : decode cX8_countPlay 28 = .ok (.aload_n 0, 1) := by decide +kernel
theorem dX8_countPlay_29 : decode cX8_countPlay 29 = .ok (.dup, 1) := by decide +kernel
theorem dX8_countPlay_30 : decode cX8_countPlay 30 = .ok (.getfield 22, 3) := by decide +kernel
theorem dX8_countPlay_33 : decode cX8_countPlay 33 = .ok (.iload_n 2, 1) := by decide +kernel
theorem dX8_countPlay_34 : decode cX8_countPlay 34 = .ok (.i2l, 1) := by decide +kernel
theorem dX8_countPlay_35 : decode cX8_countPlay 35 = .ok (.ladd, 1) := by decide +kernel
theorem dX8_countPlay_36 : decode cX8_countPlay 36 = .ok (.putfield 22, 3) := by decide +kernel
theorem dX8_countPlay_39 : decode cX8_countPlay 39 = .ok (.return_, 1) := by decide +kernel
theorem dX8_unevenness_0 : decode cX8_unevenness 0 = .ok (.lconst 0, 1) := by decide +kernel
theorem dX8_unevenness_1 : decode cX8_unevenness 1 = .ok (.lstore_n 1, 1) := by decide +kernel
theorem dX8_unevenness_2 : decode cX8_unevenness 2 = .ok (.iconst 1, 1) := by decide +kernel
theorem dX8_unevenness_3 : decode cX8_unevenness 3 = .ok (.istore_n 3, 1) := by decide +kernel
theorem dX8_unevenness_4 : decode cX8_unevenness 4 = .ok (.iload_n 3, 1) := by decide +kernel
theorem dX8_unevenness_5 : decode cX8_unevenness 5 = .ok (.bipush 6, 2) := by decide +kernel
theorem dX8_unevenness_7 : decode cX8_unevenness 7 = .ok (.if_icmp .gt 19, 3) := by decide +kernel
theorem dX8_unevenness_10 : decode cX8_unevenness 10 = .ok (.lload_n 1, 1) := by decide +kernel
theorem dX8_unevenness_11 : decode cX8_unevenness 11 = .ok (.aload_n 0, 1) := by decide +kernel
theorem dX8_unevenness_12 : decode cX8_unevenness 12 = .ok (.getfield 9, 3) := by decide +kernel
theorem dX8_unevenness_15 : decode cX8_unevenness 15 = .ok (.iload_n 3, 1) := by decide +kernel
theorem dX8_unevenness_16 : decode cX8_unevenness 16 = .ok (.iaload, 1) := by decide +kernel
theorem dX8_unevenness_17 : decode cX8_unevenness 17 = .ok (.i2l, 1) := by decide +kernel
theorem dX8_unevenness_18 : decode cX8_unevenness 18 = .ok (.ladd, 1) := by decide +kernel
theorem dX8_unevenness_19 : decode cX8_unevenness 19 = .ok (.lstore_n 1, 1) := by decide +kernel
theorem dX8_unevenness_20 : decode cX8_unevenness 20 = .ok (.iinc 3 1, 3) := by decide +kernel
theorem dX8_unevenness_23 : decode cX8_unevenness 23 = .ok (.goto (-19), 3) := by decide +kernel
theorem dX8_unevenness_26 : decode cX8_unevenness 26 = .ok (.lconst 0, 1) := by decide +kernel
theorem dX8_unevenness_27 : decode cX8_unevenness 27 = .ok (.lstore_n 3, 1) := by decide +kernel
theorem dX8_unevenness_28 : decode cX8_unevenness 28 = .ok (.iconst 1, 1) := by decide +kernel
theorem dX8_unevenness_29 : decode cX8_unevenness 29 = .ok (.istore 5, 2) := by decide +kernel
theorem dX8_unevenness_31 : decode cX8_unevenness 31 = .ok (.iload 5, 2) := by decide +kernel
theorem dX8_unevenness_33 : decode cX8_unevenness 33 = .ok (.bipush 6, 2) := by decide +kernel
theorem dX8_unevenness_35 : decode cX8_unevenness 35 = .ok (.if_icmp .gt 33, 3) := by decide +kernel
theorem dX8_unevenness_38 : decode cX8_unevenness 38 = .ok (.ldc2_w 30, 3) := by decide +kernel
theorem dX8_unevenness_41 : decode cX8_unevenness 41 = .ok (.aload_n 0, 1) := by decide +kernel
theorem dX8_unevenness_42 : decode cX8_unevenness 42 = .ok (.getfield 9, 3) := by decide +kernel
theorem dX8_unevenness_45 : decode cX8_unevenness 45 = .ok (.iload 5, 2) := by decide +kernel
theorem dX8_unevenness_47 : decode cX8_unevenness 47 = .ok (.iaload, 1) := by decide +kernel
theorem dX8_unevenness_48 : decode cX8_unevenness 48 = .ok (.i2l, 1) := by decide +kernel
theorem dX8_unevenness_49 : decode cX8_unevenness 49 = .ok (.lmul, 1) := by decide +kernel
theorem dX8_unevenness_50 : decode cX8_unevenness 50 = .ok (.lload_n 1, 1) := by decide +kernel
theorem dX8_unevenness_51 : decode cX8_unevenness 51 = .ok (.lsub, 1) := by decide +kernel
theorem dX8_unevenness_52 : decode cX8_unevenness 52 = .ok (.lstore 6, 2) := by decide +kernel
theorem dX8_unevenness_54 : decode cX8_unevenness 54 = .ok (.lload_n 3, 1) := by decide +kernel
theorem dX8_unevenness_55 : decode cX8_unevenness 55 = .ok (.lload 6, 2) := by decide +kernel
theorem dX8_unevenness_57 : decode cX8_unevenness 57 = .ok (.lload 6, 2) := by decide +kernel
theorem dX8_unevenness_59 : decode cX8_unevenness 59 = .ok (.lmul, 1) := by decide +kernel
theorem dX8_unevenness_60 : decode cX8_unevenness 60 = .ok (.ladd, 1) := by decide +kernel
theorem dX8_unevenness_61 : decode cX8_unevenness 61 = .ok (.lstore_n 3, 1) := by decide +kernel
theorem dX8_unevenness_62 : decode cX8_unevenness 62 = .ok (.iinc 5 1, 3) := by decide +kernel
theorem dX8_unevenness_65 : decode cX8_unevenness 65 = .ok (.goto (-34), 3) := by decide +kernel
theorem dX8_unevenness_68 : decode cX8_unevenness 68 = .ok (.lload_n 3, 1) := by decide +kernel
theorem dX8_unevenness_69 : decode cX8_unevenness 69 = .ok (.lreturn, 1) := by decide +kernel
set_option maxRecDepth 20000 in
theorem ggX9_init_X4_init : GoodIn wsX9_init wsX4_init := goodIn_r _ [49, 50, 2, 3, 51, 52, 53, 54, 55, 56, 57, 126, 127, 128, 129, 130, 131, 132] (by decide +kernel) (by decide +kernel)
set_option maxRecDepth 20000 in
theorem gX9_init_X4_init_n9 : GoodIn wsX9_init (wsX4_init) := ggX9_init_X4_init
set_option maxRecDepth 20000 in
theorem ggX9_init_X7_init : GoodIn wsX9_init wsX7_init := goodIn_r _ [59, 60, 2, 3, 61, 62, 63, 64, 65, 150, 151, 152] (by decide +kernel) (by decide +kernel)
set_option maxRecDepth 20000 in
theorem gX9_init_X7_init_n18 : GoodIn wsX9_init (wsX7_init) := ggX9_init_X7_init
set_option maxRecDepth 20000 in
theorem ggX9_init_X3_init : GoodIn wsX9_init wsX3_init := goodIn_r _ [67, 68, 2, 3, 61, 69, 70, 71, 72, 73, 74, 153, 154, 155, 156, 157, 158] (by decide +kernel) (by decide +kernel)
set_option maxRecDepth 20000 in
theorem gX9_init_X3_init_n25 : GoodIn wsX9_init (wsX3_init) := ggX9_init_X3_init
set_option maxRecDepth 20000 in
theorem ggX9_init_X8_init : GoodIn wsX9_init wsX8_init := goodIn_r _ [76, 77, 2, 3, 61, 78, 79, 80, 81, 159, 160, 161, 162] (by decide +kernel) (by decide +kernel)
set_option maxRecDepth 20000 in
theorem gX9_init_X8_init_n32 : GoodIn wsX9_init (wsX8_init) := ggX9_init_X8_init
set_option maxRecDepth 20000 in
theorem ggX9_init_X6_init : GoodIn wsX9_init wsX6_init := goodIn_r _ [83, 84, 2, 3, 85, 86, 87, 88, 89, 163, 164, 165, 166, 167] (by decide +kernel) (by decide +kernel)
set_option maxRecDepth 20000 in
theorem gX9_init_X6_init_n39 : GoodIn wsX9_init (wsX6_init) := ggX9_init_X6_init
set_option maxRecDepth 20000 in
theorem ggX9_init_X2_init : GoodIn wsX9_init wsX2_init := goodIn_r _ [91, 92, 2, 3, 63, 93, 94, 168, 169] (by decide +kernel) (by decide +kernel)
set_option maxRecDepth 20000 in
theorem gX9_init_X2_init_n46 : GoodIn wsX9_init (wsX2_init) := ggX9_init_X2_init
set_option maxRecDepth 20000 in
theorem ggX9_init_X1_init : GoodIn wsX9_init wsX1_init := goodIn_r _ [97, 98, 2, 3, 99, 100, 101, 102, 103, 104, 105, 170] (by decide +kernel) (by decide +kernel)
set_option maxRecDepth 20000 in
theorem gX9_init_X1_init : GoodIn wsX9_init (wsX1_init) := ggX9_init_X1_init
set_option maxRecDepth 20000 in
theorem ggX9_init_X5_init : GoodIn wsX9_init wsX5_init := goodIn_r _ [108, 109, 2, 3, 110, 38, 39, 111, 61, 112, 113, 63, 114, 115, 116, 117, 118, 119, 120, 121, 122, 123, 124, 125, 181, 171, 172, 173, 174, 175, 176, 177, 178, 179, 180] (by decide +kernel) (by decide +kernel)
set_option maxRecDepth 20000 in
theorem gX9_init_X5_init : GoodIn wsX9_init (wsX5_init) := ggX9_init_X5_init
set_option maxRecDepth 20000 in
theorem ggX9_init_X0_init : GoodIn wsX9_init wsX0_init := goodIn_r _ [123, 124, 2, 3, 61, 125, 181] (by decide +kernel) (by decide +kernel)
set_option maxRecDepth 20000 in
theorem gX9_init_X0_init_n70 : GoodIn wsX9_init (wsX0_init) := ggX9_init_X0_init
theorem dX9_init_0 : decode cX9_init 0 = .ok (.aload_n 0, 1) := by decide +kernel
theorem dX9_init_1 : decode cX9_init 1 = .ok (.invokespecial 1, 3) := by decide +kernel
theorem dX9_init_4 : decode cX9_init 4 = .ok (.aload_n 0, 1) := by decide +kernel
theorem dX9_init_5 : decode cX9_init 5 = .ok (.new 7, 3) := by decide +kernel
theorem dX9_init_8 : decode cX9_init 8 = .ok (.dup, 1) := by decide +kernel
theorem dX9_init_9 : decode cX9_init 9 = .ok (.invokespecial 9, 3) := by decide +kernel
theorem dX9_init_12 : decode cX9_init 12 = .ok (.putfield 10, 3) := by decide +kernel
theorem dX9_init_15 : decode cX9_init 15 = .ok (.aload_n 0, 1) := by decide +kernel
theorem dX9_init_16 : decode cX9_init 16 = .ok (.new 16, 3) := by decide +kernel
theorem dX9_init_19 : decode cX9_init 19 = .ok (.dup, 1) := by decide +kernel
theorem dX9_init_20 : decode cX9_init 20 = .ok (.invokespecial 18, 3) := by decide +kernel
theorem dX9_init_23 : decode cX9_init 23 = .ok (.putfield 19, 3) := by decide +kernel
theorem dX9_init_26 : decode cX9_init 26 = .ok (.aload_n 0, 1) := by decide +kernel
theorem dX9_init_27 : decode cX9_init 27 = .ok (.new 23, 3) := by decide +kernel
theorem dX9_init_30 : decode cX9_init 30 = .ok (.dup, 1) := by decide +kernel
theorem dX9_init_31 : decode cX9_init 31 = .ok (.invokespecial 25, 3) := by decide +kernel
theorem dX9_init_34 : decode cX9_init 34 = .ok (.putfield 26, 3) := by decide +kernel
theorem dX9_init_37 : decode cX9_init 37 = .ok (.aload_n 0, 1) := by decide +kernel
theorem dX9_init_38 : decode cX9_init 38 = .ok (.new 30, 3) := by decide +kernel
theorem dX9_init_41 : decode cX9_init 41 = .ok (.dup, 1) := by decide +kernel
theorem dX9_init_42 : decode cX9_init 42 = .ok (.invokespecial 32, 3) := by decide +kernel
theorem dX9_init_45 : decode cX9_init 45 = .ok (.putfield 33, 3) := by decide +kernel
theorem dX9_init_48 : decode cX9_init 48 = .ok (.aload_n 0, 1) := by decide +kernel
theorem dX9_init_49 : decode cX9_init 49 = .ok (.new 37, 3) := by decide +kernel
theorem dX9_init_52 : decode cX9_init 52 = .ok (.dup, 1) := by decide +kernel
theorem dX9_init_53 : decode cX9_init 53 = .ok (.invokespecial 39, 3) := by decide +kernel
theorem dX9_init_56 : decode cX9_init 56 = .ok (.putfield 40, 3) := by decide +kernel
theorem dX9_init_59 : decode cX9_init 59 = .ok (.aload_n 0, 1) := by decide +kernel
theorem dX9_init_60 : decode cX9_init 60 = .ok (.new 44, 3) := by decide +kernel
theorem dX9_init_63 : decode cX9_init 63 = .ok (.dup, 1) := by decide +kernel
theorem dX9_init_64 : decode cX9_init 64 = .ok (.invokespecial 46, 3) := by decide +kernel
theorem dX9_init_67 : decode cX9_init 67 = .ok (.putfield 47, 3) := by decide +kernel
theorem dX9_init_70 : decode cX9_init 70 = .ok (.aload_n 0, 1) := by decide +kernel
theorem dX9_init_71 : decode cX9_init 71 = .ok (.new 51, 3) := by decide +kernel
theorem dX9_init_74 : decode cX9_init 74 = .ok (.dup, 1) := by decide +kernel
theorem dX9_init_75 : decode cX9_init 75 = .ok (.invokespecial 53, 3) := by decide +kernel
theorem dX9_init_78 : decode cX9_init 78 = .ok (.putfield 54, 3) := by decide +kernel
theorem dX9_init_81 : decode cX9_init 81 = .ok (.aload_n 0, 1) := by decide +kernel
theorem dX9_init_82 : decode cX9_init 82 = .ok (.new 58, 3) := by decide +kernel
theorem dX9_init_85 : decode cX9_init 85 = .ok (.dup, 1) := by decide +kernel
theorem dX9_init_86 : decode cX9_init 86 = .ok (.invokespecial 60, 3) := by decide +kernel
theorem dX9_init_89 : decode cX9_init 89 = .ok (.putfield 61, 3) := by decide +kernel
theorem dX9_init_92 : decode cX9_init 92 = .ok (.aload_n 0, 1) := by decide +kernel
theorem dX9_init_93 : decode cX9_init 93 = .ok (.new 58, 3) := by decide +kernel
theorem dX9_init_96 : decode cX9_init 96 = .ok (.dup, 1) := by decide +kernel
theorem dX9_init_97 : decode cX9_init 97 = .ok (.invokespecial 60, 3) := by decide +kernel
theorem dX9_init_100 : decode cX9_init 100 = .ok (.putfield 65, 3) := by decide +kernel
theorem dX9_init_103 : decode cX9_init 103 = .ok (.aload_n 0, 1) := by decide +kernel
theorem dX9_init_104 : decode cX9_init 104 = .ok (.new 68, 3) := by decide +kernel
theorem dX9_init_107 : decode cX9_init 107 = .ok (.dup, 1) := by decide +kernel
theorem dX9_init_108 : decode cX9_init 108 = .ok (.invokespecial 70, 3) := by decide +kernel
theorem dX9_init_111 : decode cX9_init 111 = .ok (.putfield 71, 3) := by decide +kernel
theorem dX9_init_114 : decode cX9_init 114 = .ok (.aload_n 0, 1) := by decide +kernel
theorem dX9_init_115 : decode cX9_init 115 = .ok (.new 68, 3) := by decide +kernel
theorem dX9_init_118 : decode cX9_init 118 = .ok (.dup, 1) := by decide +kernel
theorem dX9_init_119 : decode cX9_init 119 = .ok (.invokespecial 70, 3) := by decide +kernel
theorem dX9_init_122 : decode cX9_init 122 = .ok (.putfield 75, 3) := by decide +kernel
theorem dX9_init_125 : decode cX9_init 125 = .ok (.aload_n 0, 1) := by decide +kernel
theorem dX9_init_126 : decode cX9_init 126 = .ok (.new 68, 3) := by decide +kernel
theorem dX9_init_129 : decode cX9_init 129 = .ok (.dup, 1) := by decide +kernel
theorem dX9_init_130 : decode cX9_init 130 = .ok (.invokespecial 70, 3) := by decide +kernel
theorem dX9_init_133 : decode cX9_init 133 = .ok (.putfield 78, 3) := by decide +kernel
theorem dX9_init_136 : decode cX9_init 136 = .ok (.aload_n 0, 1) := by decide +kernel
theorem dX9_init_137 : decode cX9_init 137 = .ok (.bipush 45, 2) := by decide +kernel
theorem dX9_init_139 : decode cX9_init 139 = .ok (.putfield 81, 3) := by decide +kernel
theorem dX9_init_142 : decode cX9_init 142 = .ok (.aload_n 0, 1) := by decide +kernel
theorem dX9_init_143 : decode cX9_init 143 = .ok (.iconst 0, 1) := by decide +kernel
theorem dX9_init_144 : decode cX9_init 144 = .ok (.putfield 85, 3) := by decide +kernel
theorem dX9_init_147 : decode cX9_init 147 = .ok (.aload_n 0, 1) := by decide +kernel
theorem dX9_init_148 : decode cX9_init 148 = .ok (.iconst 1, 1) := by decide +kernel
theorem dX9_init_149 : decode cX9_init 149 = .ok (.putfield 89, 3) := by decide +kernel
theorem dX9_init_152 : decode cX9_init 152 = .ok (.aload_n 0, 1) := by decide +kernel
theorem dX9_init_153 : decode cX9_init 153 = .ok (.iconst (-1), 1) := by decide +kernel
theorem dX9_init_154 : decode cX9_init 154 = .ok (.putfield 92, 3) := by decide +kernel
theorem dX9_init_157 : decode cX9_init 157 = .ok (.aload_n 0, 1) := by decide +kernel
theorem dX9_init_158 : decode cX9_init 158 = .ok (.iconst 0, 1) := by decide +kernel
theorem dX9_init_159 : decode cX9_init 159 = .ok (.putfield 95, 3) := by decide +kernel
theorem dX9_init_162 : decode cX9_init 162 = .ok (.return_, 1) := by decide +kernel
set_option maxRecDepth 20000 in
theorem ggX9_start_X9_layoutOf : GoodIn wsX9_start wsX9_layoutOf := goodIn_r _ [11, 12, 13, 14, 15] (by decide +kernel) (by decide +kernel)
set_option maxRecDepth 20000 in
theorem gX9_start_X9_layoutOf : GoodIn wsX9_start (va_wsS RX9 98 yX9_layoutOf wsX9_layoutOf) := goodIn_app (goodIn_of _ (by decide +kernel)) ggX9_start_X9_layoutOf
set_option maxRecDepth 20000 in
theorem ggX9_start_X9_menIn : GoodIn wsX9_start wsX9_menIn := goodIn_r _ [18] (by decide +kernel) (by decide +kernel)
set_option maxRecDepth 20000 in
theorem gX9_start_X9_menIn : GoodIn wsX9_start (va_wsS RX9 102 yX9_menIn wsX9_menIn) := goodIn_app (goodIn_of _ (by decide +kernel)) ggX9_start_X9_menIn
set_option maxRecDepth 20000 in
theorem ggX9_start_X7_size : GoodIn wsX9_start wsX7_size := goodIn_r _ [23, 24, 54, 55, 56] (by decide +kernel) (by decide +kernel)
set_option maxRecDepth 20000 in
theorem gX9_start_X7_size : GoodIn wsX9_start (wsV RX9 113 RX7 yX7_size wsX7_size) := goodIn_app (goodIn_of _ (by decide +kernel)) ggX9_start_X7_size
set_option maxRecDepth 20000 in
theorem ggX9_start_X4_open : GoodIn wsX9_start wsX4_open := goodIn_r _ [29, 30, 31, 32, 33, 34, 35, 36, 57, 58, 59, 60, 61, 62, 63] (by decide +kernel) (by decide +kernel)
set_option maxRecDepth 20000 in
theorem gX9_start_X4_open : GoodIn wsX9_start (wsV RX9 122 RX4 yX4_open wsX4_open) := goodIn_app (goodIn_of _ (by decide +kernel)) ggX9_start_X4_open
theorem dX9_start_0 : decode cX9_start 0 = .ok (.iload_n 1, 1) := by decide +kernel
theorem dX9_start_1 : decode cX9_start 1 = .ok (.invokestatic 98, 3) := by decide +kernel
theorem dX9_start_4 : decode cX9_start 4 = .ok (.invokestatic 102, 3) := by decide +kernel
theorem dX9_start_7 : decode cX9_start 7 = .ok (.istore 4, 2) := by decide +kernel
theorem dX9_start_9 : decode cX9_start 9 = .ok (.iload 4, 2) := by decide +kernel
theorem dX9_start_11 : decode cX9_start 11 = .ok (.ifCond .eq 13, 3) := by decide +kernel
theorem dX9_start_14 : decode cX9_start 14 = .ok (.iload_n 2, 1) := by decide +kernel
theorem dX9_start_15 : decode cX9_start 15 = .ok (.ifCond .lt 9, 3) := by decide +kernel
theorem dX9_start_18 : decode cX9_start 18 = .ok (.iload_n 2, 1) := by decide +kernel
theorem dX9_start_19 : decode cX9_start 19 = .ok (.bipush 25, 2) := by decide +kernel
theorem dX9_start_21 : decode cX9_start 21 = .ok (.if_icmp .le 13, 3) := by decide +kernel
theorem dX9_start_24 : decode cX9_start 24 = .ok (.new 106, 3) := by decide +kernel
theorem dX9_start_27 : decode cX9_start 27 = .ok (.dup, 1) := by decide +kernel
theorem dX9_start_28 : decode cX9_start 28 = .ok (.ldc 108, 2) := by decide +kernel
theorem dX9_start_30 : decode cX9_start 30 = .ok (.invokespecial 110, 3) := by decide +kernel
theorem dX9_start_33 : decode cX9_start 33 = .ok (.athrow, 1) := by decide +kernel
theorem dX9_start_34 : decode cX9_start 34 = .ok (.aload_n 0, 1) := by decide +kernel
theorem dX9_start_35 : decode cX9_start 35 = .ok (.getfield 81, 3) := by decide +kernel
theorem dX9_start_38 : decode cX9_start 38 = .ok (.bipush 45, 2) := by decide +kernel
theorem dX9_start_40 : decode cX9_start 40 = .ok (.if_icmp .ne 17, 3) := by decide +kernel
theorem dX9_start_43 : decode cX9_start 43 = .ok (.aload_n 0, 1) := by decide +kernel
theorem dX9_start_44 : decode cX9_start 44 = .ok (.getfield 19, 3) := by decide +kernel
theorem dX9_start_47 : decode cX9_start 47 = .ok (.invokevirtual 113, 3) := by decide +kernel
theorem dX9_start_50 : decode cX9_start 50 = .ok (.ifCond .le 17, 3) := by decide +kernel
theorem dX9_start_53 : decode cX9_start 53 = .ok (.iload_n 2, 1) := by decide +kernel
theorem dX9_start_54 : decode cX9_start 54 = .ok (.ifCond .le 13, 3) := by decide +kernel
theorem dX9_start_57 : decode cX9_start 57 = .ok (.new 117, 3) := by decide +kernel
theorem dX9_start_60 : decode cX9_start 60 = .ok (.dup, 1) := by decide +kernel
theorem dX9_start_61 : decode cX9_start 61 = .ok (.ldc 119, 2) := by decide +kernel
theorem dX9_start_63 : decode cX9_start 63 = .ok (.invokespecial 121, 3) := by decide +kernel
theorem dX9_start_66 : decode cX9_start 66 = .ok (.athrow, 1) := by decide +kernel
theorem dX9_start_67 : decode cX9_start 67 = .ok (.aload_n 0, 1) := by decide +kernel
theorem dX9_start_68 : decode cX9_start 68 = .ok (.getfield 10, 3) := by decide +kernel
theorem dX9_start_71 : decode cX9_start 71 = .ok (.iload_n 1, 1) := by decide +kernel
theorem dX9_start_72 : decode cX9_start 72 = .ok (.iload_n 2, 1) := by decide +kernel
theorem dX9_start_73 : decode cX9_start 73 = .ok (.iload_n 3, 1) := by decide +kernel
theorem dX9_start_74 : decode cX9_start 74 = .ok (.invokevirtual 122, 3) := by decide +kernel
theorem dX9_start_77 : decode cX9_start 77 = .ok (.iload 4, 2) := by decide +kernel
theorem dX9_start_79 : decode cX9_start 79 = .ok (.ireturn, 1) := by decide +kernel
set_option maxRecDepth 20000 in
theorem ggX9_begin_X9_requireSide : GoodIn wsX9_begin wsX9_requireSide := goodIn_ca (goodIn_r _ [14, 15, 16] (by decide +kernel) (by decide +kernel)) (goodIn_sub (fun _ h => List.mem_cons_of_mem _ (List.mem_append_right _ h)) (by decide +kernel))
set_option maxRecDepth 20000 in
theorem gX9_begin_X9_requireSide : GoodIn wsX9_begin (va_wsS RX9 126 yX9_requireSide wsX9_requireSide) := goodIn_app (goodIn_of _ (by decide +kernel)) ggX9_begin_X9_requireSide
set_option maxRecDepth 20000 in
theorem ggX9_begin_X4_isOpen : GoodIn wsX9_begin wsX4_isOpen := goodIn_r _ [21, 22, 94, 95, 96, 97, 98, 99, 100] (by decide +kernel) (by decide +kernel)
set_option maxRecDepth 20000 in
theorem gX9_begin_X4_isOpen : GoodIn wsX9_begin (wsV RX9 130 RX4 yX4_isOpen wsX4_isOpen) := goodIn_app (goodIn_of _ (by decide +kernel)) ggX9_begin_X4_isOpen
set_option maxRecDepth 20000 in
theorem ggX9_begin_X4_isDecided : GoodIn wsX9_begin wsX4_isDecided := goodIn_r _ [26, 27, 28, 29, 30, 31, 32, 33, 94, 95, 96, 97, 98, 99, 100] (by decide +kernel) (by decide +kernel)
set_option maxRecDepth 20000 in
theorem gX9_begin_X4_isDecided : GoodIn wsX9_begin (wsV RX9 134 RX4 yX4_isDecided wsX4_isDecided) := goodIn_app (goodIn_of _ (by decide +kernel)) ggX9_begin_X4_isDecided
set_option maxRecDepth 20000 in
theorem ggX9_begin_X4_variant : GoodIn wsX9_begin wsX4_variant := goodIn_r _ [37, 38, 94, 95, 96, 97, 98, 99, 100] (by decide +kernel) (by decide +kernel)
set_option maxRecDepth 20000 in
theorem gX9_begin_X4_variant : GoodIn wsX9_begin (wsV RX9 139 RX4 yX4_variant wsX4_variant) := goodIn_app (goodIn_of _ (by decide +kernel)) ggX9_begin_X4_variant
set_option maxRecDepth 20000 in
theorem ggX9_begin_X9_layoutOf : GoodIn wsX9_begin wsX9_layoutOf := goodIn_r _ [41, 42, 43, 44, 45] (by decide +kernel) (by decide +kernel)
set_option maxRecDepth 20000 in
theorem gX9_begin_X9_layoutOf : GoodIn wsX9_begin (va_wsS RX9 98 yX9_layoutOf wsX9_layoutOf) := goodIn_app (goodIn_of _ (by decide +kernel)) ggX9_begin_X9_layoutOf
set_option maxRecDepth 20000 in
theorem ggX9_begin_X0_layOut : GoodIn wsX9_begin wsX0_layOut := goodIn_r _ [50, 51, 52, 53, 54, 55, 56, 57, 58, 49, 59, 101] (by decide +kernel) (by decide +kernel)
set_option maxRecDepth 20000 in
theorem gX9_begin_X0_layOut : GoodIn wsX9_begin (wsV RX9 143 RX0 yX0_layOut wsX0_layOut) := goodIn_app (goodIn_of _ (by decide +kernel)) ggX9_begin_X0_layOut
set_option maxRecDepth 20000 in
theorem ggX9_begin_X0_become : GoodIn wsX9_begin wsX0_become := goodIn_r _ [63, 51, 101] (by decide +kernel) (by decide +kernel)
set_option maxRecDepth 20000 in
theorem gX9_begin_X0_become : GoodIn wsX9_begin (wsV RX9 147 RX0 yX0_become wsX0_become) := goodIn_app (goodIn_of _ (by decide +kernel)) ggX9_begin_X0_become
set_option maxRecDepth 20000 in
theorem ggX9_begin_X3_clear : GoodIn wsX9_begin wsX3_clear := goodIn_r _ [68, 69, 70, 71, 102, 103, 104, 105, 106, 107] (by decide +kernel) (by decide +kernel)
set_option maxRecDepth 20000 in
theorem gX9_begin_X3_clear : GoodIn wsX9_begin (wsV RX9 151 RX3 yX3_clear wsX3_clear) := goodIn_app (goodIn_of _ (by decide +kernel)) ggX9_begin_X3_clear
set_option maxRecDepth 20000 in
theorem ggX9_begin_X4_isCrawford : GoodIn wsX9_begin wsX4_isCrawford := goodIn_r _ [75, 76, 94, 95, 96, 97, 98, 99, 100] (by decide +kernel) (by decide +kernel)
set_option maxRecDepth 20000 in
theorem gX9_begin_X4_isCrawford : GoodIn wsX9_begin (wsV RX9 155 RX4 yX4_isCrawford wsX4_isCrawford) := goodIn_app (goodIn_of _ (by decide +kernel)) ggX9_begin_X4_isCrawford
theorem dX9_begin_0 : decode cX9_begin 0 = .ok (.iload_n 1, 1) := by decide +kernel
theorem dX9_begin_1 : decode cX9_begin 1 = .ok (.invokestatic 126, 3) := by decide +kernel
theorem dX9_begin_4 : decode cX9_begin 4 = .ok (.aload_n 0, 1) := by decide +kernel
theorem dX9_begin_5 : decode cX9_begin 5 = .ok (.getfield 81, 3) := by decide +kernel
theorem dX9_begin_8 : decode cX9_begin 8 = .ok (.bipush 45, 2) := by decide +kernel
theorem dX9_begin_10 : decode cX9_begin 10 = .ok (.if_icmp .ne 23, 3) := by decide +kernel
theorem dX9_begin_13 : decode cX9_begin 13 = .ok (.aload_n 0, 1) := by decide +kernel
theorem dX9_begin_14 : decode cX9_begin 14 = .ok (.getfield 10, 3) := by decide +kernel
theorem dX9_begin_17 : decode cX9_begin 17 = .ok (.invokevirtual 130, 3) := by decide +kernel
theorem dX9_begin_20 : decode cX9_begin 20 = .ok (.ifCond .eq 13, 3) := by decide +kernel
theorem dX9_begin_23 : decode cX9_begin 23 = .ok (.aload_n 0, 1) := by decide +kernel
theorem dX9_begin_24 : decode cX9_begin 24 = .ok (.getfield 10, 3) := by decide +kernel
theorem dX9_begin_27 : decode cX9_begin 27 = .ok (.invokevirtual 134, 3) := by decide +kernel
theorem dX9_begin_30 : decode cX9_begin 30 = .ok (.ifCond .eq 13, 3) := by decide +kernel
theorem dX9_begin_33 : decode cX9_begin 33 = .ok (.new 117, 3) := by decide +kernel
theorem dX9_begin_36 : decode cX9_begin 36 = .ok (.dup, 1) := by decide +kernel
theorem dX9_begin_37 : decode cX9_begin 37 = .ok (.ldc 137, 2) := by decide +kernel
theorem dX9_begin_39 : decode cX9_begin 39 = .ok (.invokespecial 121, 3) := by decide +kernel
theorem dX9_begin_42 : decode cX9_begin 42 = .ok (.athrow, 1) := by decide +kernel
theorem dX9_begin_43 : decode cX9_begin 43 = .ok (.aload_n 0, 1) := by decide +kernel
theorem dX9_begin_44 : decode cX9_begin 44 = .ok (.getfield 71, 3) := by decide +kernel
theorem dX9_begin_47 : decode cX9_begin 47 = .ok (.aload_n 0, 1) := by decide +kernel
theorem dX9_begin_48 : decode cX9_begin 48 = .ok (.getfield 10, 3) := by decide +kernel
theorem dX9_begin_51 : decode cX9_begin 51 = .ok (.invokevirtual 139, 3) := by decide +kernel
theorem dX9_begin_54 : decode cX9_begin 54 = .ok (.invokestatic 98, 3) := by decide +kernel
theorem dX9_begin_57 : decode cX9_begin 57 = .ok (.invokevirtual 143, 3) := by decide +kernel
theorem dX9_begin_60 : decode cX9_begin 60 = .ok (.aload_n 0, 1) := by decide +kernel
theorem dX9_begin_61 : decode cX9_begin 61 = .ok (.getfield 75, 3) := by decide +kernel
theorem dX9_begin_64 : decode cX9_begin 64 = .ok (.aload_n 0, 1) := by decide +kernel
theorem dX9_begin_65 : decode cX9_begin 65 = .ok (.getfield 71, 3) := by decide +kernel
theorem dX9_begin_68 : decode cX9_begin 68 = .ok (.invokevirtual 147, 3) := by decide +kernel
theorem dX9_begin_71 : decode cX9_begin 71 = .ok (.aload_n 0, 1) := by decide +kernel
theorem dX9_begin_72 : decode cX9_begin 72 = .ok (.getfield 26, 3) := by decide +kernel
theorem dX9_begin_75 : decode cX9_begin 75 = .ok (.aload_n 0, 1) := by decide +kernel
theorem dX9_begin_76 : decode cX9_begin 76 = .ok (.getfield 10, 3) := by decide +kernel
theorem dX9_begin_79 : decode cX9_begin 79 = .ok (.invokevirtual 139, 3) := by decide +kernel
theorem dX9_begin_82 : decode cX9_begin 82 = .ok (.iload_n 1, 1) := by decide +kernel
theorem dX9_begin_83 : decode cX9_begin 83 = .ok (.invokevirtual 151, 3) := by decide +kernel
theorem dX9_begin_86 : decode cX9_begin 86 = .ok (.aload_n 0, 1) := by decide +kernel
theorem dX9_begin_87 : decode cX9_begin 87 = .ok (.iconst 1, 1) := by decide +kernel
theorem dX9_begin_88 : decode cX9_begin 88 = .ok (.putfield 89, 3) := by decide +kernel
theorem dX9_begin_91 : decode cX9_begin 91 = .ok (.aload_n 0, 1) := by decide +kernel
theorem dX9_begin_92 : decode cX9_begin 92 = .ok (.iconst (-1), 1) := by decide +kernel
theorem dX9_begin_93 : decode cX9_begin 93 = .ok (.putfield 92, 3) := by decide +kernel
theorem dX9_begin_96 : decode cX9_begin 96 = .ok (.aload_n 0, 1) := by decide +kernel
theorem dX9_begin_97 : decode cX9_begin 97 = .ok (.iload_n 1, 1) := by decide +kernel
theorem dX9_begin_98 : decode cX9_begin 98 = .ok (.putfield 85, 3) := by decide +kernel
theorem dX9_begin_101 : decode cX9_begin 101 = .ok (.aload_n 0, 1) := by decide +kernel
theorem dX9_begin_102 : decode cX9_begin 102 = .ok (.bipush 100, 2) := by decide +kernel
theorem dX9_begin_104 : decode cX9_begin 104 = .ok (.putfield 81, 3) := by decide +kernel
theorem dX9_begin_107 : decode cX9_begin 107 = .ok (.aload_n 0, 1) := by decide +kernel
theorem dX9_begin_108 : decode cX9_begin 108 = .ok (.getfield 10, 3) := by decide +kernel
theorem dX9_begin_111 : decode cX9_begin 111 = .ok (.invokevirtual 155, 3) := by decide +kernel
theorem dX9_begin_114 : decode cX9_begin 114 = .ok (.ireturn, 1) := by decide +kernel
theorem dX9_state_0 : decode cX9_state 0 = .ok (.aload_n 0, 1) := by decide +kernel
theorem dX9_state_1 : decode cX9_state 1 = .ok (.getfield 81, 3) := by decide +kernel
theorem dX9_state_4 : decode cX9_state 4 = .ok (.ireturn, 1) := by decide +kernel
theorem dX9_turn_0 : decode cX9_turn 0 = .ok (.aload_n 0, 1) := by decide +kernel
theorem dX9_turn_1 : decode cX9_turn 1 = .ok (.getfield 81, 3) := by decide +kernel
theorem dX9_turn_4 : decode cX9_turn 4 = .ok (.bipush 45, 2) := by decide +kernel
theorem dX9_turn_6 : decode cX9_turn 6 = .ok (.if_icmp .ne 13, 3) := by decide +kernel
theorem dX9_turn_9 : decode cX9_turn 9 = .ok (.new 117, 3) := by decide +kernel
theorem dX9_turn_12 : decode cX9_turn 12 = .ok (.dup, 1) := by decide +kernel
theorem dX9_turn_13 : decode cX9_turn 13 = .ok (.ldc 158, 2) := by decide +kernel
theorem dX9_turn_15 : decode cX9_turn 15 = .ok (.invokespecial 121, 3) := by decide +kernel
theorem dX9_turn_18 : decode cX9_turn 18 = .ok (.athrow, 1) := by decide +kernel
theorem dX9_turn_19 : decode cX9_turn 19 = .ok (.aload_n 0, 1) := by decide +kernel
theorem dX9_turn_20 : decode cX9_turn 20 = .ok (.getfield 81, 3) := by decide +kernel
theorem dX9_turn_23 : decode cX9_turn 23 = .ok (.bipush 116, 2) := by decide +kernel
theorem dX9_turn_25 : decode cX9_turn 25 = .ok (.if_icmp .ne 12, 3) := by decide +kernel
theorem dX9_turn_28 : decode cX9_turn 28 = .ok (.iconst 1, 1) := by decide +kernel
theorem dX9_turn_29 : decode cX9_turn 29 = .ok (.aload_n 0, 1) := by decide +kernel
theorem dX9_turn_30 : decode cX9_turn 30 = .ok (.getfield 85, 3) := by decide +kernel
theorem dX9_turn_33 : decode cX9_turn 33 = .ok (.isub, 1) := by decide +kernel
theorem dX9_turn_34 : decode cX9_turn 34 = .ok (.goto 7, 3) := by decide +kernel
theorem dX9_turn_37 : decode cX9_turn 37 = .ok (.aload_n 0, 1) := by decide +kernel
theorem dX9_turn_38 : decode cX9_turn 38 = .ok (.getfield 85, 3) := by decide +kernel
theorem dX9_turn_41 : decode cX9_turn 41 = .ok (.ireturn, 1) := by decide +kernel
theorem dX9_won_0 : decode cX9_won 0 = .ok (.aload_n 0, 1) := by decide +kernel
theorem dX9_won_1 : decode cX9_won 1 = .ok (.getfield 95, 3) := by decide +kernel
theorem dX9_won_4 : decode cX9_won 4 = .ok (.ireturn, 1) := by decide +kernel
set_option maxRecDepth 20000 in
theorem ggX9_roll_X9_requirePhase : GoodIn wsX9_roll wsX9_requirePhase := goodIn_ca (goodIn_r _ [13, 14, 15, 8, 160, 161, 162, 163, 164, 165, 166, 167, 168, 169, 170, 171, 172, 173, 174, 175, 176] (by decide +kernel) (by decide +kernel)) (goodIn_sub (fun _ h => List.mem_cons_of_mem _ (List.mem_append_right _ h)) (by decide +kernel))
set_option maxRecDepth 20000 in
theorem gX9_roll_X9_requirePhase : GoodIn wsX9_roll (wsV RX9 168 RX9 yX9_requirePhase wsX9_requirePhase) := goodIn_app (goodIn_of _ (by decide +kernel)) ggX9_roll_X9_requirePhase
set_option maxRecDepth 20000 in
theorem ggX9_roll_X6_become : GoodIn wsX9_roll wsX6_become := goodIn_r _ [20, 21, 22, 23, 24, 25, 26, 27, 28, 29, 30, 31, 32, 19, 33, 34, 35, 36, 177, 178, 179, 180, 181] (by decide +kernel) (by decide +kernel)
set_option maxRecDepth 20000 in
theorem gX9_roll_X6_become : GoodIn wsX9_roll (wsV RX9 172 RX6 yX6_become wsX6_become) := goodIn_app (goodIn_of _ (by decide +kernel)) ggX9_roll_X6_become
set_option maxRecDepth 20000 in
theorem ggX9_roll_X8_countRoll : GoodIn wsX9_roll wsX8_countRoll := goodIn_r _ [41, 42, 43, 44, 40, 45, 46, 182, 183, 184, 185] (by decide +kernel) (by decide +kernel)
set_option maxRecDepth 20000 in
theorem gX9_roll_X8_countRoll : GoodIn wsX9_roll (wsV RX9 175 RX8 yX8_countRoll wsX8_countRoll) := goodIn_app (goodIn_of _ (by decide +kernel)) ggX9_roll_X8_countRoll
set_option maxRecDepth 20000 in
theorem ggX9_roll_X6_greater : GoodIn wsX9_roll wsX6_greater := goodIn_r _ [50, 25, 177, 178, 179, 180, 181] (by decide +kernel) (by decide +kernel)
set_option maxRecDepth 20000 in
theorem gX9_roll_X6_greater : GoodIn wsX9_roll (wsV RX9 178 RX6 yX6_greater wsX6_greater) := goodIn_app (goodIn_of _ (by decide +kernel)) ggX9_roll_X6_greater
set_option maxRecDepth 20000 in
theorem ggX9_roll_X6_lesser : GoodIn wsX9_roll wsX6_lesser := goodIn_r _ [54, 29, 177, 178, 179, 180, 181] (by decide +kernel) (by decide +kernel)
set_option maxRecDepth 20000 in
theorem gX9_roll_X6_lesser : GoodIn wsX9_roll (wsV RX9 181 RX6 yX6_lesser wsX6_lesser) := goodIn_app (goodIn_of _ (by decide +kernel)) ggX9_roll_X6_lesser
set_option maxRecDepth 20000 in
theorem ggX9_roll_X5_collect : GoodIn wsX9_roll wsX5_collect := goodIn_r _ [59, 60, 61, 62, 63, 64, 65, 66, 67, 68, 69, 70, 58, 71, 72, 73, 74, 75, 76, 77, 78, 79, 80, 81, 82, 83, 84, 85, 86, 87, 88, 89, 90, 91, 92, 93, 94, 22, 23, 24, 95, 96, 97, 98, 99, 12, 100, 101, 102, 103, 104, 105, 106, 107, 108, 109, 110, 111, 112, 113, 114, 115, 116, 117, 118, 119, 120, 121, 122, 123, 124, 125, 126, 127, 128, 129, 130, 131, 132, 133, 134, 135, 136, 137, 138, 139, 140, 141, 142, 143, 144, 145, 146, 147, 148, 149, 150, 151, 152, 153, 154, 155, 186, 187, 188, 189, 190, 191, 192, 193, 194, 195, 196] (by decide +kernel) (by decide +kernel)
set_option maxRecDepth 20000 in
theorem gX9_roll_X5_collect : GoodIn wsX9_roll (wsV RX9 184 RX5 yX5_collect wsX5_collect) := goodIn_app (goodIn_of _ (by decide +kernel)) ggX9_roll_X5_collect
set_option maxRecDepth 20000 in
theorem ggX9_roll_X5_count : GoodIn wsX9_roll wsX5_count := goodIn_r _ [159, 73, 186, 187, 188, 189, 190, 191, 192, 193, 194, 195] (by decide +kernel) (by decide +kernel)
set_option maxRecDepth 20000 in
theorem gX9_roll_X5_count : GoodIn wsX9_roll (wsV RX9 188 RX5 yX5_count wsX5_count) := goodIn_app (goodIn_of _ (by decide +kernel)) ggX9_roll_X5_count
theorem dX9_roll_0 : decode cX9_roll 0 = .ok (.iload_n 1, 1) := by decide +kernel
theorem dX9_roll_1 : decode cX9_roll 1 = .ok (.iconst 1, 1) := by decide +kernel
theorem dX9_roll_2 : decode cX9_roll 2 = .ok (.if_icmp .lt 20, 3) := by decide +kernel
theorem dX9_roll_5 : decode cX9_roll 5 = .ok (.iload_n 1, 1) := by decide +kernel
theorem dX9_roll_6 : decode cX9_roll 6 = .ok (.bipush 6, 2) := by decide +kernel
theorem dX9_roll_8 : decode cX9_roll 8 = .ok (.if_icmp .gt 14, 3) := by decide +kernel
theorem dX9_roll_11 : decode cX9_roll 11 = .ok (.iload_n 2, 1) := by decide +kernel
theorem dX9_roll_12 : decode cX9_roll 12 = .ok (.iconst 1, 1) := by decide +kernel
theorem dX9_roll_13 : decode cX9_roll 13 = .ok (.if_icmp .lt 9, 3) := by decide +kernel
theorem dX9_roll_16 : decode cX9_roll 16 = .ok (.iload_n 2, 1) := by decide +kernel
theorem dX9_roll_17 : decode cX9_roll 17 = .ok (.bipush 6, 2) := by decide +kernel
theorem dX9_roll_19 : decode cX9_roll 19 = .ok (.if_icmp .le 13, 3) := by decide +kernel
theorem dX9_roll_22 : decode cX9_roll 22 = .ok (.new 106, 3) := by decide +kernel
theorem dX9_roll_25 : decode cX9_roll 25 = .ok (.dup, 1) := by decide +kernel
theorem dX9_roll_26 : decode cX9_roll 26 = .ok (.ldc 166, 2) := by decide +kernel
theorem dX9_roll_28 : decode cX9_roll 28 = .ok (.invokespecial 110, 3) := by decide +kernel
theorem dX9_roll_31 : decode cX9_roll 31 = .ok (.athrow, 1) := by decide +kernel
theorem dX9_roll_32 : decode cX9_roll 32 = .ok (.aload_n 0, 1) := by decide +kernel
theorem dX9_roll_33 : decode cX9_roll 33 = .ok (.bipush 100, 2) := by decide +kernel
theorem dX9_roll_35 : decode cX9_roll 35 = .ok (.invokevirtual 168, 3) := by decide +kernel
theorem dX9_roll_38 : decode cX9_roll 38 = .ok (.aload_n 0, 1) := by decide +kernel
theorem dX9_roll_39 : decode cX9_roll 39 = .ok (.getfield 40, 3) := by decide +kernel
theorem dX9_roll_42 : decode cX9_roll 42 = .ok (.iload_n 1, 1) := by decide +kernel
theorem dX9_roll_43 : decode cX9_roll 43 = .ok (.iload_n 2, 1) := by decide +kernel
theorem dX9_roll_44 : decode cX9_roll 44 = .ok (.invokevirtual 172, 3) := by decide +kernel
theorem dX9_roll_47 : decode cX9_roll 47 = .ok (.aload_n 0, 1) := by decide +kernel
theorem dX9_roll_48 : decode cX9_roll 48 = .ok (.getfield 33, 3) := by decide +kernel
theorem dX9_roll_51 : decode cX9_roll 51 = .ok (.iload_n 1, 1) := by decide +kernel
theorem dX9_roll_52 : decode cX9_roll 52 = .ok (.iload_n 2, 1) := by decide +kernel
theorem dX9_roll_53 : decode cX9_roll 53 = .ok (.invokevirtual 175, 3) := by decide +kernel
theorem dX9_roll_56 : decode cX9_roll 56 = .ok (.aload_n 0, 1) := by decide +kernel
theorem dX9_roll_57 : decode cX9_roll 57 = .ok (.getfield 61, 3) := by decide +kernel
theorem dX9_roll_60 : decode cX9_roll 60 = .ok (.aload_n 0, 1) := by decide +kernel
theorem dX9_roll_61 : decode cX9_roll 61 = .ok (.getfield 71, 3) := by decide +kernel
theorem dX9_roll_64 : decode cX9_roll 64 = .ok (.aload_n 0, 1) := by decide +kernel
theorem dX9_roll_65 : decode cX9_roll 65 = .ok (.getfield 85, 3) := by decide +kernel
theorem dX9_roll_68 : decode cX9_roll 68 = .ok (.aload_n 0, 1) := by decide +kernel
theorem dX9_roll_69 : decode cX9_roll 69 = .ok (.getfield 40, 3) := by decide +kernel
theorem dX9_roll_72 : decode cX9_roll 72 = .ok (.invokevirtual 178, 3) := by decide +kernel
theorem dX9_roll_75 : decode cX9_roll 75 = .ok (.aload_n 0, 1) := by decide +kernel
theorem dX9_roll_76 : decode cX9_roll 76 = .ok (.getfield 40, 3) := by decide +kernel
theorem dX9_roll_79 : decode cX9_roll 79 = .ok (.invokevirtual 181, 3) := by decide +kernel
theorem dX9_roll_82 : decode cX9_roll 82 = .ok (.invokevirtual 184, 3) := by decide +kernel
theorem dX9_roll_85 : decode cX9_roll 85 = .ok (.aload_n 0, 1) := by decide +kernel
theorem dX9_roll_86 : decode cX9_roll 86 = .ok (.bipush 114, 2) := by decide +kernel
theorem dX9_roll_88 : decode cX9_roll 88 = .ok (.putfield 81, 3) := by decide +kernel
theorem dX9_roll_91 : decode cX9_roll 91 = .ok (.aload_n 0, 1) := by decide +kernel
theorem dX9_roll_92 : decode cX9_roll 92 = .ok (.getfield 61, 3) := by decide +kernel
theorem dX9_roll_95 : decode cX9_roll 95 = .ok (.invokevirtual 188, 3) := by decide +kernel
theorem dX9_roll_98 : decode cX9_roll 98 = .ok (.ireturn, 1) := by decide +kernel
set_option maxRecDepth 20000 in
theorem ggX9_moves_X9_requirePlay : GoodIn wsX9_moves wsX9_requirePlay := goodIn_ca (goodIn_ca (goodIn_r _ [6, 7, 8, 1, 9, 10, 11, 5, 12, 13, 14, 15, 16, 17, 18, 19, 20, 21, 27, 28, 29, 30, 31, 32, 33, 34, 35, 36, 37, 38, 39, 40, 41, 42, 43, 44, 45, 46, 47, 48, 49, 50, 51, 52, 53] (by decide +kernel) (by decide +kernel)) (goodIn_sub (fun _ h => List.mem_cons_of_mem _ (List.mem_append_left _ (List.mem_append_right _ h))) (by decide +kernel))) (goodIn_sub (fun _ h => List.mem_cons_of_mem _ (List.mem_append_right _ h)) (by decide +kernel))
set_option maxRecDepth 20000 in
theorem gX9_moves_X9_requirePlay : GoodIn wsX9_moves (wsV RX9 191 RX9 yX9_requirePlay wsX9_requirePlay) := goodIn_app (goodIn_of _ (by decide +kernel)) ggX9_moves_X9_requirePlay
set_option maxRecDepth 20000 in
theorem ggX9_moves_X5_length : GoodIn wsX9_moves wsX5_length := goodIn_r _ [25, 26, 44, 45, 46, 47, 48, 49, 50, 51, 52, 53] (by decide +kernel) (by decide +kernel)
set_option maxRecDepth 20000 in
theorem gX9_moves_X5_length : GoodIn wsX9_moves (wsV RX9 194 RX5 yX5_length wsX5_length) := goodIn_app (goodIn_of _ (by decide +kernel)) ggX9_moves_X5_length
theorem dX9_moves_0 : decode cX9_moves 0 = .ok (.aload_n 0, 1) := by decide +kernel
theorem dX9_moves_1 : decode cX9_moves 1 = .ok (.iload_n 1, 1) := by decide +kernel
theorem dX9_moves_2 : decode cX9_moves 2 = .ok (.invokevirtual 191, 3) := by decide +kernel
theorem dX9_moves_5 : decode cX9_moves 5 = .ok (.aload_n 0, 1) := by decide +kernel
theorem dX9_moves_6 : decode cX9_moves 6 = .ok (.getfield 61, 3) := by decide +kernel
theorem dX9_moves_9 : decode cX9_moves 9 = .ok (.invokevirtual 194, 3) := by decide +kernel
theorem dX9_moves_12 : decode cX9_moves 12 = .ok (.ireturn, 1) := by decide +kernel
set_option maxRecDepth 20000 in
theorem ggX9_moveFrom_X9_requireMove : GoodIn wsX9_moveFrom wsX9_requireMove := goodIn_ca (goodIn_ca (goodIn_r _ [5, 6, 7, 8, 9, 10, 11, 4, 12, 13, 14, 15, 16, 17, 18, 19, 20, 21, 22, 23, 24, 25, 26, 27, 28, 29, 30, 31, 32, 33, 34, 35, 36, 37, 38, 42, 43, 44, 45, 46, 47, 48, 49, 50, 51, 52, 53, 54, 55, 56, 57, 58, 59, 60, 61, 62, 63, 64, 65, 66, 67, 68] (by decide +kernel) (by decide +kernel)) (goodIn_sub (fun _ h => List.mem_cons_of_mem _ (List.mem_append_left _ (List.mem_append_right _ h))) (by decide +kernel))) (goodIn_sub (fun _ h => List.mem_cons_of_mem _ (List.mem_append_right _ h)) (by decide +kernel))
set_option maxRecDepth 20000 in
theorem gX9_moveFrom_X9_requireMove : GoodIn wsX9_moveFrom (wsV RX9 197 RX9 yX9_requireMove wsX9_requireMove) := goodIn_app (goodIn_of _ (by decide +kernel)) ggX9_moveFrom_X9_requireMove
set_option maxRecDepth 20000 in
theorem ggX9_moveFrom_X9_fromOf : GoodIn wsX9_moveFrom wsX9_fromOf := goodIn_r _ [41] (by decide +kernel) (by decide +kernel)
set_option maxRecDepth 20000 in
theorem gX9_moveFrom_X9_fromOf : GoodIn wsX9_moveFrom (va_wsS RX9 201 yX9_fromOf wsX9_fromOf) := goodIn_app (goodIn_of _ (by decide +kernel)) ggX9_moveFrom_X9_fromOf
theorem dX9_moveFrom_0 : decode cX9_moveFrom 0 = .ok (.aload_n 0, 1) := by decide +kernel
theorem dX9_moveFrom_1 : decode cX9_moveFrom 1 = .ok (.iload_n 1, 1) := by decide +kernel
theorem dX9_moveFrom_2 : decode cX9_moveFrom 2 = .ok (.iload_n 2, 1) := by decide +kernel
theorem dX9_moveFrom_3 : decode cX9_moveFrom 3 = .ok (.invokevirtual 197, 3) := by decide +kernel
theorem dX9_moveFrom_6 : decode cX9_moveFrom 6 = .ok (.invokestatic 201, 3) := by decide +kernel
theorem dX9_moveFrom_9 : decode cX9_moveFrom 9 = .ok (.ireturn, 1) := by decide +kernel
set_option maxRecDepth 20000 in
theorem ggX9_moveTo_X9_requireMove : GoodIn wsX9_moveTo wsX9_requireMove := goodIn_ca (goodIn_ca (goodIn_r _ [9, 10, 11, 12, 13, 14, 15, 8, 16, 17, 18, 19, 20, 21, 22, 23, 24, 25, 26, 27, 28, 29, 30, 31, 32, 33, 34, 35, 36, 37, 38, 39, 40, 41, 42, 49, 50, 51, 52, 53, 54, 55, 56, 57, 58, 59, 60, 61, 62, 63, 64, 65, 66, 67, 68, 69, 70, 71, 72, 73, 74, 75] (by decide +kernel) (by decide +kernel)) (goodIn_sub (fun _ h => List.mem_cons_of_mem _ (List.mem_append_left _ (List.mem_append_right _ h))) (by decide +kernel))) (goodIn_sub (fun _ h => List.mem_cons_of_mem _ (List.mem_append_right _ h)) (by decide +kernel))
set_option maxRecDepth 20000 in
theorem gX9_moveTo_X9_requireMove : GoodIn wsX9_moveTo (wsV RX9 197 RX9 yX9_requireMove wsX9_requireMove) := goodIn_app (goodIn_of _ (by decide +kernel)) ggX9_moveTo_X9_requireMove
set_option maxRecDepth 20000 in
theorem ggX9_moveTo_X9_fromOf : GoodIn wsX9_moveTo wsX9_fromOf := goodIn_r _ [45] (by decide +kernel) (by decide +kernel)
set_option maxRecDepth 20000 in
theorem gX9_moveTo_X9_fromOf : GoodIn wsX9_moveTo (va_wsS RX9 201 yX9_fromOf wsX9_fromOf) := goodIn_app (goodIn_of _ (by decide +kernel)) ggX9_moveTo_X9_fromOf
set_option maxRecDepth 20000 in
theorem ggX9_moveTo_X9_dieOf : GoodIn wsX9_moveTo wsX9_dieOf := goodIn_r _ [48] (by decide +kernel) (by decide +kernel)
set_option maxRecDepth 20000 in
theorem gX9_moveTo_X9_dieOf : GoodIn wsX9_moveTo (va_wsS RX9 204 yX9_dieOf wsX9_dieOf) := goodIn_app (goodIn_of _ (by decide +kernel)) ggX9_moveTo_X9_dieOf
theorem dX9_moveTo_0 : decode cX9_moveTo 0 = .ok (.aload_n 0, 1) := by decide +kernel
theorem dX9_moveTo_1 : decode cX9_moveTo 1 = .ok (.iload_n 1, 1) := by decide +kernel
theorem dX9_moveTo_2 : decode cX9_moveTo 2 = .ok (.iload_n 2, 1) := by decide +kernel
theorem dX9_moveTo_3 : decode cX9_moveTo 3 = .ok (.invokevirtual 197, 3) := by decide +kernel
theorem dX9_moveTo_6 : decode cX9_moveTo 6 = .ok (.istore_n 3, 1) := by decide +kernel
theorem dX9_moveTo_7 : decode cX9_moveTo 7 = .ok (.iload_n 3, 1) := by decide +kernel
theorem dX9_moveTo_8 : decode cX9_moveTo 8 = .ok (.invokestatic 201, 3) := by decide +kernel
theorem dX9_moveTo_11 : decode cX9_moveTo 11 = .ok (.iload_n 3, 1) := by decide +kernel
theorem dX9_moveTo_12 : decode cX9_moveTo 12 = .ok (.invokestatic 204, 3) := by decide +kernel
theorem dX9_moveTo_15 : decode cX9_moveTo 15 = .ok (.isub, 1) := by decide +kernel
theorem dX9_moveTo_16 : decode cX9_moveTo 16 = .ok (.iconst 0, 1) := by decide +kernel
theorem dX9_moveTo_17 : decode cX9_moveTo 17 = .ok (.invokestatic 207, 3) := by decide +kernel
theorem dX9_moveTo_20 : decode cX9_moveTo 20 = .ok (.ireturn, 1) := by decide +kernel
set_option maxRecDepth 20000 in
theorem ggX9_move_X9_requirePhase : GoodIn wsX9_move wsX9_requirePhase := goodIn_ca (goodIn_r _ [10, 11, 12, 13, 54, 55, 56, 57, 58, 59, 60, 61, 62, 63, 64, 65, 66, 67, 68, 69, 70] (by decide +kernel) (by decide +kernel)) (goodIn_sub (fun _ h => List.mem_cons_of_mem _ (List.mem_append_right _ h)) (by decide +kernel))
set_option maxRecDepth 20000 in
theorem gX9_move_X9_requirePhase : GoodIn wsX9_move (wsV RX9 168 RX9 yX9_requirePhase wsX9_requirePhase) := goodIn_app (goodIn_of _ (by decide +kernel)) ggX9_move_X9_requirePhase
set_option maxRecDepth 20000 in
theorem ggX9_move_X6_isLeft : GoodIn wsX9_move wsX6_isLeft := goodIn_r _ [18, 19, 20, 21, 22, 71, 72, 73, 74, 75] (by decide +kernel) (by decide +kernel)
set_option maxRecDepth 20000 in
theorem gX9_move_X6_isLeft : GoodIn wsX9_move (wsV RX9 215 RX6 yX6_isLeft wsX6_isLeft) := goodIn_app (goodIn_of _ (by decide +kernel)) ggX9_move_X6_isLeft
set_option maxRecDepth 20000 in
theorem ggX9_move_X0_canStep : GoodIn wsX9_move wsX0_canStep := goodIn_r _ [27, 28, 29, 30, 26, 31, 32, 33, 34, 35, 36, 76] (by decide +kernel) (by decide +kernel)
set_option maxRecDepth 20000 in
theorem gX9_move_X0_canStep : GoodIn wsX9_move (wsV RX9 219 RX0 yX0_canStep wsX0_canStep) := goodIn_app (goodIn_of _ (by decide +kernel)) ggX9_move_X0_canStep
set_option maxRecDepth 20000 in
theorem ggX9_move_X6_use : GoodIn wsX9_move wsX6_use := goodIn_r _ [40, 19, 20, 22, 41, 71, 72, 73, 74, 75] (by decide +kernel) (by decide +kernel)
set_option maxRecDepth 20000 in
theorem gX9_move_X6_use : GoodIn wsX9_move (wsV RX9 228 RX6 yX6_use wsX6_use) := goodIn_app (goodIn_of _ (by decide +kernel)) ggX9_move_X6_use
set_option maxRecDepth 20000 in
theorem ggX9_move_X0_step : GoodIn wsX9_move wsX0_step := goodIn_r _ [45, 46, 47, 48, 49, 50, 51, 52, 26, 53, 32, 28, 29, 30, 31, 76] (by decide +kernel) (by decide +kernel)
set_option maxRecDepth 20000 in
theorem gX9_move_X0_step : GoodIn wsX9_move (wsV RX9 231 RX0 yX0_step wsX0_step) := goodIn_app (goodIn_of _ (by decide +kernel)) ggX9_move_X0_step
theorem dX9_move_0 : decode cX9_move 0 = .ok (.aload_n 0, 1) := by decide +kernel
theorem dX9_move_1 : decode cX9_move 1 = .ok (.bipush 114, 2) := by decide +kernel
theorem dX9_move_3 : decode cX9_move 3 = .ok (.invokevirtual 168, 3) := by decide +kernel
theorem dX9_move_6 : decode cX9_move 6 = .ok (.aload_n 0, 1) := by decide +kernel
theorem dX9_move_7 : decode cX9_move 7 = .ok (.getfield 40, 3) := by decide +kernel
theorem dX9_move_10 : decode cX9_move 10 = .ok (.iload_n 2, 1) := by decide +kernel
theorem dX9_move_11 : decode cX9_move 11 = .ok (.invokevirtual 215, 3) := by decide +kernel
theorem dX9_move_14 : decode cX9_move 14 = .ok (.ifCond .eq 19, 3) := by decide +kernel
theorem dX9_move_17 : decode cX9_move 17 = .ok (.aload_n 0, 1) := by decide +kernel
theorem dX9_move_18 : decode cX9_move 18 = .ok (.getfield 75, 3) := by decide +kernel
theorem dX9_move_21 : decode cX9_move 21 = .ok (.aload_n 0, 1) := by decide +kernel
theorem dX9_move_22 : decode cX9_move 22 = .ok (.getfield 85, 3) := by decide +kernel
theorem dX9_move_25 : decode cX9_move 25 = .ok (.iload_n 1, 1) := by decide +kernel
theorem dX9_move_26 : decode cX9_move 26 = .ok (.iload_n 2, 1) := by decide +kernel
theorem dX9_move_27 : decode cX9_move 27 = .ok (.invokevirtual 219, 3) := by decide +kernel
theorem dX9_move_30 : decode cX9_move 30 = .ok (.ifCond .ne 13, 3) := by decide +kernel
theorem dX9_move_33 : decode cX9_move 33 = .ok (.new 223, 3) := by decide +kernel
theorem dX9_move_36 : decode cX9_move 36 = .ok (.dup, 1) := by decide +kernel
theorem dX9_move_37 : decode cX9_move 37 = .ok (.ldc 225, 2) := by decide +kernel
theorem dX9_move_39 : decode cX9_move 39 = .ok (.invokespecial 227, 3) := by decide +kernel
theorem dX9_move_42 : decode cX9_move 42 = .ok (.athrow, 1) := by decide +kernel
theorem dX9_move_43 : decode cX9_move 43 = .ok (.aload_n 0, 1) := by decide +kernel
theorem dX9_move_44 : decode cX9_move 44 = .ok (.getfield 40, 3) := by decide +kernel
theorem dX9_move_47 : decode cX9_move 47 = .ok (.iload_n 2, 1) := by decide +kernel
theorem dX9_move_48 : decode cX9_move 48 = .ok (.invokevirtual 228, 3) := by decide +kernel
theorem dX9_move_51 : decode cX9_move 51 = .ok (.aload_n 0, 1) := by decide +kernel
theorem dX9_move_52 : decode cX9_move 52 = .ok (.getfield 75, 3) := by decide +kernel
theorem dX9_move_55 : decode cX9_move 55 = .ok (.aload_n 0, 1) := by decide +kernel
theorem dX9_move_56 : decode cX9_move 56 = .ok (.getfield 85, 3) := by decide +kernel
theorem dX9_move_59 : decode cX9_move 59 = .ok (.iload_n 1, 1) := by decide +kernel
theorem dX9_move_60 : decode cX9_move 60 = .ok (.iload_n 2, 1) := by decide +kernel
theorem dX9_move_61 : decode cX9_move 61 = .ok (.invokevirtual 231, 3) := by decide +kernel
theorem dX9_move_64 : decode cX9_move 64 = .ok (.ireturn, 1) := by decide +kernel
set_option maxRecDepth 20000 in
theorem ggX9_undo_X9_requirePhase : GoodIn wsX9_undo wsX9_requirePhase := goodIn_ca (goodIn_r _ [8, 9, 10, 11, 28, 29, 30, 31, 32, 33, 34, 35, 36, 37, 38, 39, 40, 41, 42, 43, 44] (by decide +kernel) (by decide +kernel)) (goodIn_sub (fun _ h => List.mem_cons_of_mem _ (List.mem_append_right _ h)) (by decide +kernel))
set_option maxRecDepth 20000 in
theorem gX9_undo_X9_requirePhase : GoodIn wsX9_undo (wsV RX9 168 RX9 yX9_requirePhase wsX9_requirePhase) := goodIn_app (goodIn_of _ (by decide +kernel)) ggX9_undo_X9_requirePhase
set_option maxRecDepth 20000 in
theorem ggX9_undo_X0_become : GoodIn wsX9_undo wsX0_become := goodIn_r _ [16, 17, 45] (by decide +kernel) (by decide +kernel)
set_option maxRecDepth 20000 in
theorem gX9_undo_X0_become : GoodIn wsX9_undo (wsV RX9 147 RX0 yX0_become wsX0_become) := goodIn_app (goodIn_of _ (by decide +kernel)) ggX9_undo_X0_become
set_option maxRecDepth 20000 in
theorem ggX9_undo_X6_takeBack : GoodIn wsX9_undo wsX6_takeBack := goodIn_r _ [22, 23, 24, 25, 26, 27, 46, 47, 48, 49, 50] (by decide +kernel) (by decide +kernel)
set_option maxRecDepth 20000 in
theorem gX9_undo_X6_takeBack : GoodIn wsX9_undo (wsV RX9 234 RX6 yX6_takeBack wsX6_takeBack) := goodIn_app (goodIn_of _ (by decide +kernel)) ggX9_undo_X6_takeBack
theorem dX9_undo_0 : decode cX9_undo 0 = .ok (.aload_n 0, 1) := by decide +kernel
theorem dX9_undo_1 : decode cX9_undo 1 = .ok (.bipush 114, 2) := by decide +kernel
theorem dX9_undo_3 : decode cX9_undo 3 = .ok (.invokevirtual 168, 3) := by decide +kernel
theorem dX9_undo_6 : decode cX9_undo 6 = .ok (.aload_n 0, 1) := by decide +kernel
theorem dX9_undo_7 : decode cX9_undo 7 = .ok (.getfield 75, 3) := by decide +kernel
theorem dX9_undo_10 : decode cX9_undo 10 = .ok (.aload_n 0, 1) := by decide +kernel
theorem dX9_undo_11 : decode cX9_undo 11 = .ok (.getfield 71, 3) := by decide +kernel
theorem dX9_undo_14 : decode cX9_undo 14 = .ok (.invokevirtual 147, 3) := by decide +kernel
theorem dX9_undo_17 : decode cX9_undo 17 = .ok (.aload_n 0, 1) := by decide +kernel
theorem dX9_undo_18 : decode cX9_undo 18 = .ok (.getfield 40, 3) := by decide +kernel
theorem dX9_undo_21 : decode cX9_undo 21 = .ok (.invokevirtual 234, 3) := by decide +kernel
theorem dX9_undo_24 : decode cX9_undo 24 = .ok (.ireturn, 1) := by decide +kernel
set_option maxRecDepth 20000 in
theorem ggX9_finish_X9_requirePhase : GoodIn wsX9_finish wsX9_requirePhase := goodIn_ca (goodIn_r _ [7, 8, 9, 10, 176, 177, 178, 179, 180, 181, 182, 183, 184, 185, 186, 187, 188, 189, 190, 191, 192] (by decide +kernel) (by decide +kernel)) (goodIn_sub (fun _ h => List.mem_cons_of_mem _ (List.mem_append_right _ h)) (by decide +kernel))
set_option maxRecDepth 20000 in
theorem gX9_finish_X9_requirePhase : GoodIn wsX9_finish (wsV RX9 168 RX9 yX9_requirePhase wsX9_requirePhase) := goodIn_app (goodIn_of _ (by decide +kernel)) ggX9_finish_X9_requirePhase
set_option maxRecDepth 20000 in
theorem ggX9_finish_X9_numberOfPlayToBoard : GoodIn wsX9_finish wsX9_numberOfPlayToBoard := goodIn_r _ [14, 15, 16, 17, 18, 19, 20, 21, 22, 23, 24, 25, 26, 27, 28, 29, 30, 31, 32, 33, 34, 35, 36, 37, 38, 39, 40, 41, 6, 42, 43, 44, 45, 46, 47, 48, 49, 50, 51, 52, 53, 54, 55, 56, 57, 58, 59, 60, 61, 62, 63, 64, 65, 66, 176, 177, 178, 179, 180, 181, 182, 183, 184, 185, 186, 187, 188, 189, 190, 191, 192, 193, 194, 195, 196, 197, 198, 199, 200, 201, 202, 203] (by decide +kernel) (by decide +kernel)
set_option maxRecDepth 20000 in
theorem gX9_finish_X9_numberOfPlayToBoard : GoodIn wsX9_finish (wsV RX9 237 RX9 yX9_numberOfPlayToBoard wsX9_numberOfPlayToBoard) := goodIn_app (goodIn_of _ (by decide +kernel)) ggX9_finish_X9_numberOfPlayToBoard
set_option maxRecDepth 20000 in
theorem ggX9_finish_X9_carryOut : GoodIn wsX9_finish wsX9_carryOut := goodIn_r _ [70, 15, 17, 18, 19, 71, 72, 73, 10, 32, 33, 34, 23, 35, 36, 37, 38, 39, 29, 40, 41, 6, 42, 43, 44, 45, 46, 47, 48, 49, 50, 51, 52, 53, 54, 55, 56, 57, 58, 31, 59, 60, 61, 62, 26, 27, 28, 30, 74, 75, 76, 77, 78, 79, 80, 81, 82, 83, 84, 85, 86, 87, 88, 89, 90, 91, 92, 93, 94, 95, 96, 97, 98, 99, 100, 101, 102, 103, 104, 105, 106, 107, 108, 109, 110, 111, 112, 113, 114, 115, 116, 117, 118, 119, 120, 121, 122, 123, 124, 125, 126, 127, 128, 129, 130, 131, 132, 133, 134, 135, 136, 137, 138, 139, 140, 141, 142, 143, 144, 145, 146, 147, 148, 149, 150, 151, 152, 153, 154, 155, 156, 157, 158, 159, 160, 161, 162, 163, 164, 165, 166, 167, 168, 169, 170, 171, 172, 173, 174, 175, 176, 177, 178, 179, 180, 181, 182, 183, 184, 185, 186, 187, 188, 189, 190, 191, 192, 193, 194, 195, 196, 197, 198, 199, 200, 201, 202, 203, 204, 205, 206, 207, 208, 209, 210, 211, 212, 213, 214, 215, 216, 217, 218, 219, 220, 221, 222, 223, 224, 225, 226, 227, 228] (by decide +kernel) (by decide +kernel)
set_option maxRecDepth 20000 in
theorem gX9_finish_X9_carryOut : GoodIn wsX9_finish (wsV RX9 212 RX9 yX9_carryOut wsX9_carryOut) := goodIn_app (goodIn_of _ (by decide +kernel)) ggX9_finish_X9_carryOut
theorem dX9_finish_0 : decode cX9_finish 0 = .ok (.aload_n 0, 1) := by decide +kernel
theorem dX9_finish_1 : decode cX9_finish 1 = .ok (.bipush 114, 2) := by decide +kernel
theorem dX9_finish_3 : decode cX9_finish 3 = .ok (.invokevirtual 168, 3) := by decide +kernel
theorem dX9_finish_6 : decode cX9_finish 6 = .ok (.aload_n 0, 1) := by decide +kernel
theorem dX9_finish_7 : decode cX9_finish 7 = .ok (.invokevirtual 237, 3) := by decide +kernel
theorem dX9_finish_10 : decode cX9_finish 10 = .ok (.istore_n 1, 1) := by decide +kernel
theorem dX9_finish_11 : decode cX9_finish 11 = .ok (.iload_n 1, 1) := by decide +kernel
theorem dX9_finish_12 : decode cX9_finish 12 = .ok (.ifCond .ge 13, 3) := by decide +kernel
theorem dX9_finish_15 : decode cX9_finish 15 = .ok (.new 223, 3) := by decide +kernel
theorem dX9_finish_18 : decode cX9_finish 18 = .ok (.dup, 1) := by decide +kernel
theorem dX9_finish_19 : decode cX9_finish 19 = .ok (.ldc 240, 2) := by decide +kernel
theorem dX9_finish_21 : decode cX9_finish 21 = .ok (.invokespecial 227, 3) := by decide +kernel
theorem dX9_finish_24 : decode cX9_finish 24 = .ok (.athrow, 1) := by decide +kernel
theorem dX9_finish_25 : decode cX9_finish 25 = .ok (.aload_n 0, 1) := by decide +kernel
theorem dX9_finish_26 : decode cX9_finish 26 = .ok (.iload_n 1, 1) := by decide +kernel
theorem dX9_finish_27 : decode cX9_finish 27 = .ok (.invokevirtual 212, 3) := by decide +kernel
theorem dX9_finish_30 : decode cX9_finish 30 = .ok (.pop, 1) := by decide +kernel
theorem dX9_finish_31 : decode cX9_finish 31 = .ok (.iload_n 1, 1) := by decide +kernel
theorem dX9_finish_32 : decode cX9_finish 32 = .ok (.ireturn, 1) := by decide +kernel
set_option maxRecDepth 20000 in
theorem ggX9_men_X9_requireSide : GoodIn wsX9_men wsX9_requireSide := goodIn_ca (goodIn_r _ [7, 8, 9] (by decide +kernel) (by decide +kernel)) (goodIn_sub (fun _ h => List.mem_cons_of_mem _ (List.mem_append_right _ h)) (by decide +kernel))
set_option maxRecDepth 20000 in
theorem gX9_men_X9_requireSide : GoodIn wsX9_men (va_wsS RX9 126 yX9_requireSide wsX9_requireSide) := goodIn_app (goodIn_of _ (by decide +kernel)) ggX9_men_X9_requireSide
set_option maxRecDepth 20000 in
theorem ggX9_men_X0_at : GoodIn wsX9_men wsX0_at := goodIn_r _ [14, 15, 33] (by decide +kernel) (by decide +kernel)
set_option maxRecDepth 20000 in
theorem gX9_men_X0_at : GoodIn wsX9_men (wsV RX9 247 RX0 yX0_at wsX0_at) := goodIn_app (goodIn_of _ (by decide +kernel)) ggX9_men_X0_at
theorem dX9_men_0 : decode cX9_men 0 = .ok (.iload_n 1, 1) := by decide +kernel
theorem dX9_men_1 : decode cX9_men 1 = .ok (.invokestatic 126, 3) := by decide +kernel
theorem dX9_men_4 : decode cX9_men 4 = .ok (.iload_n 2, 1) := by decide +kernel
theorem dX9_men_5 : decode cX9_men 5 = .ok (.ifCond .lt 9, 3) := by decide +kernel
theorem dX9_men_8 : decode cX9_men 8 = .ok (.iload_n 2, 1) := by decide +kernel
theorem dX9_men_9 : decode cX9_men 9 = .ok (.bipush 25, 2) := by decide +kernel
theorem dX9_men_11 : decode cX9_men 11 = .ok (.if_icmp .le 13, 3) := by decide +kernel
theorem dX9_men_14 : decode cX9_men 14 = .ok (.new 242, 3) := by decide +kernel
theorem dX9_men_17 : decode cX9_men 17 = .ok (.dup, 1) := by decide +kernel
theorem dX9_men_18 : decode cX9_men 18 = .ok (.ldc 244, 2) := by decide +kernel
theorem dX9_men_20 : decode cX9_men 20 = .ok (.invokespecial 246, 3) := by decide +kernel
theorem dX9_men_23 : decode cX9_men 23 = .ok (.athrow, 1) := by decide +kernel
theorem dX9_men_24 : decode cX9_men 24 = .ok (.aload_n 0, 1) := by decide +kernel
theorem dX9_men_25 : decode cX9_men 25 = .ok (.getfield 75, 3) := by decide +kernel
theorem dX9_men_28 : decode cX9_men 28 = .ok (.iload_n 1, 1) := by decide +kernel
theorem dX9_men_29 : decode cX9_men 29 = .ok (.iload_n 2, 1) := by decide +kernel
theorem dX9_men_30 : decode cX9_men 30 = .ok (.invokevirtual 247, 3) := by decide +kernel
theorem dX9_men_33 : decode cX9_men 33 = .ok (.ireturn, 1) := by decide +kernel
set_option maxRecDepth 20000 in
theorem ggX9_pips_X9_requireSide : GoodIn wsX9_pips wsX9_requireSide := goodIn_ca (goodIn_r _ [5, 6, 7] (by decide +kernel) (by decide +kernel)) (goodIn_sub (fun _ h => List.mem_cons_of_mem _ (List.mem_append_right _ h)) (by decide +kernel))
set_option maxRecDepth 20000 in
theorem gX9_pips_X9_requireSide : GoodIn wsX9_pips (va_wsS RX9 126 yX9_requireSide wsX9_requireSide) := goodIn_app (goodIn_of _ (by decide +kernel)) ggX9_pips_X9_requireSide
set_option maxRecDepth 20000 in
theorem ggX9_pips_X0_pipsOf : GoodIn wsX9_pips wsX0_pipsOf := goodIn_r _ [12, 13, 14, 15, 11, 16, 17, 35] (by decide +kernel) (by decide +kernel)
set_option maxRecDepth 20000 in
theorem gX9_pips_X0_pipsOf : GoodIn wsX9_pips (wsV RX9 250 RX0 yX0_pipsOf wsX0_pipsOf) := goodIn_app (goodIn_of _ (by decide +kernel)) ggX9_pips_X0_pipsOf
theorem dX9_pips_0 : decode cX9_pips 0 = .ok (.iload_n 1, 1) := by decide +kernel
theorem dX9_pips_1 : decode cX9_pips 1 = .ok (.invokestatic 126, 3) := by decide +kernel
theorem dX9_pips_4 : decode cX9_pips 4 = .ok (.aload_n 0, 1) := by decide +kernel
theorem dX9_pips_5 : decode cX9_pips 5 = .ok (.getfield 75, 3) := by decide +kernel
theorem dX9_pips_8 : decode cX9_pips 8 = .ok (.iload_n 1, 1) := by decide +kernel
theorem dX9_pips_9 : decode cX9_pips 9 = .ok (.invokevirtual 250, 3) := by decide +kernel
theorem dX9_pips_12 : decode cX9_pips 12 = .ok (.ireturn, 1) := by decide +kernel
theorem dX9_cube_0 : decode cX9_cube 0 = .ok (.aload_n 0, 1) := by decide +kernel
theorem dX9_cube_1 : decode cX9_cube 1 = .ok (.getfield 89, 3) := by decide +kernel
theorem dX9_cube_4 : decode cX9_cube 4 = .ok (.ireturn, 1) := by decide +kernel
theorem dX9_owner_0 : decode cX9_owner 0 = .ok (.aload_n 0, 1) := by decide +kernel
theorem dX9_owner_1 : decode cX9_owner 1 = .ok (.getfield 92, 3) := by decide +kernel
theorem dX9_owner_4 : decode cX9_owner 4 = .ok (.ireturn, 1) := by decide +kernel
set_option maxRecDepth 20000 in
theorem ggX9_offer_X9_requirePhase : GoodIn wsX9_offer wsX9_requirePhase := goodIn_ca (goodIn_r _ [12, 13, 14, 7, 21, 22, 23, 24, 25, 26, 27, 28, 29, 30, 31, 32, 33, 34, 35, 36, 37] (by decide +kernel) (by decide +kernel)) (goodIn_sub (fun _ h => List.mem_cons_of_mem _ (List.mem_append_right _ h)) (by decide +kernel))
set_option maxRecDepth 20000 in
theorem gX9_offer_X9_requirePhase : GoodIn wsX9_offer (wsV RX9 168 RX9 yX9_requirePhase wsX9_requirePhase) := goodIn_app (goodIn_of _ (by decide +kernel)) ggX9_offer_X9_requirePhase
set_option maxRecDepth 20000 in
theorem ggX9_offer_X4_isCrawford : GoodIn wsX9_offer wsX4_isCrawford := goodIn_r _ [19, 20, 38, 39, 40, 41, 42, 43, 44] (by decide +kernel) (by decide +kernel)
set_option maxRecDepth 20000 in
theorem gX9_offer_X4_isCrawford : GoodIn wsX9_offer (wsV RX9 155 RX4 yX4_isCrawford wsX4_isCrawford) := goodIn_app (goodIn_of _ (by decide +kernel)) ggX9_offer_X4_isCrawford
theorem dX9_offer_0 : decode cX9_offer 0 = .ok (.aload_n 0, 1) := by decide +kernel
theorem dX9_offer_1 : decode cX9_offer 1 = .ok (.bipush 100, 2) := by decide +kernel
theorem dX9_offer_3 : decode cX9_offer 3 = .ok (.invokevirtual 168, 3) := by decide +kernel
theorem dX9_offer_6 : decode cX9_offer 6 = .ok (.aload_n 0, 1) := by decide +kernel
theorem dX9_offer_7 : decode cX9_offer 7 = .ok (.getfield 89, 3) := by decide +kernel
theorem dX9_offer_10 : decode cX9_offer 10 = .ok (.bipush 64, 2) := by decide +kernel
theorem dX9_offer_12 : decode cX9_offer 12 = .ok (.if_icmp .ge 26, 3) := by decide +kernel
theorem dX9_offer_15 : decode cX9_offer 15 = .ok (.aload_n 0, 1) := by decide +kernel
theorem dX9_offer_16 : decode cX9_offer 16 = .ok (.getfield 92, 3) := by decide +kernel
theorem dX9_offer_19 : decode cX9_offer 19 = .ok (.iconst 1, 1) := by decide +kernel
theorem dX9_offer_20 : decode cX9_offer 20 = .ok (.aload_n 0, 1) := by decide +kernel
theorem dX9_offer_21 : decode cX9_offer 21 = .ok (.getfield 85, 3) := by decide +kernel
theorem dX9_offer_24 : decode cX9_offer 24 = .ok (.isub, 1) := by decide +kernel
theorem dX9_offer_25 : decode cX9_offer 25 = .ok (.if_icmp .eq 13, 3) := by decide +kernel
theorem dX9_offer_28 : decode cX9_offer 28 = .ok (.aload_n 0, 1) := by decide +kernel
theorem dX9_offer_29 : decode cX9_offer 29 = .ok (.getfield 10, 3) := by decide +kernel
theorem dX9_offer_32 : decode cX9_offer 32 = .ok (.invokevirtual 155, 3) := by decide +kernel
theorem dX9_offer_35 : decode cX9_offer 35 = .ok (.ifCond .eq 13, 3) := by decide +kernel
theorem dX9_offer_38 : decode cX9_offer 38 = .ok (.new 223, 3) := by decide +kernel
theorem dX9_offer_41 : decode cX9_offer 41 = .ok (.dup, 1) := by decide +kernel
theorem dX9_offer_42 : decode cX9_offer 42 = .ok (.ldc 253, 2) := by decide +kernel
theorem dX9_offer_44 : decode cX9_offer 44 = .ok (.invokespecial 227, 3) := by decide +kernel
theorem dX9_offer_47 : decode cX9_offer 47 = .ok (.athrow, 1) := by decide +kernel
theorem dX9_offer_48 : decode cX9_offer 48 = .ok (.aload_n 0, 1) := by decide +kernel
theorem dX9_offer_49 : decode cX9_offer 49 = .ok (.bipush 116, 2) := by decide +kernel
theorem dX9_offer_51 : decode cX9_offer 51 = .ok (.putfield 81, 3) := by decide +kernel
theorem dX9_offer_54 : decode cX9_offer 54 = .ok (.iconst 2, 1) := by decide +kernel
theorem dX9_offer_55 : decode cX9_offer 55 = .ok (.aload_n 0, 1) := by decide +kernel
theorem dX9_offer_56 : decode cX9_offer 56 = .ok (.getfield 89, 3) := by decide +kernel
theorem dX9_offer_59 : decode cX9_offer 59 = .ok (.imul, 1) := by decide +kernel
theorem dX9_offer_60 : decode cX9_offer 60 = .ok (.ireturn, 1) := by decide +kernel
set_option maxRecDepth 20000 in
theorem ggX9_take_X9_requirePhase : GoodIn wsX9_take wsX9_requirePhase := goodIn_ca (goodIn_r _ [5, 6, 7, 8, 16, 17, 18, 19, 20, 21, 22, 23, 24, 25, 26, 27, 28, 29, 30, 31, 32] (by decide +kernel) (by decide +kernel)) (goodIn_sub (fun _ h => List.mem_cons_of_mem _ (List.mem_append_right _ h)) (by decide +kernel))
set_option maxRecDepth 20000 in
theorem gX9_take_X9_requirePhase : GoodIn wsX9_take (wsV RX9 168 RX9 yX9_requirePhase wsX9_requirePhase) := goodIn_app (goodIn_of _ (by decide +kernel)) ggX9_take_X9_requirePhase
set_option maxRecDepth 20000 in
theorem ggX9_take_X9_turnCube : GoodIn wsX9_take wsX9_turnCube := goodIn_r _ [12, 13, 14, 15, 8, 16, 17, 18, 19, 20, 21, 22, 23, 24, 25, 26, 27, 28, 29, 30, 31, 32] (by decide +kernel) (by decide +kernel)
set_option maxRecDepth 20000 in
theorem gX9_take_X9_turnCube : GoodIn wsX9_take (wsV RX9 255 RX9 yX9_turnCube wsX9_turnCube) := goodIn_app (goodIn_of _ (by decide +kernel)) ggX9_take_X9_turnCube
theorem dX9_take_0 : decode cX9_take 0 = .ok (.aload_n 0, 1) := by decide +kernel
theorem dX9_take_1 : decode cX9_take 1 = .ok (.bipush 116, 2) := by decide +kernel
theorem dX9_take_3 : decode cX9_take 3 = .ok (.invokevirtual 168, 3) := by decide +kernel
theorem dX9_take_6 : decode cX9_take 6 = .ok (.aload_n 0, 1) := by decide +kernel
theorem dX9_take_7 : decode cX9_take 7 = .ok (.iconst 2, 1) := by decide +kernel
theorem dX9_take_8 : decode cX9_take 8 = .ok (.invokevirtual 255, 3) := by decide +kernel
theorem dX9_take_11 : decode cX9_take 11 = .ok (.ireturn, 1) := by decide +kernel
set_option maxRecDepth 20000 in
theorem ggX9_drop_X9_requirePhase : GoodIn wsX9_drop wsX9_requirePhase := goodIn_ca (goodIn_r _ [7, 8, 9, 10, 51, 52, 53, 54, 55, 56, 57, 58, 59, 60, 61, 62, 63, 64, 65, 66, 67] (by decide +kernel) (by decide +kernel)) (goodIn_sub (fun _ h => List.mem_cons_of_mem _ (List.mem_append_right _ h)) (by decide +kernel))
set_option maxRecDepth 20000 in
theorem gX9_drop_X9_requirePhase : GoodIn wsX9_drop (wsV RX9 168 RX9 yX9_requirePhase wsX9_requirePhase) := goodIn_app (goodIn_of _ (by decide +kernel)) ggX9_drop_X9_requirePhase
set_option maxRecDepth 20000 in
theorem ggX9_drop_X9_endGame : GoodIn wsX9_drop wsX9_endGame := goodIn_r _ [14, 10, 15, 16, 2, 17, 18, 19, 20, 21, 22, 23, 24, 25, 26, 27, 28, 29, 30, 31, 32, 33, 34, 35, 36, 37, 38, 39, 40, 41, 42, 43, 44, 45, 46, 47, 48, 49, 50, 51, 52, 53, 54, 55, 56, 57, 58, 59, 60, 61, 62, 63, 64, 65, 66, 67, 68, 69, 70, 71, 72, 73, 74, 75, 76, 77] (by decide +kernel) (by decide +kernel)
set_option maxRecDepth 20000 in
theorem gX9_drop_X9_endGame : GoodIn wsX9_drop (wsV RX9 258 RX9 yX9_endGame wsX9_endGame) := goodIn_app (goodIn_of _ (by decide +kernel)) ggX9_drop_X9_endGame
theorem dX9_drop_0 : decode cX9_drop 0 = .ok (.aload_n 0, 1) := by decide +kernel
theorem dX9_drop_1 : decode cX9_drop 1 = .ok (.bipush 116, 2) := by decide +kernel
theorem dX9_drop_3 : decode cX9_drop 3 = .ok (.invokevirtual 168, 3) := by decide +kernel
theorem dX9_drop_6 : decode cX9_drop 6 = .ok (.aload_n 0, 1) := by decide +kernel
theorem dX9_drop_7 : decode cX9_drop 7 = .ok (.aload_n 0, 1) := by decide +kernel
theorem dX9_drop_8 : decode cX9_drop 8 = .ok (.getfield 85, 3) := by decide +kernel
theorem dX9_drop_11 : decode cX9_drop 11 = .ok (.iconst 1, 1) := by decide +kernel
theorem dX9_drop_12 : decode cX9_drop 12 = .ok (.invokevirtual 258, 3) := by decide +kernel
theorem dX9_drop_15 : decode cX9_drop 15 = .ok (.aload_n 0, 1) := by decide +kernel
theorem dX9_drop_16 : decode cX9_drop 16 = .ok (.getfield 89, 3) := by decide +kernel
theorem dX9_drop_19 : decode cX9_drop 19 = .ok (.ireturn, 1) := by decide +kernel
set_option maxRecDepth 20000 in
theorem ggX9_beaver_X9_requirePhase : GoodIn wsX9_beaver wsX9_requirePhase := goodIn_ca (goodIn_r _ [9, 10, 11, 12, 26, 27, 28, 29, 30, 31, 32, 33, 34, 35, 36, 37, 38, 39, 40, 41, 42] (by decide +kernel) (by decide +kernel)) (goodIn_sub (fun _ h => List.mem_cons_of_mem _ (List.mem_append_right _ h)) (by decide +kernel))
set_option maxRecDepth 20000 in
theorem gX9_beaver_X9_requirePhase : GoodIn wsX9_beaver (wsV RX9 168 RX9 yX9_requirePhase wsX9_requirePhase) := goodIn_app (goodIn_of _ (by decide +kernel)) ggX9_beaver_X9_requirePhase
set_option maxRecDepth 20000 in
theorem ggX9_beaver_X4_isForMoney : GoodIn wsX9_beaver wsX4_isForMoney := goodIn_r _ [17, 18, 19, 43, 44, 45, 46, 47, 48, 49] (by decide +kernel) (by decide +kernel)
set_option maxRecDepth 20000 in
theorem gX9_beaver_X4_isForMoney : GoodIn wsX9_beaver (wsV RX9 261 RX4 yX4_isForMoney wsX4_isForMoney) := goodIn_app (goodIn_of _ (by decide +kernel)) ggX9_beaver_X4_isForMoney
set_option maxRecDepth 20000 in
theorem ggX9_beaver_X9_turnCube : GoodIn wsX9_beaver wsX9_turnCube := goodIn_r _ [23, 4, 24, 25, 12, 26, 27, 28, 29, 30, 31, 32, 33, 34, 35, 36, 37, 38, 39, 40, 41, 42] (by decide +kernel) (by decide +kernel)
set_option maxRecDepth 20000 in
theorem gX9_beaver_X9_turnCube : GoodIn wsX9_beaver (wsV RX9 255 RX9 yX9_turnCube wsX9_turnCube) := goodIn_app (goodIn_of _ (by decide +kernel)) ggX9_beaver_X9_turnCube
theorem dX9_beaver_0 : decode cX9_beaver 0 = .ok (.aload_n 0, 1) := by decide +kernel
theorem dX9_beaver_1 : decode cX9_beaver 1 = .ok (.bipush 116, 2) := by decide +kernel
theorem dX9_beaver_3 : decode cX9_beaver 3 = .ok (.invokevirtual 168, 3) := by decide +kernel
theorem dX9_beaver_6 : decode cX9_beaver 6 = .ok (.aload_n 0, 1) := by decide +kernel
theorem dX9_beaver_7 : decode cX9_beaver 7 = .ok (.getfield 10, 3) := by decide +kernel
theorem dX9_beaver_10 : decode cX9_beaver 10 = .ok (.invokevirtual 261, 3) := by decide +kernel
theorem dX9_beaver_13 : decode cX9_beaver 13 = .ok (.ifCond .eq 14, 3) := by decide +kernel
theorem dX9_beaver_16 : decode cX9_beaver 16 = .ok (.iconst 4, 1) := by decide +kernel
theorem dX9_beaver_17 : decode cX9_beaver 17 = .ok (.aload_n 0, 1) := by decide +kernel
theorem dX9_beaver_18 : decode cX9_beaver 18 = .ok (.getfield 89, 3) := by decide +kernel
theorem dX9_beaver_21 : decode cX9_beaver 21 = .ok (.imul, 1) := by decide +kernel
theorem dX9_beaver_22 : decode cX9_beaver 22 = .ok (.bipush 64, 2) := by decide +kernel
theorem dX9_beaver_24 : decode cX9_beaver 24 = .ok (.if_icmp .le 14, 3) := by decide +kernel
theorem dX9_beaver_27 : decode cX9_beaver 27 = .ok (.new 223, 3) := by decide +kernel
theorem dX9_beaver_30 : decode cX9_beaver 30 = .ok (.dup, 1) := by decide +kernel
theorem dX9_beaver_31 : decode cX9_beaver 31 = .ok (.ldc_w 264, 3) := by decide +kernel
theorem dX9_beaver_34 : decode cX9_beaver 34 = .ok (.invokespecial 227, 3) := by decide +kernel
theorem dX9_beaver_37 : decode cX9_beaver 37 = .ok (.athrow, 1) := by decide +kernel
theorem dX9_beaver_38 : decode cX9_beaver 38 = .ok (.aload_n 0, 1) := by decide +kernel
theorem dX9_beaver_39 : decode cX9_beaver 39 = .ok (.iconst 4, 1) := by decide +kernel
theorem dX9_beaver_40 : decode cX9_beaver 40 = .ok (.invokevirtual 255, 3) := by decide +kernel
theorem dX9_beaver_43 : decode cX9_beaver 43 = .ok (.ireturn, 1) := by decide +kernel
set_option maxRecDepth 20000 in
theorem ggX9_worth_X9_requireSide : GoodIn wsX9_worth wsX9_requireSide := goodIn_ca (goodIn_r _ [8, 9, 10] (by decide +kernel) (by decide +kernel)) (goodIn_sub (fun _ h => List.mem_cons_of_mem _ (List.mem_append_right _ h)) (by decide +kernel))
set_option maxRecDepth 20000 in
theorem gX9_worth_X9_requireSide : GoodIn wsX9_worth (va_wsS RX9 126 yX9_requireSide wsX9_requireSide) := goodIn_app (goodIn_of _ (by decide +kernel)) ggX9_worth_X9_requireSide
set_option maxRecDepth 20000 in
theorem ggX9_worth_X0_worthFor : GoodIn wsX9_worth wsX0_worthFor := goodIn_r _ [15, 16, 34] (by decide +kernel) (by decide +kernel)
set_option maxRecDepth 20000 in
theorem gX9_worth_X0_worthFor : GoodIn wsX9_worth (wsV RX9 266 RX0 yX0_worthFor wsX0_worthFor) := goodIn_app (goodIn_of _ (by decide +kernel)) ggX9_worth_X0_worthFor
theorem dX9_worth_0 : decode cX9_worth 0 = .ok (.iload_n 1, 1) := by decide +kernel
theorem dX9_worth_1 : decode cX9_worth 1 = .ok (.invokestatic 126, 3) := by decide +kernel
theorem dX9_worth_4 : decode cX9_worth 4 = .ok (.aload_n 0, 1) := by decide +kernel
theorem dX9_worth_5 : decode cX9_worth 5 = .ok (.getfield 81, 3) := by decide +kernel
theorem dX9_worth_8 : decode cX9_worth 8 = .ok (.bipush 45, 2) := by decide +kernel
theorem dX9_worth_10 : decode cX9_worth 10 = .ok (.if_icmp .ne 13, 3) := by decide +kernel
theorem dX9_worth_13 : decode cX9_worth 13 = .ok (.new 117, 3) := by decide +kernel
theorem dX9_worth_16 : decode cX9_worth 16 = .ok (.dup, 1) := by decide +kernel
theorem dX9_worth_17 : decode cX9_worth 17 = .ok (.ldc 158, 2) := by decide +kernel
theorem dX9_worth_19 : decode cX9_worth 19 = .ok (.invokespecial 121, 3) := by decide +kernel
theorem dX9_worth_22 : decode cX9_worth 22 = .ok (.athrow, 1) := by decide +kernel
theorem dX9_worth_23 : decode cX9_worth 23 = .ok (.aload_n 0, 1) := by decide +kernel
theorem dX9_worth_24 : decode cX9_worth 24 = .ok (.getfield 75, 3) := by decide +kernel
theorem dX9_worth_27 : decode cX9_worth 27 = .ok (.iload_n 1, 1) := by decide +kernel
theorem dX9_worth_28 : decode cX9_worth 28 = .ok (.invokevirtual 266, 3) := by decide +kernel
theorem dX9_worth_31 : decode cX9_worth 31 = .ok (.ireturn, 1) := by decide +kernel
set_option maxRecDepth 20000 in
theorem ggX9_best_X9_requirePhase : GoodIn wsX9_best wsX9_requirePhase := goodIn_ca (goodIn_r _ [6, 7, 8, 9, 16, 17, 18, 19, 20, 21, 22, 23, 24, 25, 26, 27, 28, 29, 30, 31, 32] (by decide +kernel) (by decide +kernel)) (goodIn_sub (fun _ h => List.mem_cons_of_mem _ (List.mem_append_right _ h)) (by decide +kernel))
set_option maxRecDepth 20000 in
theorem gX9_best_X9_requirePhase : GoodIn wsX9_best (wsV RX9 168 RX9 yX9_requirePhase wsX9_requirePhase) := goodIn_app (goodIn_of _ (by decide +kernel)) ggX9_best_X9_requirePhase
set_option maxRecDepth 20000 in
theorem ggX9_best_X5_numberOfGreatest : GoodIn wsX9_best wsX5_numberOfGreatest := goodIn_r _ [14, 15, 33, 34, 35, 36, 37, 38, 39, 40, 41, 42] (by decide +kernel) (by decide +kernel)
set_option maxRecDepth 20000 in
theorem gX9_best_X5_numberOfGreatest : GoodIn wsX9_best (wsV RX9 269 RX5 yX5_numberOfGreatest wsX5_numberOfGreatest) := goodIn_app (goodIn_of _ (by decide +kernel)) ggX9_best_X5_numberOfGreatest
theorem dX9_best_0 : decode cX9_best 0 = .ok (.aload_n 0, 1) := by decide +kernel
theorem dX9_best_1 : decode cX9_best 1 = .ok (.bipush 114, 2) := by decide +kernel
theorem dX9_best_3 : decode cX9_best 3 = .ok (.invokevirtual 168, 3) := by decide +kernel
theorem dX9_best_6 : decode cX9_best 6 = .ok (.aload_n 0, 1) := by decide +kernel
theorem dX9_best_7 : decode cX9_best 7 = .ok (.getfield 61, 3) := by decide +kernel
theorem dX9_best_10 : decode cX9_best 10 = .ok (.invokevirtual 269, 3) := by decide +kernel
theorem dX9_best_13 : decode cX9_best 13 = .ok (.ireturn, 1) := by decide +kernel
set_option maxRecDepth 20000 in
theorem ggX9_error_X9_requirePlay : GoodIn wsX9_error wsX9_requirePlay := goodIn_ca (goodIn_ca (goodIn_r _ [6, 7, 8, 1, 9, 10, 11, 5, 12, 13, 14, 15, 16, 17, 18, 19, 20, 21, 36, 37, 38, 39, 40, 41, 42, 43, 44, 45, 46, 47, 48, 49, 50, 51, 52, 53, 54, 55, 56, 57, 58, 59, 60, 61, 62] (by decide +kernel) (by decide +kernel)) (goodIn_sub (fun _ h => List.mem_cons_of_mem _ (List.mem_append_left _ (List.mem_append_right _ h))) (by decide +kernel))) (goodIn_sub (fun _ h => List.mem_cons_of_mem _ (List.mem_append_right _ h)) (by decide +kernel))
set_option maxRecDepth 20000 in
theorem gX9_error_X9_requirePlay : GoodIn wsX9_error (wsV RX9 191 RX9 yX9_requirePlay wsX9_requirePlay) := goodIn_app (goodIn_of _ (by decide +kernel)) ggX9_error_X9_requirePlay
set_option maxRecDepth 20000 in
theorem ggX9_error_X5_errorOf : GoodIn wsX9_error wsX5_errorOf := goodIn_r _ [25, 26, 27, 28, 19, 29, 30, 31, 32, 33, 34, 35, 53, 54, 55, 56, 57, 58, 59, 60, 61, 62] (by decide +kernel) (by decide +kernel)
set_option maxRecDepth 20000 in
theorem gX9_error_X5_errorOf : GoodIn wsX9_error (wsV RX9 272 RX5 yX5_errorOf wsX5_errorOf) := goodIn_app (goodIn_of _ (by decide +kernel)) ggX9_error_X5_errorOf
theorem dX9_error_0 : decode cX9_error 0 = .ok (.aload_n 0, 1) := by decide +kernel
theorem dX9_error_1 : decode cX9_error 1 = .ok (.iload_n 1, 1) := by decide +kernel
theorem dX9_error_2 : decode cX9_error 2 = .ok (.invokevirtual 191, 3) := by decide +kernel
theorem dX9_error_5 : decode cX9_error 5 = .ok (.aload_n 0, 1) := by decide +kernel
theorem dX9_error_6 : decode cX9_error 6 = .ok (.getfield 61, 3) := by decide +kernel
theorem dX9_error_9 : decode cX9_error 9 = .ok (.iload_n 1, 1) := by decide +kernel
theorem dX9_error_10 : decode cX9_error 10 = .ok (.invokevirtual 272, 3) := by decide +kernel
theorem dX9_error_13 : decode cX9_error 13 = .ok (.ireturn, 1) := by decide +kernel
set_option maxRecDepth 20000 in
theorem ggX9_deep_X9_requirePlay : GoodIn wsX9_deep wsX9_requirePlay := goodIn_ca (goodIn_ca (goodIn_r _ [11, 12, 13, 4, 14, 15, 16, 10, 17, 18, 19, 20, 21, 22, 23, 24, 25, 26, 146, 147, 148, 149, 150, 151, 152, 153, 154, 155, 156, 157, 158, 159, 160, 161, 162, 163, 164, 165, 166, 167, 168, 169, 170, 171, 172] (by decide +kernel) (by decide +kernel)) (goodIn_sub (fun _ h => List.mem_cons_of_mem _ (List.mem_append_left _ (List.mem_append_right _ h))) (by decide +kernel))) (goodIn_sub (fun _ h => List.mem_cons_of_mem _ (List.mem_append_right _ h)) (by decide +kernel))
set_option maxRecDepth 20000 in
theorem gX9_deep_X9_requirePlay : GoodIn wsX9_deep (wsV RX9 191 RX9 yX9_requirePlay wsX9_requirePlay) := goodIn_app (goodIn_of _ (by decide +kernel)) ggX9_deep_X9_requirePlay
set_option maxRecDepth 20000 in
theorem ggX9_deep_X0_become : GoodIn wsX9_deep wsX0_become := goodIn_r _ [31, 32, 173] (by decide +kernel) (by decide +kernel)
set_option maxRecDepth 20000 in
theorem gX9_deep_X0_become : GoodIn wsX9_deep (wsV RX9 147 RX0 yX0_become wsX0_become) := goodIn_app (goodIn_of _ (by decide +kernel)) ggX9_deep_X0_become
set_option maxRecDepth 20000 in
theorem ggX9_deep_X5_rowAt : GoodIn wsX9_deep wsX5_rowAt := goodIn_r _ [36, 37, 163, 164, 165, 166, 167, 168, 169, 170, 171, 172] (by decide +kernel) (by decide +kernel)
set_option maxRecDepth 20000 in
theorem gX9_deep_X5_rowAt : GoodIn wsX9_deep (wsV RX9 275 RX5 yX5_rowAt wsX5_rowAt) := goodIn_app (goodIn_of _ (by decide +kernel)) ggX9_deep_X5_rowAt
set_option maxRecDepth 20000 in
theorem ggX9_deep_X0_carry : GoodIn wsX9_deep wsX0_carry := goodIn_r _ [41, 42, 10, 43, 44, 45, 46, 47, 48, 49, 50, 30, 51, 52, 53, 54, 55, 56, 57, 58, 59, 32, 60, 61, 62, 63, 173] (by decide +kernel) (by decide +kernel)
set_option maxRecDepth 20000 in
theorem gX9_deep_X0_carry : GoodIn wsX9_deep (wsV RX9 278 RX0 yX0_carry wsX0_carry) := goodIn_app (goodIn_of _ (by decide +kernel)) ggX9_deep_X0_carry
set_option maxRecDepth 20000 in
theorem ggX9_deep_X5_collect : GoodIn wsX9_deep wsX5_collect := goodIn_r _ [67, 68, 69, 70, 28, 29, 30, 31, 32, 71, 72, 73, 24, 74, 75, 26, 76, 77, 78, 79, 80, 81, 82, 83, 60, 61, 62, 63, 84, 85, 86, 87, 88, 49, 50, 51, 52, 53, 54, 55, 56, 57, 58, 59, 89, 10, 90, 91, 92, 93, 94, 95, 96, 97, 98, 99, 100, 37, 101, 102, 103, 104, 105, 106, 107, 108, 109, 110, 111, 112, 113, 114, 115, 116, 117, 118, 119, 120, 121, 122, 123, 124, 125, 126, 127, 128, 129, 130, 131, 132, 133, 134, 135, 136, 137, 138, 139, 140, 141, 142, 143, 144, 163, 164, 165, 166, 167, 168, 169, 170, 171, 172, 173] (by decide +kernel) (by decide +kernel)
set_option maxRecDepth 20000 in
theorem gX9_deep_X5_collect : GoodIn wsX9_deep (wsV RX9 184 RX5 yX5_collect wsX5_collect) := goodIn_app (goodIn_of _ (by decide +kernel)) ggX9_deep_X5_collect
set_option maxRecDepth 20000 in
theorem ggX9_deep_X5_greatestWorth : GoodIn wsX9_deep wsX5_greatestWorth := goodIn_r _ [109, 76, 110, 111, 112, 24, 113, 101, 163, 164, 165, 166, 167, 168, 169, 170, 171, 172] (by decide +kernel) (by decide +kernel)
set_option maxRecDepth 20000 in
theorem gX9_deep_X5_greatestWorth : GoodIn wsX9_deep (wsV RX9 281 RX5 yX5_greatestWorth wsX5_greatestWorth) := goodIn_app (goodIn_of _ (by decide +kernel)) ggX9_deep_X5_greatestWorth
theorem dX9_deep_0 : decode cX9_deep 0 = .ok (.aload_n 0, 1) := by decide +kernel
theorem dX9_deep_1 : decode cX9_deep 1 = .ok (.iload_n 1, 1) := by decide +kernel
theorem dX9_deep_2 : decode cX9_deep 2 = .ok (.invokevirtual 191, 3) := by decide +kernel
theorem dX9_deep_5 : decode cX9_deep 5 = .ok (.aload_n 0, 1) := by decide +kernel
theorem dX9_deep_6 : decode cX9_deep 6 = .ok (.getfield 78, 3) := by decide +kernel
theorem dX9_deep_9 : decode cX9_deep 9 = .ok (.aload_n 0, 1) := by decide +kernel
theorem dX9_deep_10 : decode cX9_deep 10 = .ok (.getfield 71, 3) := by decide +kernel
theorem dX9_deep_13 : decode cX9_deep 13 = .ok (.invokevirtual 147, 3) := by decide +kernel
theorem dX9_deep_16 : decode cX9_deep 16 = .ok (.aload_n 0, 1) := by decide +kernel
theorem dX9_deep_17 : decode cX9_deep 17 = .ok (.getfield 78, 3) := by decide +kernel
theorem dX9_deep_20 : decode cX9_deep 20 = .ok (.aload_n 0, 1) := by decide +kernel
theorem dX9_deep_21 : decode cX9_deep 21 = .ok (.getfield 85, 3) := by decide +kernel
theorem dX9_deep_24 : decode cX9_deep 24 = .ok (.aload_n 0, 1) := by decide +kernel
theorem dX9_deep_25 : decode cX9_deep 25 = .ok (.getfield 61, 3) := by decide +kernel
theorem dX9_deep_28 : decode cX9_deep 28 = .ok (.iload_n 1, 1) := by decide +kernel
theorem dX9_deep_29 : decode cX9_deep 29 = .ok (.invokevirtual 275, 3) := by decide +kernel
theorem dX9_deep_32 : decode cX9_deep 32 = .ok (.invokevirtual 278, 3) := by decide +kernel
theorem dX9_deep_35 : decode cX9_deep 35 = .ok (.pop, 1) := by decide +kernel
theorem dX9_deep_36 : decode cX9_deep 36 = .ok (.lconst 0, 1) := by decide +kernel
theorem dX9_deep_37 : decode cX9_deep 37 = .ok (.lstore_n 2, 1) := by decide +kernel
theorem dX9_deep_38 : decode cX9_deep 38 = .ok (.iconst 1, 1) := by decide +kernel
theorem dX9_deep_39 : decode cX9_deep 39 = .ok (.istore 4, 2) := by decide +kernel
theorem dX9_deep_41 : decode cX9_deep 41 = .ok (.iload 4, 2) := by decide +kernel
theorem dX9_deep_43 : decode cX9_deep 43 = .ok (.bipush 6, 2) := by decide +kernel
theorem dX9_deep_45 : decode cX9_deep 45 = .ok (.if_icmp .gt 78, 3) := by decide +kernel
theorem dX9_deep_48 : decode cX9_deep 48 = .ok (.iload 4, 2) := by decide +kernel
theorem dX9_deep_50 : decode cX9_deep 50 = .ok (.istore 5, 2) := by decide +kernel
theorem dX9_deep_52 : decode cX9_deep 52 = .ok (.iload 5, 2) := by decide +kernel
theorem dX9_deep_54 : decode cX9_deep 54 = .ok (.bipush 6, 2) := by decide +kernel
theorem dX9_deep_56 : decode cX9_deep 56 = .ok (.if_icmp .gt 61, 3) := by decide +kernel
theorem dX9_deep_59 : decode cX9_deep 59 = .ok (.aload_n 0, 1) := by decide +kernel
theorem dX9_deep_60 : decode cX9_deep 60 = .ok (.getfield 65, 3) := by decide +kernel
theorem dX9_deep_63 : decode cX9_deep 63 = .ok (.aload_n 0, 1) := by decide +kernel
theorem dX9_deep_64 : decode cX9_deep 64 = .ok (.getfield 78, 3) := by decide +kernel
theorem dX9_deep_67 : decode cX9_deep 67 = .ok (.iconst 1, 1) := by decide +kernel
theorem dX9_deep_68 : decode cX9_deep 68 = .ok (.aload_n 0, 1) := by decide +kernel
theorem dX9_deep_69 : decode cX9_deep 69 = .ok (.getfield 85, 3) := by decide +kernel
theorem dX9_deep_72 : decode cX9_deep 72 = .ok (.isub, 1) := by decide +kernel
theorem dX9_deep_73 : decode cX9_deep 73 = .ok (.iload 5, 2) := by decide +kernel
theorem dX9_deep_75 : decode cX9_deep 75 = .ok (.iload 4, 2) := by decide +kernel
theorem dX9_deep_77 : decode cX9_deep 77 = .ok (.invokevirtual 184, 3) := by decide +kernel
theorem dX9_deep_80 : decode cX9_deep 80 = .ok (.aload_n 0, 1) := by decide +kernel
theorem dX9_deep_81 : decode cX9_deep 81 = .ok (.getfield 65, 3) := by decide +kernel
theorem dX9_deep_84 : decode cX9_deep 84 = .ok (.invokevirtual 281, 3) := by decide +kernel
theorem dX9_deep_87 : decode cX9_deep 87 = .ok (.i2l, 1) := by decide +kernel
theorem dX9_deep_88 : decode cX9_deep 88 = .ok (.lstore 6, 2) := by decide +kernel
theorem dX9_deep_90 : decode cX9_deep 90 = .ok (.lload_n 2, 1) := by decide +kernel
theorem dX9_deep_91 : decode cX9_deep 91 = .ok (.iload 5, 2) := by decide +kernel
theorem dX9_deep_93 : decode cX9_deep 93 = .ok (.iload 4, 2) := by decide +kernel
theorem dX9_deep_95 : decode cX9_deep 95 = .ok (.if_icmp .ne 8, 3) := by decide +kernel
theorem dX9_deep_98 : decode cX9_deep 98 = .ok (.lload 6, 2) := by decide +kernel
theorem dX9_deep_100 : decode cX9_deep 100 = .ok (.goto 9, 3) := by decide +kernel
theorem dX9_deep_103 : decode cX9_deep 103 = .ok (.ldc2_w 284, 3) := by decide +kernel
theorem dX9_deep_106 : decode cX9_deep 106 = .ok (.lload 6, 2) := by decide +kernel
theorem dX9_deep_108 : decode cX9_deep 108 = .ok (.lmul, 1) := by decide +kernel
theorem dX9_deep_109 : decode cX9_deep 109 = .ok (.ladd, 1) := by decide +kernel
theorem dX9_deep_110 : decode cX9_deep 110 = .ok (.lstore_n 2, 1) := by decide +kernel
theorem dX9_deep_111 : decode cX9_deep 111 = .ok (.iinc 5 1, 3) := by decide +kernel
theorem dX9_deep_114 : decode cX9_deep 114 = .ok (.goto (-62), 3) := by decide +kernel
theorem dX9_deep_117 : decode cX9_deep 117 = .ok (.iinc 4 1, 3) := by decide +kernel
theorem dX9_deep_120 : decode cX9_deep 120 = .ok (.goto (-79), 3) := by decide +kernel
theorem dX9_deep_123 : decode cX9_deep 123 = .ok (.lconst 0, 1) := by decide +kernel
theorem dX9_deep_124 : decode cX9_deep 124 = .ok (.lload_n 2, 1) := by decide +kernel
theorem dX9_deep_125 : decode cX9_deep 125 = .ok (.lsub, 1) := by decide +kernel
theorem dX9_deep_126 : decode cX9_deep 126 = .ok (.lreturn, 1) := by decide +kernel
set_option maxRecDepth 20000 in
theorem ggX9_chance_X9_requirePhase : GoodIn wsX9_chance wsX9_requirePhase := goodIn_ca (goodIn_r _ [10, 11, 12, 13, 71, 72, 73, 74, 75, 76, 77, 78, 79, 80, 81, 82, 83, 84, 85, 86, 87] (by decide +kernel) (by decide +kernel)) (goodIn_sub (fun _ h => List.mem_cons_of_mem _ (List.mem_append_right _ h)) (by decide +kernel))
set_option maxRecDepth 20000 in
theorem gX9_chance_X9_requirePhase : GoodIn wsX9_chance (wsV RX9 168 RX9 yX9_requirePhase wsX9_requirePhase) := goodIn_app (goodIn_of _ (by decide +kernel)) ggX9_chance_X9_requirePhase
set_option maxRecDepth 20000 in
theorem ggX9_chance_X0_isEnding : GoodIn wsX9_chance wsX0_isEnding := goodIn_r _ [18, 19, 20, 21, 17, 22, 23, 24, 25, 26, 27, 28, 29, 30, 31, 88] (by decide +kernel) (by decide +kernel)
set_option maxRecDepth 20000 in
theorem gX9_chance_X0_isEnding : GoodIn wsX9_chance (wsV RX9 286 RX0 yX0_isEnding wsX0_isEnding) := goodIn_app (goodIn_of _ (by decide +kernel)) ggX9_chance_X0_isEnding
set_option maxRecDepth 20000 in
theorem ggX9_chance_X0_lastTwo : GoodIn wsX9_chance wsX0_lastTwo := goodIn_r _ [35, 28, 29, 30, 17, 31, 23, 24, 25, 26, 27, 36, 37, 38, 39, 40, 41, 42, 43, 44, 45, 46, 88] (by decide +kernel) (by decide +kernel)
set_option maxRecDepth 20000 in
theorem gX9_chance_X0_lastTwo : GoodIn wsX9_chance (wsV RX9 291 RX0 yX0_lastTwo wsX0_lastTwo) := goodIn_app (goodIn_of _ (by decide +kernel)) ggX9_chance_X0_lastTwo
set_option maxRecDepth 20000 in
theorem ggX9_chance_X1_chanceOf : GoodIn wsX9_chance wsX1_chanceOf := goodIn_r _ [50, 51, 52, 53, 38, 54, 55, 56, 57, 58, 59, 60, 40, 41, 42, 43, 61, 37, 39, 44, 45, 46, 62, 63, 64, 65, 66, 67, 68, 69, 70, 89] (by decide +kernel) (by decide +kernel)
set_option maxRecDepth 20000 in
theorem gX9_chance_X1_chanceOf : GoodIn wsX9_chance (wsV RX9 294 RX1 yX1_chanceOf wsX1_chanceOf) := goodIn_app (goodIn_of _ (by decide +kernel)) ggX9_chance_X1_chanceOf
theorem dX9_chance_0 : decode cX9_chance 0 = .ok (.aload_n 0, 1) := by decide +kernel
theorem dX9_chance_1 : decode cX9_chance 1 = .ok (.bipush 100, 2) := by decide +kernel
theorem dX9_chance_3 : decode cX9_chance 3 = .ok (.invokevirtual 168, 3) := by decide +kernel
theorem dX9_chance_6 : decode cX9_chance 6 = .ok (.aload_n 0, 1) := by decide +kernel
theorem dX9_chance_7 : decode cX9_chance 7 = .ok (.getfield 71, 3) := by decide +kernel
theorem dX9_chance_10 : decode cX9_chance 10 = .ok (.iconst 0, 1) := by decide +kernel
theorem dX9_chance_11 : decode cX9_chance 11 = .ok (.invokevirtual 286, 3) := by decide +kernel
theorem dX9_chance_14 : decode cX9_chance 14 = .ok (.ifCond .eq 14, 3) := by decide +kernel
theorem dX9_chance_17 : decode cX9_chance 17 = .ok (.aload_n 0, 1) := by decide +kernel
theorem dX9_chance_18 : decode cX9_chance 18 = .ok (.getfield 71, 3) := by decide +kernel
theorem dX9_chance_21 : decode cX9_chance 21 = .ok (.iconst 1, 1) := by decide +kernel
theorem dX9_chance_22 : decode cX9_chance 22 = .ok (.invokevirtual 286, 3) := by decide +kernel
theorem dX9_chance_25 : decode cX9_chance 25 = .ok (.ifCond .ne 14, 3) := by decide +kernel
theorem dX9_chance_28 : decode cX9_chance 28 = .ok (.new 223, 3) := by decide +kernel
theorem dX9_chance_31 : decode cX9_chance 31 = .ok (.dup, 1) := by decide +kernel
theorem dX9_chance_32 : decode cX9_chance 32 = .ok (.ldc_w 289, 3) := by decide +kernel
theorem dX9_chance_35 : decode cX9_chance 35 = .ok (.invokespecial 227, 3) := by decide +kernel
theorem dX9_chance_38 : decode cX9_chance 38 = .ok (.athrow, 1) := by decide +kernel
theorem dX9_chance_39 : decode cX9_chance 39 = .ok (.aload_n 0, 1) := by decide +kernel
theorem dX9_chance_40 : decode cX9_chance 40 = .ok (.getfield 54, 3) := by decide +kernel
theorem dX9_chance_43 : decode cX9_chance 43 = .ok (.aload_n 0, 1) := by decide +kernel
theorem dX9_chance_44 : decode cX9_chance 44 = .ok (.getfield 71, 3) := by decide +kernel
theorem dX9_chance_47 : decode cX9_chance 47 = .ok (.aload_n 0, 1) := by decide +kernel
theorem dX9_chance_48 : decode cX9_chance 48 = .ok (.getfield 85, 3) := by decide +kernel
theorem dX9_chance_51 : decode cX9_chance 51 = .ok (.invokevirtual 291, 3) := by decide +kernel
theorem dX9_chance_54 : decode cX9_chance 54 = .ok (.aload_n 0, 1) := by decide +kernel
theorem dX9_chance_55 : decode cX9_chance 55 = .ok (.getfield 71, 3) := by decide +kernel
theorem dX9_chance_58 : decode cX9_chance 58 = .ok (.iconst 1, 1) := by decide +kernel
theorem dX9_chance_59 : decode cX9_chance 59 = .ok (.aload_n 0, 1) := by decide +kernel
theorem dX9_chance_60 : decode cX9_chance 60 = .ok (.getfield 85, 3) := by decide +kernel
theorem dX9_chance_63 : decode cX9_chance 63 = .ok (.isub, 1) := by decide +kernel
theorem dX9_chance_64 : decode cX9_chance 64 = .ok (.invokevirtual 291, 3) := by decide +kernel
theorem dX9_chance_67 : decode cX9_chance 67 = .ok (.invokevirtual 294, 3) := by decide +kernel
theorem dX9_chance_70 : decode cX9_chance 70 = .ok (.dreturn, 1) := by decide +kernel
set_option maxRecDepth 20000 in
theorem ggX9_setRate_X2_replaceRate : GoodIn wsX9_setRate wsX2_replaceRate := goodIn_r _ [8, 9, 27, 28] (by decide +kernel) (by decide +kernel)
set_option maxRecDepth 20000 in
theorem gX9_setRate_X2_replaceRate : GoodIn wsX9_setRate (wsV RX9 300 RX2 yX2_replaceRate wsX2_replaceRate) := goodIn_app (goodIn_of _ (by decide +kernel)) ggX9_setRate_X2_replaceRate
theorem dX9_setRate_0 : decode cX9_setRate 0 = .ok (.iload_n 1, 1) := by decide +kernel
theorem dX9_setRate_1 : decode cX9_setRate 1 = .ok (.ifCond .lt 9, 3) := by decide +kernel
theorem dX9_setRate_4 : decode cX9_setRate 4 = .ok (.iload_n 1, 1) := by decide +kernel
theorem dX9_setRate_5 : decode cX9_setRate 5 = .ok (.bipush 100, 2) := by decide +kernel
theorem dX9_setRate_7 : decode cX9_setRate 7 = .ok (.if_icmp .le 14, 3) := by decide +kernel
theorem dX9_setRate_10 : decode cX9_setRate 10 = .ok (.new 106, 3) := by decide +kernel
theorem dX9_setRate_13 : decode cX9_setRate 13 = .ok (.dup, 1) := by decide +kernel
theorem dX9_setRate_14 : decode cX9_setRate 14 = .ok (.ldc_w 298, 3) := by decide +kernel
theorem dX9_setRate_17 : decode cX9_setRate 17 = .ok (.invokespecial 110, 3) := by decide +kernel
theorem dX9_setRate_20 : decode cX9_setRate 20 = .ok (.athrow, 1) := by decide +kernel
theorem dX9_setRate_21 : decode cX9_setRate 21 = .ok (.aload_n 0, 1) := by decide +kernel
theorem dX9_setRate_22 : decode cX9_setRate 22 = .ok (.getfield 47, 3) := by decide +kernel
theorem dX9_setRate_25 : decode cX9_setRate 25 = .ok (.iload_n 1, 1) := by decide +kernel
theorem dX9_setRate_26 : decode cX9_setRate 26 = .ok (.invokevirtual 300, 3) := by decide +kernel
theorem dX9_setRate_29 : decode cX9_setRate 29 = .ok (.ireturn, 1) := by decide +kernel
set_option maxRecDepth 20000 in
theorem ggX9_equity_X2_of : GoodIn wsX9_equity wsX2_of := goodIn_r _ [8, 9, 10, 11, 12, 13, 14, 7, 15, 16, 34, 35] (by decide +kernel) (by decide +kernel)
set_option maxRecDepth 20000 in
theorem gX9_equity_X2_of : GoodIn wsX9_equity (wsV RX9 305 RX2 yX2_of wsX2_of) := goodIn_app (goodIn_of _ (by decide +kernel)) ggX9_equity_X2_of
theorem dX9_equity_0 : decode cX9_equity 0 = .ok (.iload_n 1, 1) := by decide +kernel
theorem dX9_equity_1 : decode cX9_equity 1 = .ok (.ifCond .lt 27, 3) := by decide +kernel
theorem dX9_equity_4 : decode cX9_equity 4 = .ok (.iload_n 1, 1) := by decide +kernel
theorem dX9_equity_5 : decode cX9_equity 5 = .ok (.bipush 25, 2) := by decide +kernel
theorem dX9_equity_7 : decode cX9_equity 7 = .ok (.if_icmp .gt 21, 3) := by decide +kernel
theorem dX9_equity_10 : decode cX9_equity 10 = .ok (.iload_n 2, 1) := by decide +kernel
theorem dX9_equity_11 : decode cX9_equity 11 = .ok (.ifCond .lt 17, 3) := by decide +kernel
theorem dX9_equity_14 : decode cX9_equity 14 = .ok (.iload_n 2, 1) := by decide +kernel
theorem dX9_equity_15 : decode cX9_equity 15 = .ok (.bipush 25, 2) := by decide +kernel
theorem dX9_equity_17 : decode cX9_equity 17 = .ok (.if_icmp .gt 11, 3) := by decide +kernel
theorem dX9_equity_20 : decode cX9_equity 20 = .ok (.iload_n 1, 1) := by decide +kernel
theorem dX9_equity_21 : decode cX9_equity 21 = .ok (.ifCond .ne 18, 3) := by decide +kernel
theorem dX9_equity_24 : decode cX9_equity 24 = .ok (.iload_n 2, 1) := by decide +kernel
theorem dX9_equity_25 : decode cX9_equity 25 = .ok (.ifCond .ne 14, 3) := by decide +kernel
theorem dX9_equity_28 : decode cX9_equity 28 = .ok (.new 106, 3) := by decide +kernel
theorem dX9_equity_31 : decode cX9_equity 31 = .ok (.dup, 1) := by decide +kernel
theorem dX9_equity_32 : decode cX9_equity 32 = .ok (.ldc_w 303, 3) := by decide +kernel
theorem dX9_equity_35 : decode cX9_equity 35 = .ok (.invokespecial 110, 3) := by decide +kernel
theorem dX9_equity_38 : decode cX9_equity 38 = .ok (.athrow, 1) := by decide +kernel
theorem dX9_equity_39 : decode cX9_equity 39 = .ok (.aload_n 0, 1) := by decide +kernel
theorem dX9_equity_40 : decode cX9_equity 40 = .ok (.getfield 47, 3) := by decide +kernel
theorem dX9_equity_43 : decode cX9_equity 43 = .ok (.iload_n 1, 1) := by decide +kernel
theorem dX9_equity_44 : decode cX9_equity 44 = .ok (.iload_n 2, 1) := by decide +kernel
theorem dX9_equity_45 : decode cX9_equity 45 = .ok (.invokevirtual 305, 3) := by decide +kernel
theorem dX9_equity_48 : decode cX9_equity 48 = .ok (.lreturn, 1) := by decide +kernel
set_option maxRecDepth 20000 in
theorem ggX9_seat_X4_isOpen : GoodIn wsX9_seat wsX4_isOpen := goodIn_r _ [12, 13, 55, 56, 57, 58, 59, 60, 61] (by decide +kernel) (by decide +kernel)
set_option maxRecDepth 20000 in
theorem gX9_seat_X4_isOpen : GoodIn wsX9_seat (wsV RX9 130 RX4 yX4_isOpen wsX4_isOpen) := goodIn_app (goodIn_of _ (by decide +kernel)) ggX9_seat_X4_isOpen
set_option maxRecDepth 20000 in
theorem ggX9_seat_X4_isForMoney : GoodIn wsX9_seat wsX4_isForMoney := goodIn_r _ [17, 13, 18, 55, 56, 57, 58, 59, 60, 61] (by decide +kernel) (by decide +kernel)
set_option maxRecDepth 20000 in
theorem gX9_seat_X4_isForMoney : GoodIn wsX9_seat (wsV RX9 261 RX4 yX4_isForMoney wsX4_isForMoney) := goodIn_app (goodIn_of _ (by decide +kernel)) ggX9_seat_X4_isForMoney
set_option maxRecDepth 20000 in
theorem ggX9_seat_X7_size : GoodIn wsX9_seat wsX7_size := goodIn_r _ [23, 24, 62, 63, 64] (by decide +kernel) (by decide +kernel)
set_option maxRecDepth 20000 in
theorem gX9_seat_X7_size : GoodIn wsX9_seat (wsV RX9 113 RX7 yX7_size wsX7_size) := goodIn_app (goodIn_of _ (by decide +kernel)) ggX9_seat_X7_size
set_option maxRecDepth 20000 in
theorem ggX9_seat_X7_invite : GoodIn wsX9_seat wsX7_invite := goodIn_r _ [28, 29, 30, 31, 32, 33, 34, 35, 24, 36, 37, 62, 63, 64] (by decide +kernel) (by decide +kernel)
set_option maxRecDepth 20000 in
theorem gX9_seat_X7_invite : GoodIn wsX9_seat (wsV RX9 313 RX7 yX7_invite wsX7_invite) := goodIn_app (goodIn_of _ (by decide +kernel)) ggX9_seat_X7_invite
theorem dX9_seat_0 : decode cX9_seat 0 = .ok (.iload_n 1, 1) := by decide +kernel
theorem dX9_seat_1 : decode cX9_seat 1 = .ok (.iconst 3, 1) := by decide +kernel
theorem dX9_seat_2 : decode cX9_seat 2 = .ok (.if_icmp .lt 9, 3) := by decide +kernel
theorem dX9_seat_5 : decode cX9_seat 5 = .ok (.iload_n 1, 1) := by decide +kernel
theorem dX9_seat_6 : decode cX9_seat 6 = .ok (.bipush 6, 2) := by decide +kernel
theorem dX9_seat_8 : decode cX9_seat 8 = .ok (.if_icmp .le 14, 3) := by decide +kernel
theorem dX9_seat_11 : decode cX9_seat 11 = .ok (.new 106, 3) := by decide +kernel
theorem dX9_seat_14 : decode cX9_seat 14 = .ok (.dup, 1) := by decide +kernel
theorem dX9_seat_15 : decode cX9_seat 15 = .ok (.ldc_w 309, 3) := by decide +kernel
theorem dX9_seat_18 : decode cX9_seat 18 = .ok (.invokespecial 110, 3) := by decide +kernel
theorem dX9_seat_21 : decode cX9_seat 21 = .ok (.athrow, 1) := by decide +kernel
theorem dX9_seat_22 : decode cX9_seat 22 = .ok (.aload_n 0, 1) := by decide +kernel
theorem dX9_seat_23 : decode cX9_seat 23 = .ok (.getfield 81, 3) := by decide +kernel
theorem dX9_seat_26 : decode cX9_seat 26 = .ok (.bipush 45, 2) := by decide +kernel
theorem dX9_seat_28 : decode cX9_seat 28 = .ok (.if_icmp .ne 23, 3) := by decide +kernel
theorem dX9_seat_31 : decode cX9_seat 31 = .ok (.aload_n 0, 1) := by decide +kernel
theorem dX9_seat_32 : decode cX9_seat 32 = .ok (.getfield 10, 3) := by decide +kernel
theorem dX9_seat_35 : decode cX9_seat 35 = .ok (.invokevirtual 130, 3) := by decide +kernel
theorem dX9_seat_38 : decode cX9_seat 38 = .ok (.ifCond .eq 24, 3) := by decide +kernel
theorem dX9_seat_41 : decode cX9_seat 41 = .ok (.aload_n 0, 1) := by decide +kernel
theorem dX9_seat_42 : decode cX9_seat 42 = .ok (.getfield 10, 3) := by decide +kernel
theorem dX9_seat_45 : decode cX9_seat 45 = .ok (.invokevirtual 261, 3) := by decide +kernel
theorem dX9_seat_48 : decode cX9_seat 48 = .ok (.ifCond .ne 14, 3) := by decide +kernel
theorem dX9_seat_51 : decode cX9_seat 51 = .ok (.new 117, 3) := by decide +kernel
theorem dX9_seat_54 : decode cX9_seat 54 = .ok (.dup, 1) := by decide +kernel
theorem dX9_seat_55 : decode cX9_seat 55 = .ok (.ldc_w 311, 3) := by decide +kernel
theorem dX9_seat_58 : decode cX9_seat 58 = .ok (.invokespecial 121, 3) := by decide +kernel
theorem dX9_seat_61 : decode cX9_seat 61 = .ok (.athrow, 1) := by decide +kernel
theorem dX9_seat_62 : decode cX9_seat 62 = .ok (.aload_n 0, 1) := by decide +kernel
theorem dX9_seat_63 : decode cX9_seat 63 = .ok (.getfield 19, 3) := by decide +kernel
theorem dX9_seat_66 : decode cX9_seat 66 = .ok (.invokevirtual 113, 3) := by decide +kernel
theorem dX9_seat_69 : decode cX9_seat 69 = .ok (.istore_n 2, 1) := by decide +kernel
theorem dX9_seat_70 : decode cX9_seat 70 = .ok (.aload_n 0, 1) := by decide +kernel
theorem dX9_seat_71 : decode cX9_seat 71 = .ok (.getfield 19, 3) := by decide +kernel
theorem dX9_seat_74 : decode cX9_seat 74 = .ok (.iload_n 1, 1) := by decide +kernel
theorem dX9_seat_75 : decode cX9_seat 75 = .ok (.invokevirtual 313, 3) := by decide +kernel
theorem dX9_seat_78 : decode cX9_seat 78 = .ok (.iload_n 2, 1) := by decide +kernel
theorem dX9_seat_79 : decode cX9_seat 79 = .ok (.ireturn, 1) := by decide +kernel
set_option maxRecDepth 20000 in
theorem ggX9_account_X7_size : GoodIn wsX9_account wsX7_size := goodIn_r _ [8, 9, 32, 33, 34] (by decide +kernel) (by decide +kernel)
set_option maxRecDepth 20000 in
theorem gX9_account_X7_size : GoodIn wsX9_account (wsV RX9 113 RX7 yX7_size wsX7_size) := goodIn_app (goodIn_of _ (by decide +kernel)) ggX9_account_X7_size
set_option maxRecDepth 20000 in
theorem ggX9_account_X7_balanceOf : GoodIn wsX9_account wsX7_balanceOf := goodIn_r _ [13, 14, 32, 33, 34] (by decide +kernel) (by decide +kernel)
set_option maxRecDepth 20000 in
theorem gX9_account_X7_balanceOf : GoodIn wsX9_account (wsV RX9 318 RX7 yX7_balanceOf wsX7_balanceOf) := goodIn_app (goodIn_of _ (by decide +kernel)) ggX9_account_X7_balanceOf
theorem dX9_account_0 : decode cX9_account 0 = .ok (.iload_n 1, 1) := by decide +kernel
theorem dX9_account_1 : decode cX9_account 1 = .ok (.ifCond .lt 14, 3) := by decide +kernel
theorem dX9_account_4 : decode cX9_account 4 = .ok (.iload_n 1, 1) := by decide +kernel
theorem dX9_account_5 : decode cX9_account 5 = .ok (.aload_n 0, 1) := by decide +kernel
theorem dX9_account_6 : decode cX9_account 6 = .ok (.getfield 19, 3) := by decide +kernel
theorem dX9_account_9 : decode cX9_account 9 = .ok (.invokevirtual 113, 3) := by decide +kernel
theorem dX9_account_12 : decode cX9_account 12 = .ok (.if_icmp .lt 14, 3) := by decide +kernel
theorem dX9_account_15 : decode cX9_account 15 = .ok (.new 242, 3) := by decide +kernel
theorem dX9_account_18 : decode cX9_account 18 = .ok (.dup, 1) := by decide +kernel
theorem dX9_account_19 : decode cX9_account 19 = .ok (.ldc_w 316, 3) := by decide +kernel
theorem dX9_account_22 : decode cX9_account 22 = .ok (.invokespecial 246, 3) := by decide +kernel
theorem dX9_account_25 : decode cX9_account 25 = .ok (.athrow, 1) := by decide +kernel
theorem dX9_account_26 : decode cX9_account 26 = .ok (.aload_n 0, 1) := by decide +kernel
theorem dX9_account_27 : decode cX9_account 27 = .ok (.getfield 19, 3) := by decide +kernel
theorem dX9_account_30 : decode cX9_account 30 = .ok (.iload_n 1, 1) := by decide +kernel
theorem dX9_account_31 : decode cX9_account 31 = .ok (.invokevirtual 318, 3) := by decide +kernel
theorem dX9_account_34 : decode cX9_account 34 = .ok (.lreturn, 1) := by decide +kernel
set_option maxRecDepth 20000 in
theorem ggX9_played_X3_turns : GoodIn wsX9_played wsX3_turns := goodIn_r _ [6, 7, 25, 26, 27, 28, 29, 30] (by decide +kernel) (by decide +kernel)
set_option maxRecDepth 20000 in
theorem gX9_played_X3_turns : GoodIn wsX9_played (wsV RX9 325 RX3 yX3_turns wsX3_turns) := goodIn_app (goodIn_of _ (by decide +kernel)) ggX9_played_X3_turns
theorem dX9_played_0 : decode cX9_played 0 = .ok (.aload_n 0, 1) := by decide +kernel
theorem dX9_played_1 : decode cX9_played 1 = .ok (.getfield 26, 3) := by decide +kernel
theorem dX9_played_4 : decode cX9_played 4 = .ok (.invokevirtual 325, 3) := by decide +kernel
theorem dX9_played_7 : decode cX9_played 7 = .ok (.ireturn, 1) := by decide +kernel
set_option maxRecDepth 20000 in
theorem ggX9_playedAt_X9_requireTurn : GoodIn wsX9_playedAt wsX9_requireTurn := goodIn_ca (goodIn_r _ [6, 7, 8, 1, 9, 10, 11, 12, 13, 14, 20, 21, 22, 23, 24, 25, 26, 27, 28, 29, 30, 31, 32, 33, 34, 35, 36, 37, 38, 39, 40, 41, 42] (by decide +kernel) (by decide +kernel)) (goodIn_sub (fun _ h => List.mem_cons_of_mem _ (List.mem_append_right _ h)) (by decide +kernel))
set_option maxRecDepth 20000 in
theorem gX9_playedAt_X9_requireTurn : GoodIn wsX9_playedAt (wsV RX9 328 RX9 yX9_requireTurn wsX9_requireTurn) := goodIn_app (goodIn_of _ (by decide +kernel)) ggX9_playedAt_X9_requireTurn
set_option maxRecDepth 20000 in
theorem ggX9_playedAt_X3_numberAt : GoodIn wsX9_playedAt wsX3_numberAt := goodIn_r _ [18, 19, 37, 38, 39, 40, 41, 42] (by decide +kernel) (by decide +kernel)
set_option maxRecDepth 20000 in
theorem gX9_playedAt_X3_numberAt : GoodIn wsX9_playedAt (wsV RX9 331 RX3 yX3_numberAt wsX3_numberAt) := goodIn_app (goodIn_of _ (by decide +kernel)) ggX9_playedAt_X3_numberAt
theorem dX9_playedAt_0 : decode cX9_playedAt 0 = .ok (.aload_n 0, 1) := by decide +kernel
theorem dX9_playedAt_1 : decode cX9_playedAt 1 = .ok (.iload_n 1, 1) := by decide +kernel
theorem dX9_playedAt_2 : decode cX9_playedAt 2 = .ok (.invokevirtual 328, 3) := by decide +kernel
theorem dX9_playedAt_5 : decode cX9_playedAt 5 = .ok (.aload_n 0, 1) := by decide +kernel
theorem dX9_playedAt_6 : decode cX9_playedAt 6 = .ok (.getfield 26, 3) := by decide +kernel
theorem dX9_playedAt_9 : decode cX9_playedAt 9 = .ok (.iload_n 1, 1) := by decide +kernel
theorem dX9_playedAt_10 : decode cX9_playedAt 10 = .ok (.invokevirtual 331, 3) := by decide +kernel
theorem dX9_playedAt_13 : decode cX9_playedAt 13 = .ok (.ireturn, 1) := by decide +kernel
set_option maxRecDepth 20000 in
theorem ggX9_rolledAt_X9_requireTurn : GoodIn wsX9_rolledAt wsX9_requireTurn := goodIn_ca (goodIn_r _ [6, 7, 8, 1, 9, 10, 11, 12, 13, 14, 20, 21, 22, 23, 24, 25, 26, 27, 28, 29, 30, 31, 32, 33, 34, 35, 36, 37, 38, 39, 40, 41, 42] (by decide +kernel) (by decide +kernel)) (goodIn_sub (fun _ h => List.mem_cons_of_mem _ (List.mem_append_right _ h)) (by decide +kernel))
set_option maxRecDepth 20000 in
theorem gX9_rolledAt_X9_requireTurn : GoodIn wsX9_rolledAt (wsV RX9 328 RX9 yX9_requireTurn wsX9_requireTurn) := goodIn_app (goodIn_of _ (by decide +kernel)) ggX9_rolledAt_X9_requireTurn
set_option maxRecDepth 20000 in
theorem ggX9_rolledAt_X3_diceAt : GoodIn wsX9_rolledAt wsX3_diceAt := goodIn_r _ [18, 19, 37, 38, 39, 40, 41, 42] (by decide +kernel) (by decide +kernel)
set_option maxRecDepth 20000 in
theorem gX9_rolledAt_X3_diceAt : GoodIn wsX9_rolledAt (wsV RX9 334 RX3 yX3_diceAt wsX3_diceAt) := goodIn_app (goodIn_of _ (by decide +kernel)) ggX9_rolledAt_X3_diceAt
theorem dX9_rolledAt_0 : decode cX9_rolledAt 0 = .ok (.aload_n 0, 1) := by decide +kernel
theorem dX9_rolledAt_1 : decode cX9_rolledAt 1 = .ok (.iload_n 1, 1) := by decide +kernel
theorem dX9_rolledAt_2 : decode cX9_rolledAt 2 = .ok (.invokevirtual 328, 3) := by decide +kernel
theorem dX9_rolledAt_5 : decode cX9_rolledAt 5 = .ok (.aload_n 0, 1) := by decide +kernel
theorem dX9_rolledAt_6 : decode cX9_rolledAt 6 = .ok (.getfield 26, 3) := by decide +kernel
theorem dX9_rolledAt_9 : decode cX9_rolledAt 9 = .ok (.iload_n 1, 1) := by decide +kernel
theorem dX9_rolledAt_10 : decode cX9_rolledAt 10 = .ok (.invokevirtual 334, 3) := by decide +kernel
theorem dX9_rolledAt_13 : decode cX9_rolledAt 13 = .ok (.ireturn, 1) := by decide +kernel
set_option maxRecDepth 20000 in
theorem ggX9_fairness_X8_unevenness : GoodIn wsX9_fairness wsX8_unevenness := goodIn_r _ [6, 7, 8, 26, 27, 28, 29] (by decide +kernel) (by decide +kernel)
set_option maxRecDepth 20000 in
theorem gX9_fairness_X8_unevenness : GoodIn wsX9_fairness (wsV RX9 337 RX8 yX8_unevenness wsX8_unevenness) := goodIn_app (goodIn_of _ (by decide +kernel)) ggX9_fairness_X8_unevenness
theorem dX9_fairness_0 : decode cX9_fairness 0 = .ok (.aload_n 0, 1) := by decide +kernel
theorem dX9_fairness_1 : decode cX9_fairness 1 = .ok (.getfield 33, 3) := by decide +kernel
theorem dX9_fairness_4 : decode cX9_fairness 4 = .ok (.invokevirtual 337, 3) := by decide +kernel
theorem dX9_fairness_7 : decode cX9_fairness 7 = .ok (.lreturn, 1) := by decide +kernel
set_option maxRecDepth 20000 in
theorem ggX9_isSound_X3_variant : GoodIn wsX9_isSound wsX3_variant := goodIn_r _ [10, 11, 97, 98, 99, 100, 101, 102] (by decide +kernel) (by decide +kernel)
set_option maxRecDepth 20000 in
theorem gX9_isSound_X3_variant : GoodIn wsX9_isSound (wsV RX9 355 RX3 yX3_variant wsX3_variant) := goodIn_app (goodIn_of _ (by decide +kernel)) ggX9_isSound_X3_variant
set_option maxRecDepth 20000 in
theorem ggX9_isSound_X9_layoutOf : GoodIn wsX9_isSound wsX9_layoutOf := goodIn_r _ [15, 16, 17, 18, 19] (by decide +kernel) (by decide +kernel)
set_option maxRecDepth 20000 in
theorem gX9_isSound_X9_layoutOf : GoodIn wsX9_isSound (va_wsS RX9 98 yX9_layoutOf wsX9_layoutOf) := goodIn_app (goodIn_of _ (by decide +kernel)) ggX9_isSound_X9_layoutOf
set_option maxRecDepth 20000 in
theorem ggX9_isSound_X9_menIn : GoodIn wsX9_isSound wsX9_menIn := goodIn_r _ [22] (by decide +kernel) (by decide +kernel)
set_option maxRecDepth 20000 in
theorem gX9_isSound_X9_menIn : GoodIn wsX9_isSound (va_wsS RX9 102 yX9_menIn wsX9_menIn) := goodIn_app (goodIn_of _ (by decide +kernel)) ggX9_isSound_X9_menIn
set_option maxRecDepth 20000 in
theorem ggX9_isSound_X0_total : GoodIn wsX9_isSound wsX0_total := goodIn_r _ [27, 28, 29, 30, 26, 31, 32, 103] (by decide +kernel) (by decide +kernel)
set_option maxRecDepth 20000 in
theorem gX9_isSound_X0_total : GoodIn wsX9_isSound (wsV RX9 356 RX0 yX0_total wsX0_total) := goodIn_app (goodIn_of _ (by decide +kernel)) ggX9_isSound_X0_total
set_option maxRecDepth 20000 in
theorem ggX9_isSound_X7_sum : GoodIn wsX9_isSound wsX7_sum := goodIn_r _ [37, 38, 104, 105, 106] (by decide +kernel) (by decide +kernel)
set_option maxRecDepth 20000 in
theorem gX9_isSound_X7_sum : GoodIn wsX9_isSound (wsV RX9 359 RX7 yX7_sum wsX7_sum) := goodIn_app (goodIn_of _ (by decide +kernel)) ggX9_isSound_X7_sum
set_option maxRecDepth 20000 in
theorem ggX9_isSound_X3_replay : GoodIn wsX9_isSound wsX3_replay := goodIn_r _ [42, 11, 43, 44, 45, 13, 14, 15, 16, 17, 18, 19, 46, 47, 48, 26, 49, 32, 50, 51, 52, 53, 54, 55, 56, 57, 58, 59, 60, 61, 62, 63, 64, 65, 66, 67, 68, 69, 70, 71, 72, 73, 74, 75, 28, 29, 30, 31, 97, 98, 99, 100, 101, 102, 103] (by decide +kernel) (by decide +kernel)
set_option maxRecDepth 20000 in
theorem gX9_isSound_X3_replay : GoodIn wsX9_isSound (wsV RX9 362 RX3 yX3_replay wsX3_replay) := goodIn_app (goodIn_of _ (by decide +kernel)) ggX9_isSound_X3_replay
set_option maxRecDepth 20000 in
theorem ggX9_isSound_X0_isLike : GoodIn wsX9_isSound wsX0_isLike := goodIn_r _ [79, 32, 103] (by decide +kernel) (by decide +kernel)
set_option maxRecDepth 20000 in
theorem gX9_isSound_X0_isLike : GoodIn wsX9_isSound (wsV RX9 365 RX0 yX0_isLike wsX0_isLike) := goodIn_app (goodIn_of _ (by decide +kernel)) ggX9_isSound_X0_isLike
theorem dX9_isSound_0 : decode cX9_isSound 0 = .ok (.aload_n 0, 1) := by decide +kernel
theorem dX9_isSound_1 : decode cX9_isSound 1 = .ok (.getfield 26, 3) := by decide +kernel
theorem dX9_isSound_4 : decode cX9_isSound 4 = .ok (.invokevirtual 355, 3) := by decide +kernel
theorem dX9_isSound_7 : decode cX9_isSound 7 = .ok (.invokestatic 98, 3) := by decide +kernel
theorem dX9_isSound_10 : decode cX9_isSound 10 = .ok (.invokestatic 102, 3) := by decide +kernel
theorem dX9_isSound_13 : decode cX9_isSound 13 = .ok (.istore_n 1, 1) := by decide +kernel
theorem dX9_isSound_14 : decode cX9_isSound 14 = .ok (.aload_n 0, 1) := by decide +kernel
theorem dX9_isSound_15 : decode cX9_isSound 15 = .ok (.getfield 75, 3) := by decide +kernel
theorem dX9_isSound_18 : decode cX9_isSound 18 = .ok (.iconst 0, 1) := by decide +kernel
theorem dX9_isSound_19 : decode cX9_isSound 19 = .ok (.invokevirtual 356, 3) := by decide +kernel
theorem dX9_isSound_22 : decode cX9_isSound 22 = .ok (.iload_n 1, 1) := by decide +kernel
theorem dX9_isSound_23 : decode cX9_isSound 23 = .ok (.if_icmp .ne 27, 3) := by decide +kernel
theorem dX9_isSound_26 : decode cX9_isSound 26 = .ok (.aload_n 0, 1) := by decide +kernel
theorem dX9_isSound_27 : decode cX9_isSound 27 = .ok (.getfield 75, 3) := by decide +kernel
theorem dX9_isSound_30 : decode cX9_isSound 30 = .ok (.iconst 1, 1) := by decide +kernel
theorem dX9_isSound_31 : decode cX9_isSound 31 = .ok (.invokevirtual 356, 3) := by decide +kernel
theorem dX9_isSound_34 : decode cX9_isSound 34 = .ok (.iload_n 1, 1) := by decide +kernel
theorem dX9_isSound_35 : decode cX9_isSound 35 = .ok (.if_icmp .ne 15, 3) := by decide +kernel
theorem dX9_isSound_38 : decode cX9_isSound 38 = .ok (.aload_n 0, 1) := by decide +kernel
theorem dX9_isSound_39 : decode cX9_isSound 39 = .ok (.getfield 19, 3) := by decide +kernel
theorem dX9_isSound_42 : decode cX9_isSound 42 = .ok (.invokevirtual 359, 3) := by decide +kernel
theorem dX9_isSound_45 : decode cX9_isSound 45 = .ok (.lconst 0, 1) := by decide +kernel
theorem dX9_isSound_46 : decode cX9_isSound 46 = .ok (.lcmp, 1) := by decide +kernel
theorem dX9_isSound_47 : decode cX9_isSound 47 = .ok (.ifCond .eq 5, 3) := by decide +kernel
theorem dX9_isSound_50 : decode cX9_isSound 50 = .ok (.iconst 0, 1) := by decide +kernel
theorem dX9_isSound_51 : decode cX9_isSound 51 = .ok (.ireturn, 1) := by decide +kernel
theorem dX9_isSound_52 : decode cX9_isSound 52 = .ok (.aload_n 0, 1) := by decide +kernel
theorem dX9_isSound_53 : decode cX9_isSound 53 = .ok (.getfield 26, 3) := by decide +kernel
theorem dX9_isSound_56 : decode cX9_isSound 56 = .ok (.aload_n 0, 1) := by decide +kernel
theorem dX9_isSound_57 : decode cX9_isSound 57 = .ok (.getfield 78, 3) := by decide +kernel
theorem dX9_isSound_60 : decode cX9_isSound 60 = .ok (.invokevirtual 362, 3) := by decide +kernel
theorem dX9_isSound_63 : decode cX9_isSound 63 = .ok (.aload_n 0, 1) := by decide +kernel
theorem dX9_isSound_64 : decode cX9_isSound 64 = .ok (.getfield 78, 3) := by decide +kernel
theorem dX9_isSound_67 : decode cX9_isSound 67 = .ok (.aload_n 0, 1) := by decide +kernel
theorem dX9_isSound_68 : decode cX9_isSound 68 = .ok (.getfield 71, 3) := by decide +kernel
theorem dX9_isSound_71 : decode cX9_isSound 71 = .ok (.invokevirtual 365, 3) := by decide +kernel
theorem dX9_isSound_74 : decode cX9_isSound 74 = .ok (.ireturn, 1) := by decide +kernel
theorem dX9_requireSide_0 : decode cX9_requireSide 0 = .ok (.iload_n 0, 1) := by decide +kernel
theorem dX9_requireSide_1 : decode cX9_requireSide 1 = .ok (.ifCond .eq 19, 3) := by decide +kernel
theorem dX9_requireSide_4 : decode cX9_requireSide 4 = .ok (.iload_n 0, 1) := by decide +kernel
theorem dX9_requireSide_5 : decode cX9_requireSide 5 = .ok (.iconst 1, 1) := by decide +kernel
theorem dX9_requireSide_6 : decode cX9_requireSide 6 = .ok (.if_icmp .eq 14, 3) := by decide +kernel
theorem dX9_requireSide_9 : decode cX9_requireSide 9 = .ok (.new 106, 3) := by decide +kernel
theorem dX9_requireSide_12 : decode cX9_requireSide 12 = .ok (.dup, 1) := by decide +kernel
theorem dX9_requireSide_13 : decode cX9_requireSide 13 = .ok (.ldc_w 369, 3) := by decide +kernel
theorem dX9_requireSide_16 : decode cX9_requireSide 16 = .ok (.invokespecial 110, 3) := by decide +kernel
theorem dX9_requireSide_19 : decode cX9_requireSide 19 = .ok (.athrow, 1) := by decide +kernel
theorem dX9_requireSide_20 : decode cX9_requireSide 20 = .ok (.return_, 1) := by decide +kernel
theorem dX9_requirePhase_0 : decode cX9_requirePhase 0 = .ok (.aload_n 0, 1) := by decide +kernel
theorem dX9_requirePhase_1 : decode cX9_requirePhase 1 = .ok (.getfield 81, 3) := by decide +kernel
theorem dX9_requirePhase_4 : decode cX9_requirePhase 4 = .ok (.iload_n 1, 1) := by decide +kernel
theorem dX9_requirePhase_5 : decode cX9_requirePhase 5 = .ok (.if_icmp .eq 14, 3) := by decide +kernel
theorem dX9_requirePhase_8 : decode cX9_requirePhase 8 = .ok (.new 117, 3) := by decide +kernel
theorem dX9_requirePhase_11 : decode cX9_requirePhase 11 = .ok (.dup, 1) := by decide +kernel
theorem dX9_requirePhase_12 : decode cX9_requirePhase 12 = .ok (.ldc_w 371, 3) := by decide +kernel
theorem dX9_requirePhase_15 : decode cX9_requirePhase 15 = .ok (.invokespecial 121, 3) := by decide +kernel
theorem dX9_requirePhase_18 : decode cX9_requirePhase 18 = .ok (.athrow, 1) := by decide +kernel
theorem dX9_requirePhase_19 : decode cX9_requirePhase 19 = .ok (.return_, 1) := by decide +kernel
set_option maxRecDepth 20000 in
theorem ggX9_requirePlay_X9_requirePhase : GoodIn wsX9_requirePlay wsX9_requirePhase := goodIn_ca (goodIn_r _ [8, 9, 10, 11, 18, 19, 20, 21, 22, 23, 24, 25, 26, 27, 28, 29, 30, 31, 32, 33, 34] (by decide +kernel) (by decide +kernel)) (goodIn_sub (fun _ h => List.mem_cons_of_mem _ (List.mem_append_right _ h)) (by decide +kernel))
set_option maxRecDepth 20000 in
theorem gX9_requirePlay_X9_requirePhase : GoodIn wsX9_requirePlay (wsV RX9 168 RX9 yX9_requirePhase wsX9_requirePhase) := goodIn_app (goodIn_of _ (by decide +kernel)) ggX9_requirePlay_X9_requirePhase
set_option maxRecDepth 20000 in
theorem ggX9_requirePlay_X5_count : GoodIn wsX9_requirePlay wsX5_count := goodIn_r _ [16, 17, 35, 36, 37, 38, 39, 40, 41, 42, 43, 44] (by decide +kernel) (by decide +kernel)
set_option maxRecDepth 20000 in
theorem gX9_requirePlay_X5_count : GoodIn wsX9_requirePlay (wsV RX9 188 RX5 yX5_count wsX5_count) := goodIn_app (goodIn_of _ (by decide +kernel)) ggX9_requirePlay_X5_count
theorem dX9_requirePlay_0 : decode cX9_requirePlay 0 = .ok (.aload_n 0, 1) := by decide +kernel
theorem dX9_requirePlay_1 : decode cX9_requirePlay 1 = .ok (.bipush 114, 2) := by decide +kernel
theorem dX9_requirePlay_3 : decode cX9_requirePlay 3 = .ok (.invokevirtual 168, 3) := by decide +kernel
theorem dX9_requirePlay_6 : decode cX9_requirePlay 6 = .ok (.iload_n 1, 1) := by decide +kernel
theorem dX9_requirePlay_7 : decode cX9_requirePlay 7 = .ok (.ifCond .lt 14, 3) := by decide +kernel
theorem dX9_requirePlay_10 : decode cX9_requirePlay 10 = .ok (.iload_n 1, 1) := by decide +kernel
theorem dX9_requirePlay_11 : decode cX9_requirePlay 11 = .ok (.aload_n 0, 1) := by decide +kernel
theorem dX9_requirePlay_12 : decode cX9_requirePlay 12 = .ok (.getfield 61, 3) := by decide +kernel
theorem dX9_requirePlay_15 : decode cX9_requirePlay 15 = .ok (.invokevirtual 188, 3) := by decide +kernel
theorem dX9_requirePlay_18 : decode cX9_requirePlay 18 = .ok (.if_icmp .lt 14, 3) := by decide +kernel
theorem dX9_requirePlay_21 : decode cX9_requirePlay 21 = .ok (.new 242, 3) := by decide +kernel
theorem dX9_requirePlay_24 : decode cX9_requirePlay 24 = .ok (.dup, 1) := by decide +kernel
theorem dX9_requirePlay_25 : decode cX9_requirePlay 25 = .ok (.ldc_w 373, 3) := by decide +kernel
theorem dX9_requirePlay_28 : decode cX9_requirePlay 28 = .ok (.invokespecial 246, 3) := by decide +kernel
theorem dX9_requirePlay_31 : decode cX9_requirePlay 31 = .ok (.athrow, 1) := by decide +kernel
theorem dX9_requirePlay_32 : decode cX9_requirePlay 32 = .ok (.return_, 1) := by decide +kernel
set_option maxRecDepth 20000 in
theorem ggX9_requireMove_X9_requirePlay : GoodIn wsX9_requireMove wsX9_requirePlay := goodIn_ca (goodIn_ca (goodIn_r _ [8, 1, 2, 3, 9, 10, 11, 7, 12, 13, 14, 15, 16, 17, 18, 19, 20, 21, 35, 36, 37, 38, 39, 40, 41, 42, 43, 44, 45, 46, 47, 48, 49, 50, 51, 52, 53, 54, 55, 56, 57, 58, 59, 60, 61] (by decide +kernel) (by decide +kernel)) (goodIn_sub (fun _ h => List.mem_cons_of_mem _ (List.mem_append_left _ (List.mem_append_right _ h))) (by decide +kernel))) (goodIn_sub (fun _ h => List.mem_cons_of_mem _ (List.mem_append_right _ h)) (by decide +kernel))
set_option maxRecDepth 20000 in
theorem gX9_requireMove_X9_requirePlay : GoodIn wsX9_requireMove (wsV RX9 191 RX9 yX9_requirePlay wsX9_requirePlay) := goodIn_app (goodIn_of _ (by decide +kernel)) ggX9_requireMove_X9_requirePlay
set_option maxRecDepth 20000 in
theorem ggX9_requireMove_X5_length : GoodIn wsX9_requireMove wsX5_length := goodIn_r _ [25, 26, 52, 53, 54, 55, 56, 57, 58, 59, 60, 61] (by decide +kernel) (by decide +kernel)
set_option maxRecDepth 20000 in
theorem gX9_requireMove_X5_length : GoodIn wsX9_requireMove (wsV RX9 194 RX5 yX5_length wsX5_length) := goodIn_app (goodIn_of _ (by decide +kernel)) ggX9_requireMove_X5_length
set_option maxRecDepth 20000 in
theorem ggX9_requireMove_X5_rowAt : GoodIn wsX9_requireMove wsX5_rowAt := goodIn_r _ [30, 31, 52, 53, 54, 55, 56, 57, 58, 59, 60, 61] (by decide +kernel) (by decide +kernel)
set_option maxRecDepth 20000 in
theorem gX9_requireMove_X5_rowAt : GoodIn wsX9_requireMove (wsV RX9 275 RX5 yX5_rowAt wsX5_rowAt) := goodIn_app (goodIn_of _ (by decide +kernel)) ggX9_requireMove_X5_rowAt
set_option maxRecDepth 20000 in
theorem ggX9_requireMove_X9_codeAt : GoodIn wsX9_requireMove wsX9_codeAt := goodIn_r _ [34] (by decide +kernel) (by decide +kernel)
set_option maxRecDepth 20000 in
theorem gX9_requireMove_X9_codeAt : GoodIn wsX9_requireMove (va_wsS RX9 377 yX9_codeAt wsX9_codeAt) := goodIn_app (goodIn_of _ (by decide +kernel)) ggX9_requireMove_X9_codeAt
theorem dX9_requireMove_0 : decode cX9_requireMove 0 = .ok (.aload_n 0, 1) := by decide +kernel
theorem dX9_requireMove_1 : decode cX9_requireMove 1 = .ok (.iload_n 1, 1) := by decide +kernel
theorem dX9_requireMove_2 : decode cX9_requireMove 2 = .ok (.invokevirtual 191, 3) := by decide +kernel
theorem dX9_requireMove_5 : decode cX9_requireMove 5 = .ok (.iload_n 2, 1) := by decide +kernel
theorem dX9_requireMove_6 : decode cX9_requireMove 6 = .ok (.ifCond .lt 14, 3) := by decide +kernel
theorem dX9_requireMove_9 : decode cX9_requireMove 9 = .ok (.iload_n 2, 1) := by decide +kernel
theorem dX9_requireMove_10 : decode cX9_requireMove 10 = .ok (.aload_n 0, 1) := by decide +kernel
theorem dX9_requireMove_11 : decode cX9_requireMove 11 = .ok (.getfield 61, 3) := by decide +kernel
theorem dX9_requireMove_14 : decode cX9_requireMove 14 = .ok (.invokevirtual 194, 3) := by decide +kernel
theorem dX9_requireMove_17 : decode cX9_requireMove 17 = .ok (.if_icmp .lt 14, 3) := by decide +kernel
theorem dX9_requireMove_20 : decode cX9_requireMove 20 = .ok (.new 242, 3) := by decide +kernel
theorem dX9_requireMove_23 : decode cX9_requireMove 23 = .ok (.dup, 1) := by decide +kernel
theorem dX9_requireMove_24 : decode cX9_requireMove 24 = .ok (.ldc_w 375, 3) := by decide +kernel
theorem dX9_requireMove_27 : decode cX9_requireMove 27 = .ok (.invokespecial 246, 3) := by decide +kernel
theorem dX9_requireMove_30 : decode cX9_requireMove 30 = .ok (.athrow, 1) := by decide +kernel
theorem dX9_requireMove_31 : decode cX9_requireMove 31 = .ok (.aload_n 0, 1) := by decide +kernel
theorem dX9_requireMove_32 : decode cX9_requireMove 32 = .ok (.getfield 61, 3) := by decide +kernel
theorem dX9_requireMove_35 : decode cX9_requireMove 35 = .ok (.iload_n 1, 1) := by decide +kernel
theorem dX9_requireMove_36 : decode cX9_requireMove 36 = .ok (.invokevirtual 275, 3) := by decide +kernel
theorem dX9_requireMove_39 : decode cX9_requireMove 39 = .ok (.iload_n 2, 1) := by decide +kernel
theorem dX9_requireMove_40 : decode cX9_requireMove 40 = .ok (.invokestatic 377, 3) := by decide +kernel
theorem dX9_requireMove_43 : decode cX9_requireMove 43 = .ok (.ireturn, 1) := by decide +kernel
set_option maxRecDepth 20000 in
theorem ggX9_requireTurn_X3_turns : GoodIn wsX9_requireTurn wsX3_turns := goodIn_r _ [8, 9, 27, 28, 29, 30, 31, 32] (by decide +kernel) (by decide +kernel)
set_option maxRecDepth 20000 in
theorem gX9_requireTurn_X3_turns : GoodIn wsX9_requireTurn (wsV RX9 325 RX3 yX3_turns wsX3_turns) := goodIn_app (goodIn_of _ (by decide +kernel)) ggX9_requireTurn_X3_turns
theorem dX9_requireTurn_0 : decode cX9_requireTurn 0 = .ok (.iload_n 1, 1) := by decide +kernel
theorem dX9_requireTurn_1 : decode cX9_requireTurn 1 = .ok (.ifCond .lt 14, 3) := by decide +kernel
theorem dX9_requireTurn_4 : decode cX9_requireTurn 4 = .ok (.iload_n 1, 1) := by decide +kernel
theorem dX9_requireTurn_5 : decode cX9_requireTurn 5 = .ok (.aload_n 0, 1) := by decide +kernel
theorem dX9_requireTurn_6 : decode cX9_requireTurn 6 = .ok (.getfield 26, 3) := by decide +kernel
theorem dX9_requireTurn_9 : decode cX9_requireTurn 9 = .ok (.invokevirtual 325, 3) := by decide +kernel
theorem dX9_requireTurn_12 : decode cX9_requireTurn 12 = .ok (.if_icmp .lt 14, 3) := by decide +kernel
theorem dX9_requireTurn_15 : decode cX9_requireTurn 15 = .ok (.new 242, 3) := by decide +kernel
theorem dX9_requireTurn_18 : decode cX9_requireTurn 18 = .ok (.dup, 1) := by decide +kernel
theorem dX9_requireTurn_19 : decode cX9_requireTurn 19 = .ok (.ldc_w 385, 3) := by decide +kernel
theorem dX9_requireTurn_22 : decode cX9_requireTurn 22 = .ok (.invokespecial 246, 3) := by decide +kernel
theorem dX9_requireTurn_25 : decode cX9_requireTurn 25 = .ok (.athrow, 1) := by decide +kernel
theorem dX9_requireTurn_26 : decode cX9_requireTurn 26 = .ok (.return_, 1) := by decide +kernel
theorem dX9_turnCube_0 : decode cX9_turnCube 0 = .ok (.aload_n 0, 1) := by decide +kernel
theorem dX9_turnCube_1 : decode cX9_turnCube 1 = .ok (.iload_n 1, 1) := by decide +kernel
theorem dX9_turnCube_2 : decode cX9_turnCube 2 = .ok (.aload_n 0, 1) := by decide +kernel
theorem dX9_turnCube_3 : decode cX9_turnCube 3 = .ok (.getfield 89, 3) := by decide +kernel
theorem dX9_turnCube_6 : decode cX9_turnCube 6 = .ok (.imul, 1) := by decide +kernel
theorem dX9_turnCube_7 : decode cX9_turnCube 7 = .ok (.putfield 89, 3) := by decide +kernel
theorem dX9_turnCube_10 : decode cX9_turnCube 10 = .ok (.aload_n 0, 1) := by decide +kernel
theorem dX9_turnCube_11 : decode cX9_turnCube 11 = .ok (.iconst 1, 1) := by decide +kernel
theorem dX9_turnCube_12 : decode cX9_turnCube 12 = .ok (.aload_n 0, 1) := by decide +kernel
theorem dX9_turnCube_13 : decode cX9_turnCube 13 = .ok (.getfield 85, 3) := by decide +kernel
theorem dX9_turnCube_16 : decode cX9_turnCube 16 = .ok (.isub, 1) := by decide +kernel
theorem dX9_turnCube_17 : decode cX9_turnCube 17 = .ok (.putfield 92, 3) := by decide +kernel
theorem dX9_turnCube_20 : decode cX9_turnCube 20 = .ok (.aload_n 0, 1) := by decide +kernel
theorem dX9_turnCube_21 : decode cX9_turnCube 21 = .ok (.bipush 100, 2) := by decide +kernel
theorem dX9_turnCube_23 : decode cX9_turnCube 23 = .ok (.putfield 81, 3) := by decide +kernel
theorem dX9_turnCube_26 : decode cX9_turnCube 26 = .ok (.aload_n 0, 1) := by decide +kernel
theorem dX9_turnCube_27 : decode cX9_turnCube 27 = .ok (.getfield 89, 3) := by decide +kernel
theorem dX9_turnCube_30 : decode cX9_turnCube 30 = .ok (.ireturn, 1) := by decide +kernel
set_option maxRecDepth 20000 in
theorem ggX9_carryOut_X5_rowAt : GoodIn wsX9_carryOut wsX5_rowAt := goodIn_r _ [13, 14, 167, 168, 169, 170, 171, 172, 173, 174, 175, 176] (by decide +kernel) (by decide +kernel)
set_option maxRecDepth 20000 in
theorem gX9_carryOut_X5_rowAt : GoodIn wsX9_carryOut (wsV RX9 275 RX5 yX5_rowAt wsX5_rowAt) := goodIn_app (goodIn_of _ (by decide +kernel)) ggX9_carryOut_X5_rowAt
set_option maxRecDepth 20000 in
theorem ggX9_carryOut_X0_carry : GoodIn wsX9_carryOut wsX0_carry := goodIn_r _ [19, 20, 21, 22, 23, 24, 25, 26, 27, 28, 29, 18, 30, 31, 32, 33, 34, 35, 36, 37, 38, 39, 40, 41, 42, 43, 177] (by decide +kernel) (by decide +kernel)
set_option maxRecDepth 20000 in
theorem gX9_carryOut_X0_carry : GoodIn wsX9_carryOut (wsV RX9 278 RX0 yX0_carry wsX0_carry) := goodIn_app (goodIn_of _ (by decide +kernel)) ggX9_carryOut_X0_carry
set_option maxRecDepth 20000 in
theorem ggX9_carryOut_X0_become : GoodIn wsX9_carryOut wsX0_become := goodIn_r _ [47, 39, 177] (by decide +kernel) (by decide +kernel)
set_option maxRecDepth 20000 in
theorem gX9_carryOut_X0_become : GoodIn wsX9_carryOut (wsV RX9 147 RX0 yX0_become wsX0_become) := goodIn_app (goodIn_of _ (by decide +kernel)) ggX9_carryOut_X0_become
set_option maxRecDepth 20000 in
theorem ggX9_carryOut_X6_asNumber : GoodIn wsX9_carryOut wsX6_asNumber := goodIn_r _ [52, 53, 54, 178, 179, 180, 181, 182] (by decide +kernel) (by decide +kernel)
set_option maxRecDepth 20000 in
theorem gX9_carryOut_X6_asNumber : GoodIn wsX9_carryOut (wsV RX9 387 RX6 yX6_asNumber wsX6_asNumber) := goodIn_app (goodIn_of _ (by decide +kernel)) ggX9_carryOut_X6_asNumber
set_option maxRecDepth 20000 in
theorem ggX9_carryOut_X3_add : GoodIn wsX9_carryOut wsX3_add := goodIn_r _ [59, 60, 61, 62, 63, 183, 184, 185, 186, 187, 188] (by decide +kernel) (by decide +kernel)
set_option maxRecDepth 20000 in
theorem gX9_carryOut_X3_add : GoodIn wsX9_carryOut (wsV RX9 390 RX3 yX3_add wsX3_add) := goodIn_app (goodIn_of _ (by decide +kernel)) ggX9_carryOut_X3_add
set_option maxRecDepth 20000 in
theorem ggX9_carryOut_X5_errorOf : GoodIn wsX9_carryOut wsX5_errorOf := goodIn_r _ [67, 68, 69, 70, 12, 71, 72, 73, 74, 75, 76, 77, 167, 168, 169, 170, 171, 172, 173, 174, 175, 176] (by decide +kernel) (by decide +kernel)
set_option maxRecDepth 20000 in
theorem gX9_carryOut_X5_errorOf : GoodIn wsX9_carryOut (wsV RX9 272 RX5 yX5_errorOf wsX5_errorOf) := goodIn_app (goodIn_of _ (by decide +kernel)) ggX9_carryOut_X5_errorOf
set_option maxRecDepth 20000 in
theorem ggX9_carryOut_X8_countPlay : GoodIn wsX9_carryOut wsX8_countPlay := goodIn_r _ [82, 83, 84, 85, 189, 190, 191, 192] (by decide +kernel) (by decide +kernel)
set_option maxRecDepth 20000 in
theorem gX9_carryOut_X8_countPlay : GoodIn wsX9_carryOut (wsV RX9 394 RX8 yX8_countPlay wsX8_countPlay) := goodIn_app (goodIn_of _ (by decide +kernel)) ggX9_carryOut_X8_countPlay
set_option maxRecDepth 20000 in
theorem ggX9_carryOut_X0_at : GoodIn wsX9_carryOut wsX0_at := goodIn_r _ [43, 39, 177] (by decide +kernel) (by decide +kernel)
set_option maxRecDepth 20000 in
theorem gX9_carryOut_X0_at : GoodIn wsX9_carryOut (wsV RX9 247 RX0 yX0_at wsX0_at) := goodIn_app (goodIn_of _ (by decide +kernel)) ggX9_carryOut_X0_at
set_option maxRecDepth 20000 in
theorem ggX9_carryOut_X0_total : GoodIn wsX9_carryOut wsX0_total := goodIn_r _ [90, 40, 41, 42, 18, 43, 39, 177] (by decide +kernel) (by decide +kernel)
set_option maxRecDepth 20000 in
theorem gX9_carryOut_X0_total : GoodIn wsX9_carryOut (wsV RX9 356 RX0 yX0_total wsX0_total) := goodIn_app (goodIn_of _ (by decide +kernel)) ggX9_carryOut_X0_total
set_option maxRecDepth 20000 in
theorem ggX9_carryOut_X9_kindAgainst : GoodIn wsX9_carryOut wsX9_kindAgainst := goodIn_r _ [94, 2, 95, 96, 86, 41, 42, 18, 43, 39, 97, 98, 99, 100, 101, 102, 103, 104, 105, 106, 107, 108, 109, 110, 111, 112, 40, 150, 151, 152, 153, 154, 155, 156, 157, 158, 159, 160, 161, 162, 163, 164, 165, 166, 177, 193, 194, 195, 196, 197, 198, 199] (by decide +kernel) (by decide +kernel)
set_option maxRecDepth 20000 in
theorem gX9_carryOut_X9_kindAgainst : GoodIn wsX9_carryOut (wsV RX9 397 RX9 yX9_kindAgainst wsX9_kindAgainst) := goodIn_app (goodIn_of _ (by decide +kernel)) ggX9_carryOut_X9_kindAgainst
set_option maxRecDepth 20000 in
theorem ggX9_carryOut_X9_endGame : GoodIn wsX9_carryOut wsX9_endGame := goodIn_r _ [116, 8, 117, 95, 96, 118, 119, 120, 121, 100, 122, 123, 124, 125, 108, 126, 127, 128, 129, 130, 131, 132, 133, 134, 135, 136, 137, 138, 139, 140, 141, 142, 143, 144, 145, 146, 147, 148, 149, 150, 151, 152, 153, 154, 155, 156, 157, 158, 159, 160, 161, 162, 163, 164, 165, 166, 193, 194, 195, 196, 197, 198, 199, 200, 201, 202] (by decide +kernel) (by decide +kernel)
set_option maxRecDepth 20000 in
theorem gX9_carryOut_X9_endGame : GoodIn wsX9_carryOut (wsV RX9 258 RX9 yX9_endGame wsX9_endGame) := goodIn_app (goodIn_of _ (by decide +kernel)) ggX9_carryOut_X9_endGame
theorem dX9_carryOut_0 : decode cX9_carryOut 0 = .ok (.aload_n 0, 1) := by decide +kernel
theorem dX9_carryOut_1 : decode cX9_carryOut 1 = .ok (.getfield 61, 3) := by decide +kernel
theorem dX9_carryOut_4 : decode cX9_carryOut 4 = .ok (.iload_n 1, 1) := by decide +kernel
theorem dX9_carryOut_5 : decode cX9_carryOut 5 = .ok (.invokevirtual 275, 3) := by decide +kernel
theorem dX9_carryOut_8 : decode cX9_carryOut 8 = .ok (.istore_n 2, 1) := by decide +kernel
theorem dX9_carryOut_9 : decode cX9_carryOut 9 = .ok (.aload_n 0, 1) := by decide +kernel
theorem dX9_carryOut_10 : decode cX9_carryOut 10 = .ok (.getfield 71, 3) := by decide +kernel
theorem dX9_carryOut_13 : decode cX9_carryOut 13 = .ok (.aload_n 0, 1) := by decide +kernel
theorem dX9_carryOut_14 : decode cX9_carryOut 14 = .ok (.getfield 85, 3) := by decide +kernel
theorem dX9_carryOut_17 : decode cX9_carryOut 17 = .ok (.iload_n 2, 1) := by decide +kernel
theorem dX9_carryOut_18 : decode cX9_carryOut 18 = .ok (.invokevirtual 278, 3) := by decide +kernel
theorem dX9_carryOut_21 : decode cX9_carryOut 21 = .ok (.istore_n 3, 1) := by decide +kernel
theorem dX9_carryOut_22 : decode cX9_carryOut 22 = .ok (.aload_n 0, 1) := by decide +kernel
theorem dX9_carryOut_23 : decode cX9_carryOut 23 = .ok (.getfield 75, 3) := by decide +kernel
theorem dX9_carryOut_26 : decode cX9_carryOut 26 = .ok (.aload_n 0, 1) := by decide +kernel
theorem dX9_carryOut_27 : decode cX9_carryOut 27 = .ok (.getfield 71, 3) := by decide +kernel
theorem dX9_carryOut_30 : decode cX9_carryOut 30 = .ok (.invokevirtual 147, 3) := by decide +kernel
theorem dX9_carryOut_33 : decode cX9_carryOut 33 = .ok (.aload_n 0, 1) := by decide +kernel
theorem dX9_carryOut_34 : decode cX9_carryOut 34 = .ok (.getfield 26, 3) := by decide +kernel
theorem dX9_carryOut_37 : decode cX9_carryOut 37 = .ok (.aload_n 0, 1) := by decide +kernel
theorem dX9_carryOut_38 : decode cX9_carryOut 38 = .ok (.getfield 40, 3) := by decide +kernel
theorem dX9_carryOut_41 : decode cX9_carryOut 41 = .ok (.invokevirtual 387, 3) := by decide +kernel
theorem dX9_carryOut_44 : decode cX9_carryOut 44 = .ok (.iload_n 1, 1) := by decide +kernel
theorem dX9_carryOut_45 : decode cX9_carryOut 45 = .ok (.iload_n 2, 1) := by decide +kernel
theorem dX9_carryOut_46 : decode cX9_carryOut 46 = .ok (.invokevirtual 390, 3) := by decide +kernel
theorem dX9_carryOut_49 : decode cX9_carryOut 49 = .ok (.aload_n 0, 1) := by decide +kernel
theorem dX9_carryOut_50 : decode cX9_carryOut 50 = .ok (.getfield 33, 3) := by decide +kernel
theorem dX9_carryOut_53 : decode cX9_carryOut 53 = .ok (.iload_n 3, 1) := by decide +kernel
theorem dX9_carryOut_54 : decode cX9_carryOut 54 = .ok (.aload_n 0, 1) := by decide +kernel
theorem dX9_carryOut_55 : decode cX9_carryOut 55 = .ok (.getfield 61, 3) := by decide +kernel
theorem dX9_carryOut_58 : decode cX9_carryOut 58 = .ok (.iload_n 1, 1) := by decide +kernel
theorem dX9_carryOut_59 : decode cX9_carryOut 59 = .ok (.invokevirtual 272, 3) := by decide +kernel
theorem dX9_carryOut_62 : decode cX9_carryOut 62 = .ok (.invokevirtual 394, 3) := by decide +kernel
theorem dX9_carryOut_65 : decode cX9_carryOut 65 = .ok (.aload_n 0, 1) := by decide +kernel
theorem dX9_carryOut_66 : decode cX9_carryOut 66 = .ok (.getfield 71, 3) := by decide +kernel
theorem dX9_carryOut_69 : decode cX9_carryOut 69 = .ok (.aload_n 0, 1) := by decide +kernel
theorem dX9_carryOut_70 : decode cX9_carryOut 70 = .ok (.getfield 85, 3) := by decide +kernel
theorem dX9_carryOut_73 : decode cX9_carryOut 73 = .ok (.iconst 0, 1) := by decide +kernel
theorem dX9_carryOut_74 : decode cX9_carryOut 74 = .ok (.invokevirtual 247, 3) := by decide +kernel
theorem dX9_carryOut_77 : decode cX9_carryOut 77 = .ok (.aload_n 0, 1) := by decide +kernel
theorem dX9_carryOut_78 : decode cX9_carryOut 78 = .ok (.getfield 71, 3) := by decide +kernel
theorem dX9_carryOut_81 : decode cX9_carryOut 81 = .ok (.aload_n 0, 1) := by decide +kernel
theorem dX9_carryOut_82 : decode cX9_carryOut 82 = .ok (.getfield 85, 3) := by decide +kernel
theorem dX9_carryOut_85 : decode cX9_carryOut 85 = .ok (.invokevirtual 356, 3) := by decide +kernel
theorem dX9_carryOut_88 : decode cX9_carryOut 88 = .ok (.if_icmp .ne 24, 3) := by decide +kernel
theorem dX9_carryOut_91 : decode cX9_carryOut 91 = .ok (.aload_n 0, 1) := by decide +kernel
theorem dX9_carryOut_92 : decode cX9_carryOut 92 = .ok (.aload_n 0, 1) := by decide +kernel
theorem dX9_carryOut_93 : decode cX9_carryOut 93 = .ok (.getfield 85, 3) := by decide +kernel
theorem dX9_carryOut_96 : decode cX9_carryOut 96 = .ok (.aload_n 0, 1) := by decide +kernel
theorem dX9_carryOut_97 : decode cX9_carryOut 97 = .ok (.iconst 1, 1) := by decide +kernel
theorem dX9_carryOut_98 : decode cX9_carryOut 98 = .ok (.aload_n 0, 1) := by decide +kernel
theorem dX9_carryOut_99 : decode cX9_carryOut 99 = .ok (.getfield 85, 3) := by decide +kernel
theorem dX9_carryOut_102 : decode cX9_carryOut 102 = .ok (.isub, 1) := by decide +kernel
theorem dX9_carryOut_103 : decode cX9_carryOut 103 = .ok (.invokevirtual 397, 3) := by decide +kernel
theorem dX9_carryOut_106 : decode cX9_carryOut 106 = .ok (.invokevirtual 258, 3) := by decide +kernel
theorem dX9_carryOut_109 : decode cX9_carryOut 109 = .ok (.goto 19, 3) := by decide +kernel
theorem dX9_carryOut_112 : decode cX9_carryOut 112 = .ok (.aload_n 0, 1) := by decide +kernel
theorem dX9_carryOut_113 : decode cX9_carryOut 113 = .ok (.iconst 1, 1) := by decide +kernel
theorem dX9_carryOut_114 : decode cX9_carryOut 114 = .ok (.aload_n 0, 1) := by decide +kernel
theorem dX9_carryOut_115 : decode cX9_carryOut 115 = .ok (.getfield 85, 3) := by decide +kernel
theorem dX9_carryOut_118 : decode cX9_carryOut 118 = .ok (.isub, 1) := by decide +kernel
theorem dX9_carryOut_119 : decode cX9_carryOut 119 = .ok (.putfield 85, 3) := by decide +kernel
theorem dX9_carryOut_122 : decode cX9_carryOut 122 = .ok (.aload_n 0, 1) := by decide +kernel
theorem dX9_carryOut_123 : decode cX9_carryOut 123 = .ok (.bipush 100, 2) := by decide +kernel
theorem dX9_carryOut_125 : decode cX9_carryOut 125 = .ok (.putfield 81, 3) := by decide +kernel
theorem dX9_carryOut_128 : decode cX9_carryOut 128 = .ok (.iload_n 3, 1) := by decide +kernel
theorem dX9_carryOut_129 : decode cX9_carryOut 129 = .ok (.ireturn, 1) := by decide +kernel
set_option maxRecDepth 20000 in
theorem ggX9_kindAgainst_X0_at : GoodIn wsX9_kindAgainst wsX0_at := goodIn_r _ [8, 9, 44] (by decide +kernel) (by decide +kernel)
set_option maxRecDepth 20000 in
theorem gX9_kindAgainst_X0_at : GoodIn wsX9_kindAgainst (wsV RX9 247 RX0 yX0_at wsX0_at) := goodIn_app (goodIn_of _ (by decide +kernel)) ggX9_kindAgainst_X0_at
set_option maxRecDepth 20000 in
theorem ggX9_kindAgainst_X4_isJacoby : GoodIn wsX9_kindAgainst wsX4_isJacoby := goodIn_r _ [14, 15, 16, 17, 18, 13, 19, 20, 21, 45, 46, 47, 48, 49, 50, 51] (by decide +kernel) (by decide +kernel)
set_option maxRecDepth 20000 in
theorem gX9_kindAgainst_X4_isJacoby : GoodIn wsX9_kindAgainst (wsV RX9 400 RX4 yX4_isJacoby wsX4_isJacoby) := goodIn_app (goodIn_of _ (by decide +kernel)) ggX9_kindAgainst_X4_isJacoby
set_option maxRecDepth 20000 in
theorem ggX9_kindAgainst_X0_farthest : GoodIn wsX9_kindAgainst wsX0_farthest := goodIn_r _ [25, 26, 5, 6, 7, 8, 9, 44] (by decide +kernel) (by decide +kernel)
set_option maxRecDepth 20000 in
theorem gX9_kindAgainst_X0_farthest : GoodIn wsX9_kindAgainst (wsV RX9 403 RX0 yX0_farthest wsX0_farthest) := goodIn_app (goodIn_of _ (by decide +kernel)) ggX9_kindAgainst_X0_farthest
theorem dX9_kindAgainst_0 : decode cX9_kindAgainst 0 = .ok (.aload_n 0, 1) := by decide +kernel
theorem dX9_kindAgainst_1 : decode cX9_kindAgainst 1 = .ok (.getfield 71, 3) := by decide +kernel
theorem dX9_kindAgainst_4 : decode cX9_kindAgainst 4 = .ok (.iload_n 1, 1) := by decide +kernel
theorem dX9_kindAgainst_5 : decode cX9_kindAgainst 5 = .ok (.iconst 0, 1) := by decide +kernel
theorem dX9_kindAgainst_6 : decode cX9_kindAgainst 6 = .ok (.invokevirtual 247, 3) := by decide +kernel
theorem dX9_kindAgainst_9 : decode cX9_kindAgainst 9 = .ok (.ifCond .gt 21, 3) := by decide +kernel
theorem dX9_kindAgainst_12 : decode cX9_kindAgainst 12 = .ok (.aload_n 0, 1) := by decide +kernel
theorem dX9_kindAgainst_13 : decode cX9_kindAgainst 13 = .ok (.getfield 10, 3) := by decide +kernel
theorem dX9_kindAgainst_16 : decode cX9_kindAgainst 16 = .ok (.invokevirtual 400, 3) := by decide +kernel
theorem dX9_kindAgainst_19 : decode cX9_kindAgainst 19 = .ok (.ifCond .eq 13, 3) := by decide +kernel
theorem dX9_kindAgainst_22 : decode cX9_kindAgainst 22 = .ok (.aload_n 0, 1) := by decide +kernel
theorem dX9_kindAgainst_23 : decode cX9_kindAgainst 23 = .ok (.getfield 89, 3) := by decide +kernel
theorem dX9_kindAgainst_26 : decode cX9_kindAgainst 26 = .ok (.iconst 1, 1) := by decide +kernel
theorem dX9_kindAgainst_27 : decode cX9_kindAgainst 27 = .ok (.if_icmp .ne 5, 3) := by decide +kernel
theorem dX9_kindAgainst_30 : decode cX9_kindAgainst 30 = .ok (.iconst 1, 1) := by decide +kernel
theorem dX9_kindAgainst_31 : decode cX9_kindAgainst 31 = .ok (.ireturn, 1) := by decide +kernel
theorem dX9_kindAgainst_32 : decode cX9_kindAgainst 32 = .ok (.aload_n 0, 1) := by decide +kernel
theorem dX9_kindAgainst_33 : decode cX9_kindAgainst 33 = .ok (.getfield 71, 3) := by decide +kernel
theorem dX9_kindAgainst_36 : decode cX9_kindAgainst 36 = .ok (.iload_n 1, 1) := by decide +kernel
theorem dX9_kindAgainst_37 : decode cX9_kindAgainst 37 = .ok (.invokevirtual 403, 3) := by decide +kernel
theorem dX9_kindAgainst_40 : decode cX9_kindAgainst 40 = .ok (.bipush 18, 2) := by decide +kernel
theorem dX9_kindAgainst_42 : decode cX9_kindAgainst 42 = .ok (.if_icmp .le 7, 3) := by decide +kernel
theorem dX9_kindAgainst_45 : decode cX9_kindAgainst 45 = .ok (.iconst 3, 1) := by decide +kernel
theorem dX9_kindAgainst_46 : decode cX9_kindAgainst 46 = .ok (.goto 4, 3) := by decide +kernel
theorem dX9_kindAgainst_49 : decode cX9_kindAgainst 49 = .ok (.iconst 2, 1) := by decide +kernel
theorem dX9_kindAgainst_50 : decode cX9_kindAgainst 50 = .ok (.ireturn, 1) := by decide +kernel
set_option maxRecDepth 20000 in
theorem ggX9_endGame_X4_addPoints : GoodIn wsX9_endGame wsX4_addPoints := goodIn_r _ [10, 11, 12, 13, 14, 15, 16, 17, 9, 18, 56, 57, 58, 59, 60, 61, 62] (by decide +kernel) (by decide +kernel)
set_option maxRecDepth 20000 in
theorem gX9_endGame_X4_addPoints : GoodIn wsX9_endGame (wsV RX9 406 RX4 yX4_addPoints wsX4_addPoints) := goodIn_app (goodIn_of _ (by decide +kernel)) ggX9_endGame_X4_addPoints
set_option maxRecDepth 20000 in
theorem ggX9_endGame_X7_settle : GoodIn wsX9_endGame wsX7_settle := goodIn_r _ [23, 24, 25, 26, 27, 22, 28, 29, 30, 31, 32, 33, 34, 35, 36, 37, 38, 63, 64, 65] (by decide +kernel) (by decide +kernel)
set_option maxRecDepth 20000 in
theorem gX9_endGame_X7_settle : GoodIn wsX9_endGame (wsV RX9 409 RX7 yX7_settle wsX7_settle) := goodIn_app (goodIn_of _ (by decide +kernel)) ggX9_endGame_X7_settle
theorem dX9_endGame_0 : decode cX9_endGame 0 = .ok (.aload_n 0, 1) := by decide +kernel
theorem dX9_endGame_1 : decode cX9_endGame 1 = .ok (.bipush 45, 2) := by decide +kernel
theorem dX9_endGame_3 : decode cX9_endGame 3 = .ok (.putfield 81, 3) := by decide +kernel
theorem dX9_endGame_6 : decode cX9_endGame 6 = .ok (.aload_n 0, 1) := by decide +kernel
theorem dX9_endGame_7 : decode cX9_endGame 7 = .ok (.iload_n 2, 1) := by decide +kernel
theorem dX9_endGame_8 : decode cX9_endGame 8 = .ok (.putfield 95, 3) := by decide +kernel
theorem dX9_endGame_11 : decode cX9_endGame 11 = .ok (.aload_n 0, 1) := by decide +kernel
theorem dX9_endGame_12 : decode cX9_endGame 12 = .ok (.getfield 10, 3) := by decide +kernel
theorem dX9_endGame_15 : decode cX9_endGame 15 = .ok (.iload_n 1, 1) := by decide +kernel
theorem dX9_endGame_16 : decode cX9_endGame 16 = .ok (.aload_n 0, 1) := by decide +kernel
theorem dX9_endGame_17 : decode cX9_endGame 17 = .ok (.getfield 89, 3) := by decide +kernel
theorem dX9_endGame_20 : decode cX9_endGame 20 = .ok (.iload_n 2, 1) := by decide +kernel
theorem dX9_endGame_21 : decode cX9_endGame 21 = .ok (.imul, 1) := by decide +kernel
theorem dX9_endGame_22 : decode cX9_endGame 22 = .ok (.invokevirtual 406, 3) := by decide +kernel
theorem dX9_endGame_25 : decode cX9_endGame 25 = .ok (.aload_n 0, 1) := by decide +kernel
theorem dX9_endGame_26 : decode cX9_endGame 26 = .ok (.getfield 19, 3) := by decide +kernel
theorem dX9_endGame_29 : decode cX9_endGame 29 = .ok (.iload_n 1, 1) := by decide +kernel
theorem dX9_endGame_30 : decode cX9_endGame 30 = .ok (.ifCond .ne 7, 3) := by decide +kernel
theorem dX9_endGame_33 : decode cX9_endGame 33 = .ok (.iconst 1, 1) := by decide +kernel
theorem dX9_endGame_34 : decode cX9_endGame 34 = .ok (.goto 4, 3) := by decide +kernel
theorem dX9_endGame_37 : decode cX9_endGame 37 = .ok (.iconst 0, 1) := by decide +kernel
theorem dX9_endGame_38 : decode cX9_endGame 38 = .ok (.aload_n 0, 1) := by decide +kernel
theorem dX9_endGame_39 : decode cX9_endGame 39 = .ok (.getfield 89, 3) := by decide +kernel
theorem dX9_endGame_42 : decode cX9_endGame 42 = .ok (.iload_n 2, 1) := by decide +kernel
theorem dX9_endGame_43 : decode cX9_endGame 43 = .ok (.imul, 1) := by decide +kernel
theorem dX9_endGame_44 : decode cX9_endGame 44 = .ok (.invokevirtual 409, 3) := by decide +kernel
theorem dX9_endGame_47 : decode cX9_endGame 47 = .ok (.return_, 1) := by decide +kernel
set_option maxRecDepth 20000 in
theorem ggX9_numberOfPlayToBoard_X5_count : GoodIn wsX9_numberOfPlayToBoard wsX5_count := goodIn_r _ [10, 11, 71, 72, 73, 74, 75, 76, 77, 78, 79, 80] (by decide +kernel) (by decide +kernel)
set_option maxRecDepth 20000 in
theorem gX9_numberOfPlayToBoard_X5_count : GoodIn wsX9_numberOfPlayToBoard (wsV RX9 188 RX5 yX5_count wsX5_count) := goodIn_app (goodIn_of _ (by decide +kernel)) ggX9_numberOfPlayToBoard_X5_count
set_option maxRecDepth 20000 in
theorem ggX9_numberOfPlayToBoard_X0_become : GoodIn wsX9_numberOfPlayToBoard wsX0_become := goodIn_r _ [16, 17, 81] (by decide +kernel) (by decide +kernel)
set_option maxRecDepth 20000 in
theorem gX9_numberOfPlayToBoard_X0_become : GoodIn wsX9_numberOfPlayToBoard (wsV RX9 147 RX0 yX0_become wsX0_become) := goodIn_app (goodIn_of _ (by decide +kernel)) ggX9_numberOfPlayToBoard_X0_become
set_option maxRecDepth 20000 in
theorem ggX9_numberOfPlayToBoard_X5_rowAt : GoodIn wsX9_numberOfPlayToBoard wsX5_rowAt := goodIn_r _ [21, 22, 71, 72, 73, 74, 75, 76, 77, 78, 79, 80] (by decide +kernel) (by decide +kernel)
set_option maxRecDepth 20000 in
theorem gX9_numberOfPlayToBoard_X5_rowAt : GoodIn wsX9_numberOfPlayToBoard (wsV RX9 275 RX5 yX5_rowAt wsX5_rowAt) := goodIn_app (goodIn_of _ (by decide +kernel)) ggX9_numberOfPlayToBoard_X5_rowAt
set_option maxRecDepth 20000 in
theorem ggX9_numberOfPlayToBoard_X0_carry : GoodIn wsX9_numberOfPlayToBoard wsX0_carry := goodIn_r _ [26, 27, 28, 29, 30, 31, 32, 33, 34, 35, 36, 15, 37, 38, 39, 40, 41, 42, 43, 44, 45, 17, 46, 47, 48, 49, 81] (by decide +kernel) (by decide +kernel)
set_option maxRecDepth 20000 in
theorem gX9_numberOfPlayToBoard_X0_carry : GoodIn wsX9_numberOfPlayToBoard (wsV RX9 278 RX0 yX0_carry wsX0_carry) := goodIn_app (goodIn_of _ (by decide +kernel)) ggX9_numberOfPlayToBoard_X0_carry
set_option maxRecDepth 20000 in
theorem ggX9_numberOfPlayToBoard_X0_isLike : GoodIn wsX9_numberOfPlayToBoard wsX0_isLike := goodIn_r _ [53, 17, 81] (by decide +kernel) (by decide +kernel)
set_option maxRecDepth 20000 in
theorem gX9_numberOfPlayToBoard_X0_isLike : GoodIn wsX9_numberOfPlayToBoard (wsV RX9 365 RX0 yX0_isLike wsX0_isLike) := goodIn_app (goodIn_of _ (by decide +kernel)) ggX9_numberOfPlayToBoard_X0_isLike
theorem dX9_numberOfPlayToBoard_0 : decode cX9_numberOfPlayToBoard 0 = .ok (.iconst 0, 1) := by decide +kernel
theorem dX9_numberOfPlayToBoard_1 : decode cX9_numberOfPlayToBoard 1 = .ok (.istore_n 1, 1) := by decide +kernel
theorem dX9_numberOfPlayToBoard_2 : decode cX9_numberOfPlayToBoard 2 = .ok (.iload_n 1, 1) := by decide +kernel
theorem dX9_numberOfPlayToBoard_3 : decode cX9_numberOfPlayToBoard 3 = .ok (.aload_n 0, 1) := by decide +kernel
theorem dX9_numberOfPlayToBoard_4 : decode cX9_numberOfPlayToBoard 4 = .ok (.getfield 61, 3) := by decide +kernel
theorem dX9_numberOfPlayToBoard_7 : decode cX9_numberOfPlayToBoard 7 = .ok (.invokevirtual 188, 3) := by decide +kernel
theorem dX9_numberOfPlayToBoard_10 : decode cX9_numberOfPlayToBoard 10 = .ok (.if_icmp .ge 56, 3) := by decide +kernel
theorem dX9_numberOfPlayToBoard_13 : decode cX9_numberOfPlayToBoard 13 = .ok (.aload_n 0, 1) := by decide +kernel
theorem dX9_numberOfPlayToBoard_14 : decode cX9_numberOfPlayToBoard 14 = .ok (.getfield 78, 3) := by decide +kernel
theorem dX9_numberOfPlayToBoard_17 : decode cX9_numberOfPlayToBoard 17 = .ok (.aload_n 0, 1) := by decide +kernel
theorem dX9_numberOfPlayToBoard_18 : decode cX9_numberOfPlayToBoard 18 = .ok (.getfield 71, 3) := by decide +kernel
theorem dX9_numberOfPlayToBoard_21 : decode cX9_numberOfPlayToBoard 21 = .ok (.invokevirtual 147, 3) := by decide +kernel
theorem dX9_numberOfPlayToBoard_24 : decode cX9_numberOfPlayToBoard 24 = .ok (.aload_n 0, 1) := by decide +kernel
theorem dX9_numberOfPlayToBoard_25 : decode cX9_numberOfPlayToBoard 25 = .ok (.getfield 78, 3) := by decide +kernel
theorem dX9_numberOfPlayToBoard_28 : decode cX9_numberOfPlayToBoard 28 = .ok (.aload_n 0, 1) := by decide +kernel
theorem dX9_numberOfPlayToBoard_29 : decode cX9_numberOfPlayToBoard 29 = .ok (.getfield 85, 3) := by decide +kernel
theorem dX9_numberOfPlayToBoard_32 : decode cX9_numberOfPlayToBoard 32 = .ok (.aload_n 0, 1) := by decide +kernel
theorem dX9_numberOfPlayToBoard_33 : decode cX9_numberOfPlayToBoard 33 = .ok (.getfield 61, 3) := by decide +kernel
theorem dX9_numberOfPlayToBoard_36 : decode cX9_numberOfPlayToBoard 36 = .ok (.iload_n 1, 1) := by decide +kernel
theorem dX9_numberOfPlayToBoard_37 : decode cX9_numberOfPlayToBoard 37 = .ok (.invokevirtual 275, 3) := by decide +kernel
theorem dX9_numberOfPlayToBoard_40 : decode cX9_numberOfPlayToBoard 40 = .ok (.invokevirtual 278, 3) := by decide +kernel
theorem dX9_numberOfPlayToBoard_43 : decode cX9_numberOfPlayToBoard 43 = .ok (.pop, 1) := by decide +kernel
theorem dX9_numberOfPlayToBoard_44 : decode cX9_numberOfPlayToBoard 44 = .ok (.aload_n 0, 1) := by decide +kernel
theorem dX9_numberOfPlayToBoard_45 : decode cX9_numberOfPlayToBoard 45 = .ok (.getfield 78, 3) := by decide +kernel
theorem dX9_numberOfPlayToBoard_48 : decode cX9_numberOfPlayToBoard 48 = .ok (.aload_n 0, 1) := by decide +kernel
theorem dX9_numberOfPlayToBoard_49 : decode cX9_numberOfPlayToBoard 49 = .ok (.getfield 75, 3) := by decide +kernel
theorem dX9_numberOfPlayToBoard_52 : decode cX9_numberOfPlayToBoard 52 = .ok (.invokevirtual 365, 3) := by decide +kernel
theorem dX9_numberOfPlayToBoard_55 : decode cX9_numberOfPlayToBoard 55 = .ok (.ifCond .eq 5, 3) := by decide +kernel
theorem dX9_numberOfPlayToBoard_58 : decode cX9_numberOfPlayToBoard 58 = .ok (.iload_n 1, 1) := by decide +kernel
theorem dX9_numberOfPlayToBoard_59 : decode cX9_numberOfPlayToBoard 59 = .ok (.ireturn, 1) := by decide +kernel
theorem dX9_numberOfPlayToBoard_60 : decode cX9_numberOfPlayToBoard 60 = .ok (.iinc 1 1, 3) := by decide +kernel
theorem dX9_numberOfPlayToBoard_63 : decode cX9_numberOfPlayToBoard 63 = .ok (.goto (-61), 3) := by decide +kernel
theorem dX9_numberOfPlayToBoard_66 : decode cX9_numberOfPlayToBoard 66 = .ok (.iconst (-1), 1) := by decide +kernel
theorem dX9_numberOfPlayToBoard_67 : decode cX9_numberOfPlayToBoard 67 = .ok (.ireturn, 1) := by decide +kernel
theorem dX9_layoutOf_0 : decode cX9_layoutOf 0 = .ok (.iload_n 0, 1) := by decide +kernel
theorem dX9_layoutOf_1 : decode cX9_layoutOf 1 = .ok (.bipush 98, 2) := by decide +kernel
theorem dX9_layoutOf_3 : decode cX9_layoutOf 3 = .ok (.if_icmp .ne 7, 3) := by decide +kernel
theorem dX9_layoutOf_6 : decode cX9_layoutOf 6 = .ok (.getstatic 413, 3) := by decide +kernel
theorem dX9_layoutOf_9 : decode cX9_layoutOf 9 = .ok (.areturn, 1) := by decide +kernel
theorem dX9_layoutOf_10 : decode cX9_layoutOf 10 = .ok (.iload_n 0, 1) := by decide +kernel
theorem dX9_layoutOf_11 : decode cX9_layoutOf 11 = .ok (.bipush 110, 2) := by decide +kernel
theorem dX9_layoutOf_13 : decode cX9_layoutOf 13 = .ok (.if_icmp .ne 7, 3) := by decide +kernel
theorem dX9_layoutOf_16 : decode cX9_layoutOf 16 = .ok (.getstatic 417, 3) := by decide +kernel
theorem dX9_layoutOf_19 : decode cX9_layoutOf 19 = .ok (.areturn, 1) := by decide +kernel
theorem dX9_layoutOf_20 : decode cX9_layoutOf 20 = .ok (.iload_n 0, 1) := by decide +kernel
theorem dX9_layoutOf_21 : decode cX9_layoutOf 21 = .ok (.bipush 104, 2) := by decide +kernel
theorem dX9_layoutOf_23 : decode cX9_layoutOf 23 = .ok (.if_icmp .ne 9, 3) := by decide +kernel
theorem dX9_layoutOf_26 : decode cX9_layoutOf 26 = .ok (.getstatic 420, 3) := by decide +kernel
theorem dX9_layoutOf_29 : decode cX9_layoutOf 29 = .ok (.goto 6, 3) := by decide +kernel
theorem dX9_layoutOf_32 : decode cX9_layoutOf 32 = .ok (.getstatic 423, 3) := by decide +kernel
theorem dX9_layoutOf_35 : decode cX9_layoutOf 35 = .ok (.areturn, 1) := by decide +kernel
theorem dX9_menIn_0 : decode cX9_menIn 0 = .ok (.iconst 0, 1) := by decide +kernel
theorem dX9_menIn_1 : decode cX9_menIn 1 = .ok (.istore_n 1, 1) := by decide +kernel
theorem dX9_menIn_2 : decode cX9_menIn 2 = .ok (.iconst 1, 1) := by decide +kernel
theorem dX9_menIn_3 : decode cX9_menIn 3 = .ok (.istore_n 2, 1) := by decide +kernel
theorem dX9_menIn_4 : decode cX9_menIn 4 = .ok (.iload_n 2, 1) := by decide +kernel
theorem dX9_menIn_5 : decode cX9_menIn 5 = .ok (.aload_n 0, 1) := by decide +kernel
theorem dX9_menIn_6 : decode cX9_menIn 6 = .ok (.arraylength, 1) := by decide +kernel
theorem dX9_menIn_7 : decode cX9_menIn 7 = .ok (.if_icmp .ge 15, 3) := by decide +kernel
theorem dX9_menIn_10 : decode cX9_menIn 10 = .ok (.iload_n 1, 1) := by decide +kernel
theorem dX9_menIn_11 : decode cX9_menIn 11 = .ok (.aload_n 0, 1) := by decide +kernel
theorem dX9_menIn_12 : decode cX9_menIn 12 = .ok (.iload_n 2, 1) := by decide +kernel
theorem dX9_menIn_13 : decode cX9_menIn 13 = .ok (.iaload, 1) := by decide +kernel
theorem dX9_menIn_14 : decode cX9_menIn 14 = .ok (.iadd, 1) := by decide +kernel
theorem dX9_menIn_15 : decode cX9_menIn 15 = .ok (.istore_n 1, 1) := by decide +kernel
theorem dX9_menIn_16 : decode cX9_menIn 16 = .ok (.iinc 2 2, 3) := by decide +kernel
theorem dX9_menIn_19 : decode cX9_menIn 19 = .ok (.goto (-15), 3) := by decide +kernel
theorem dX9_menIn_22 : decode cX9_menIn 22 = .ok (.iload_n 1, 1) := by decide +kernel
theorem dX9_menIn_23 : decode cX9_menIn 23 = .ok (.ireturn, 1) := by decide +kernel
theorem dX9_codeOf_0 : decode cX9_codeOf 0 = .ok (.iload_n 0, 1) := by decide +kernel
theorem dX9_codeOf_1 : decode cX9_codeOf 1 = .ok (.iconst 3, 1) := by decide +kernel
theorem dX9_codeOf_2 : decode cX9_codeOf 2 = .ok (.ishl, 1) := by decide +kernel
theorem dX9_codeOf_3 : decode cX9_codeOf 3 = .ok (.iload_n 1, 1) := by decide +kernel
theorem dX9_codeOf_4 : decode cX9_codeOf 4 = .ok (.ior, 1) := by decide +kernel
theorem dX9_codeOf_5 : decode cX9_codeOf 5 = .ok (.ireturn, 1) := by decide +kernel
theorem dX9_fromOf_0 : decode cX9_fromOf 0 = .ok (.iload_n 0, 1) := by decide +kernel
theorem dX9_fromOf_1 : decode cX9_fromOf 1 = .ok (.iconst 3, 1) := by decide +kernel
theorem dX9_fromOf_2 : decode cX9_fromOf 2 = .ok (.iushr, 1) := by decide +kernel
theorem dX9_fromOf_3 : decode cX9_fromOf 3 = .ok (.ireturn, 1) := by decide +kernel
theorem dX9_dieOf_0 : decode cX9_dieOf 0 = .ok (.iload_n 0, 1) := by decide +kernel
theorem dX9_dieOf_1 : decode cX9_dieOf 1 = .ok (.bipush 7, 2) := by decide +kernel
theorem dX9_dieOf_3 : decode cX9_dieOf 3 = .ok (.iand, 1) := by decide +kernel
theorem dX9_dieOf_4 : decode cX9_dieOf 4 = .ok (.ireturn, 1) := by decide +kernel
theorem dX9_codeAt_0 : decode cX9_codeAt 0 = .ok (.iload_n 0, 1) := by decide +kernel
theorem dX9_codeAt_1 : decode cX9_codeAt 1 = .ok (.bipush 8, 2) := by decide +kernel
theorem dX9_codeAt_3 : decode cX9_codeAt 3 = .ok (.iload_n 1, 1) := by decide +kernel
theorem dX9_codeAt_4 : decode cX9_codeAt 4 = .ok (.imul, 1) := by decide +kernel
theorem dX9_codeAt_5 : decode cX9_codeAt 5 = .ok (.iushr, 1) := by decide +kernel
theorem dX9_codeAt_6 : decode cX9_codeAt 6 = .ok (.sipush 255, 3) := by decide +kernel
theorem dX9_codeAt_9 : decode cX9_codeAt 9 = .ok (.iand, 1) := by decide +kernel
theorem dX9_codeAt_10 : decode cX9_codeAt 10 = .ok (.ireturn, 1) := by decide +kernel
theorem dX9_withCode_0 : decode cX9_withCode 0 = .ok (.iload_n 0, 1) := by decide +kernel
theorem dX9_withCode_1 : decode cX9_withCode 1 = .ok (.iload_n 2, 1) := by decide +kernel
theorem dX9_withCode_2 : decode cX9_withCode 2 = .ok (.bipush 8, 2) := by decide +kernel
theorem dX9_withCode_4 : decode cX9_withCode 4 = .ok (.iload_n 1, 1) := by decide +kernel
theorem dX9_withCode_5 : decode cX9_withCode 5 = .ok (.imul, 1) := by decide +kernel
theorem dX9_withCode_6 : decode cX9_withCode 6 = .ok (.ishl, 1) := by decide +kernel
theorem dX9_withCode_7 : decode cX9_withCode 7 = .ok (.ior, 1) := by decide +kernel
theorem dX9_withCode_8 : decode cX9_withCode 8 = .ok (.ireturn, 1) := by decide +kernel
theorem dJ9_abs_0f7a4_0 : decode cJ9_abs_0f7a4 0 = .ok (.iload_n 0, 1) := by decide +kernel
theorem dJ9_abs_0f7a4_1 : decode cJ9_abs_0f7a4 1 = .ok (.ifCond .ge 8, 3) := by decide +kernel
theorem dJ9_abs_0f7a4_4 : decode cJ9_abs_0f7a4 4 = .ok (.iload_n 0, 1) := by decide +kernel
theorem dJ9_abs_0f7a4_5 : decode cJ9_abs_0f7a4 5 = .ok (.ineg, 1) := by decide +kernel
theorem dJ9_abs_0f7a4_6 : decode cJ9_abs_0f7a4 6 = .ok (.goto 4, 3) := by decide +kernel
theorem dJ9_abs_0f7a4_9 : decode cJ9_abs_0f7a4 9 = .ok (.iload_n 0, 1) := by decide +kernel
theorem dJ9_abs_0f7a4_10 : decode cJ9_abs_0f7a4 10 = .ok (.ireturn, 1) := by decide +kernel
theorem dJ9_max_7cf53_0 : decode cJ9_max_7cf53 0 = .ok (.iload_n 0, 1) := by decide +kernel
theorem dJ9_max_7cf53_1 : decode cJ9_max_7cf53 1 = .ok (.iload_n 1, 1) := by decide +kernel
theorem dJ9_max_7cf53_2 : decode cJ9_max_7cf53 2 = .ok (.if_icmp .lt 7, 3) := by decide +kernel
theorem dJ9_max_7cf53_5 : decode cJ9_max_7cf53 5 = .ok (.iload_n 0, 1) := by decide +kernel
theorem dJ9_max_7cf53_6 : decode cJ9_max_7cf53 6 = .ok (.goto 4, 3) := by decide +kernel
theorem dJ9_max_7cf53_9 : decode cJ9_max_7cf53 9 = .ok (.iload_n 1, 1) := by decide +kernel
theorem dJ9_max_7cf53_10 : decode cJ9_max_7cf53 10 = .ok (.ireturn, 1) := by decide +kernel
theorem dJ9_min_7cf53_0 : decode cJ9_min_7cf53 0 = .ok (.iload_n 0, 1) := by decide +kernel
theorem dJ9_min_7cf53_1 : decode cJ9_min_7cf53 1 = .ok (.iload_n 1, 1) := by decide +kernel
theorem dJ9_min_7cf53_2 : decode cJ9_min_7cf53 2 = .ok (.if_icmp .gt 7, 3) := by decide +kernel
theorem dJ9_min_7cf53_5 : decode cJ9_min_7cf53 5 = .ok (.iload_n 0, 1) := by decide +kernel
theorem dJ9_min_7cf53_6 : decode cJ9_min_7cf53 6 = .ok (.goto 4, 3) := by decide +kernel
theorem dJ9_min_7cf53_9 : decode cJ9_min_7cf53 9 = .ok (.iload_n 1, 1) := by decide +kernel
theorem dJ9_min_7cf53_10 : decode cJ9_min_7cf53 10 = .ok (.ireturn, 1) := by decide +kernel
theorem dJ7_fill_53178_0 : decode cJ7_fill_53178 0 = .ok (.iconst 0, 1) := by decide +kernel
theorem dJ7_fill_53178_1 : decode cJ7_fill_53178 1 = .ok (.istore_n 2, 1) := by decide +kernel
theorem dJ7_fill_53178_2 : decode cJ7_fill_53178 2 = .ok (.aload_n 0, 1) := by decide +kernel
theorem dJ7_fill_53178_3 : decode cJ7_fill_53178 3 = .ok (.arraylength, 1) := by decide +kernel
theorem dJ7_fill_53178_4 : decode cJ7_fill_53178 4 = .ok (.istore_n 3, 1) := by decide +kernel
theorem dJ7_fill_53178_5 : decode cJ7_fill_53178 5 = .ok (.iload_n 2, 1) := by decide +kernel
theorem dJ7_fill_53178_6 : decode cJ7_fill_53178 6 = .ok (.iload_n 3, 1) := by decide +kernel
theorem dJ7_fill_53178_7 : decode cJ7_fill_53178 7 = .ok (.if_icmp .ge 13, 3) := by decide +kernel
theorem dJ7_fill_53178_10 : decode cJ7_fill_53178 10 = .ok (.aload_n 0, 1) := by decide +kernel
theorem dJ7_fill_53178_11 : decode cJ7_fill_53178 11 = .ok (.iload_n 2, 1) := by decide +kernel
theorem dJ7_fill_53178_12 : decode cJ7_fill_53178 12 = .ok (.iload_n 1, 1) := by decide +kernel
theorem dJ7_fill_53178_13 : decode cJ7_fill_53178 13 = .ok (.iastore, 1) := by decide +kernel
theorem dJ7_fill_53178_14 : decode cJ7_fill_53178 14 = .ok (.iinc 2 1, 3) := by decide +kernel
theorem dJ7_fill_53178_17 : decode cJ7_fill_53178 17 = .ok (.goto (-12), 3) := by decide +kernel
theorem dJ7_fill_53178_20 : decode cJ7_fill_53178 20 = .ok (.return_, 1) := by decide +kernel
theorem dJ7_fill_7f8df_0 : decode cJ7_fill_7f8df 0 = .ok (.iconst 0, 1) := by decide +kernel
theorem dJ7_fill_7f8df_1 : decode cJ7_fill_7f8df 1 = .ok (.istore_n 3, 1) := by decide +kernel
theorem dJ7_fill_7f8df_2 : decode cJ7_fill_7f8df 2 = .ok (.aload_n 0, 1) := by decide +kernel
theorem dJ7_fill_7f8df_3 : decode cJ7_fill_7f8df 3 = .ok (.arraylength, 1) := by decide +kernel
theorem dJ7_fill_7f8df_4 : decode cJ7_fill_7f8df 4 = .ok (.istore 4, 2) := by decide +kernel
theorem dJ7_fill_7f8df_6 : decode cJ7_fill_7f8df 6 = .ok (.iload_n 3, 1) := by decide +kernel
theorem dJ7_fill_7f8df_7 : decode cJ7_fill_7f8df 7 = .ok (.iload 4, 2) := by decide +kernel
theorem dJ7_fill_7f8df_9 : decode cJ7_fill_7f8df 9 = .ok (.if_icmp .ge 13, 3) := by decide +kernel
theorem dJ7_fill_7f8df_12 : decode cJ7_fill_7f8df 12 = .ok (.aload_n 0, 1) := by decide +kernel
theorem dJ7_fill_7f8df_13 : decode cJ7_fill_7f8df 13 = .ok (.iload_n 3, 1) := by decide +kernel
theorem dJ7_fill_7f8df_14 : decode cJ7_fill_7f8df 14 = .ok (.dload_n 1, 1) := by decide +kernel
theorem dJ7_fill_7f8df_15 : decode cJ7_fill_7f8df 15 = .ok (.dastore, 1) := by decide +kernel
theorem dJ7_fill_7f8df_16 : decode cJ7_fill_7f8df 16 = .ok (.iinc 3 1, 3) := by decide +kernel
theorem dJ7_fill_7f8df_19 : decode cJ7_fill_7f8df 19 = .ok (.goto (-13), 3) := by decide +kernel
theorem dJ7_fill_7f8df_22 : decode cJ7_fill_7f8df 22 = .ok (.return_, 1) := by decide +kernel
theorem dL_cell_0 : decode cL_cell 0 = .ok (.iload_n 1, 1) := by decide +kernel
theorem dL_cell_1 : decode cL_cell 1 = .ok (.aload_n 0, 1) := by decide +kernel
theorem dL_cell_2 : decode cL_cell 2 = .ok (.arraylength, 1) := by decide +kernel
theorem dL_cell_3 : decode cL_cell 3 = .ok (.if_icmp .ge 9, 3) := by decide +kernel
theorem dL_cell_6 : decode cL_cell 6 = .ok (.aload_n 0, 1) := by decide +kernel
theorem dL_cell_7 : decode cL_cell 7 = .ok (.iload_n 1, 1) := by decide +kernel
theorem dL_cell_8 : decode cL_cell 8 = .ok (.iaload, 1) := by decide +kernel
theorem dL_cell_9 : decode cL_cell 9 = .ok (.goto 11, 3) := by decide +kernel
theorem dL_cell_12 : decode cL_cell 12 = .ok (.sipush 7919, 3) := by decide +kernel
theorem dL_cell_15 : decode cL_cell 15 = .ok (.iload_n 1, 1) := by decide +kernel
theorem dL_cell_16 : decode cL_cell 16 = .ok (.imul, 1) := by decide +kernel
theorem dL_cell_17 : decode cL_cell 17 = .ok (.bipush 12, 2) := by decide +kernel
theorem dL_cell_19 : decode cL_cell 19 = .ok (.iadd, 1) := by decide +kernel
theorem dL_cell_20 : decode cL_cell 20 = .ok (.ireturn, 1) := by decide +kernel
set_option maxRecDepth 20000 in
theorem ggL_some_L_cell : GoodIn wsL_some wsL_cell := goodIn_r _ [4] (by decide +kernel) (by decide +kernel)
set_option maxRecDepth 20000 in
theorem gL_some_L_cell : GoodIn wsL_some (va_wsS RL 7 yL_cell wsL_cell) := goodIn_app (goodIn_of _ (by decide +kernel)) ggL_some_L_cell
theorem dL_some_0 : decode cL_some 0 = .ok (.aload_n 0, 1) := by decide +kernel
theorem dL_some_1 : decode cL_some 1 = .ok (.iload_n 1, 1) := by decide +kernel
theorem dL_some_2 : decode cL_some 2 = .ok (.invokestatic 7, 3) := by decide +kernel
theorem dL_some_5 : decode cL_some 5 = .ok (.iconst 3, 1) := by decide +kernel
theorem dL_some_6 : decode cL_some 6 = .ok (.iushr, 1) := by decide +kernel
theorem dL_some_7 : decode cL_some 7 = .ok (.iload_n 2, 1) := by decide +kernel
theorem dL_some_8 : decode cL_some 8 = .ok (.irem, 1) := by decide +kernel
theorem dL_some_9 : decode cL_some 9 = .ok (.ireturn, 1) := by decide +kernel
set_option maxRecDepth 20000 in
theorem ggL_start_X9_start : GoodIn wsL_start wsX9_start := goodIn_ca (goodIn_ca (goodIn_r _ [9, 10, 11, 12, 13, 14, 15, 16, 17, 18, 8, 19, 20, 21, 22, 23, 24, 25, 26, 27, 28, 29, 30, 31, 32, 33, 34, 35, 36, 37, 38, 39, 40, 41, 42, 43, 44, 45, 46, 47, 48, 49, 50, 51, 52, 53, 54, 55, 56, 57, 58, 59, 60, 61, 62, 63, 64, 65, 66, 67, 68, 69, 70, 71] (by decide +kernel) (by decide +kernel)) (goodIn_sub (fun _ h => List.mem_cons_of_mem _ (List.mem_append_left _ (List.mem_append_right _ h))) (by decide +kernel))) (goodIn_sub (fun _ h => List.mem_cons_of_mem _ (List.mem_append_right _ h)) (by decide +kernel))
set_option maxRecDepth 20000 in
theorem gL_start_X9_start : GoodIn wsL_start (wsV RL 13 RX9 yX9_start wsX9_start) := goodIn_app (goodIn_of _ (by decide +kernel)) ggL_start_X9_start
theorem dL_start_0 : decode cL_start 0 = .ok (.aload_n 0, 1) := by decide +kernel
theorem dL_start_1 : decode cL_start 1 = .ok (.iload_n 1, 1) := by decide +kernel
theorem dL_start_2 : decode cL_start 2 = .ok (.iload_n 2, 1) := by decide +kernel
theorem dL_start_3 : decode cL_start 3 = .ok (.iload_n 3, 1) := by decide +kernel
theorem dL_start_4 : decode cL_start 4 = .ok (.invokevirtual 13, 3) := by decide +kernel
theorem dL_start_7 : decode cL_start 7 = .ok (.ireturn, 1) := by decide +kernel
theorem dL_start_8 : decode cL_start 8 = .ok (.astore 4, 2) := by decide +kernel
theorem dL_start_10 : decode cL_start 10 = .ok (.ldc 21, 2) := by decide +kernel
theorem dL_start_12 : decode cL_start 12 = .ok (.ireturn, 1) := by decide +kernel
theorem dL_start_13 : decode cL_start 13 = .ok (.astore 4, 2) := by decide +kernel
theorem dL_start_15 : decode cL_start 15 = .ok (.ldc 24, 2) := by decide +kernel
theorem dL_start_17 : decode cL_start 17 = .ok (.ireturn, 1) := by decide +kernel
set_option maxRecDepth 20000 in
theorem ggL_turn_X9_turn : GoodIn wsL_turn wsX9_turn := goodIn_ca (goodIn_r _ [7, 8, 9, 10, 11, 12, 13, 14, 15, 16, 17, 18, 19, 20, 21, 22, 23, 24, 25, 26, 27, 28] (by decide +kernel) (by decide +kernel)) (goodIn_sub (fun _ h => List.mem_cons_of_mem _ (List.mem_append_right _ h)) (by decide +kernel))
set_option maxRecDepth 20000 in
theorem gL_turn_X9_turn : GoodIn wsL_turn (wsV RL 25 RX9 yX9_turn wsX9_turn) := goodIn_app (goodIn_of _ (by decide +kernel)) ggL_turn_X9_turn
theorem dL_turn_0 : decode cL_turn 0 = .ok (.aload_n 0, 1) := by decide +kernel
theorem dL_turn_1 : decode cL_turn 1 = .ok (.invokevirtual 25, 3) := by decide +kernel
theorem dL_turn_4 : decode cL_turn 4 = .ok (.ireturn, 1) := by decide +kernel
theorem dL_turn_5 : decode cL_turn 5 = .ok (.astore_n 1, 1) := by decide +kernel
theorem dL_turn_6 : decode cL_turn 6 = .ok (.ldc 24, 2) := by decide +kernel
theorem dL_turn_8 : decode cL_turn 8 = .ok (.ireturn, 1) := by decide +kernel
set_option maxRecDepth 20000 in
theorem ggL_roll_X9_roll : GoodIn wsL_roll wsX9_roll := goodIn_ca (goodIn_ca (goodIn_r _ [9, 10, 11, 12, 13, 14, 15, 16, 17, 18, 19, 20, 8, 21, 22, 23, 24, 25, 26, 27, 28, 29, 30, 31, 32, 33, 34, 35, 36, 37, 38, 39, 40, 41, 42, 43, 44, 45, 46, 47, 48, 49, 50, 51, 52, 53, 54, 55, 56, 57, 58, 59, 60, 61, 62, 63, 64, 65, 66, 67, 68, 69, 70, 71, 72, 73, 74, 75, 76, 77, 78, 79, 80, 81, 82, 83, 84, 85, 86, 87, 88, 89, 90, 91, 92, 93, 94, 95, 96, 97, 98, 99, 100, 101, 102, 103, 104, 105, 106, 107, 108, 109, 110, 111, 112, 113, 114, 115, 116, 117, 118, 119, 120, 121, 122, 123, 124, 125, 126, 127, 128, 129, 130, 131, 132, 133, 134, 135, 136, 137, 138, 139, 140, 141, 142, 143, 144, 145, 146, 147, 148, 149, 150, 151, 152, 153, 154, 155, 156, 157, 158, 159, 160, 161, 162, 163, 164, 165, 166, 167, 168, 169, 170, 171, 172, 173, 174, 175, 176, 177, 178, 179, 180, 181, 182, 183, 184, 185, 186, 187, 188, 189, 190, 191, 192, 193, 194, 195, 196, 197, 198, 199, 200, 201, 202, 203, 204] (by decide +kernel) (by decide +kernel)) (goodIn_sub (fun _ h => List.mem_cons_of_mem _ (List.mem_append_left _ (List.mem_append_right _ h))) (by decide +kernel))) (goodIn_sub (fun _ h => List.mem_cons_of_mem _ (List.mem_append_right _ h)) (by decide +kernel))
set_option maxRecDepth 20000 in
theorem gL_roll_X9_roll : GoodIn wsL_roll (wsV RL 33 RX9 yX9_roll wsX9_roll) := goodIn_app (goodIn_of _ (by decide +kernel)) ggL_roll_X9_roll
theorem dL_roll_0 : decode cL_roll 0 = .ok (.aload_n 0, 1) := by decide +kernel
theorem dL_roll_1 : decode cL_roll 1 = .ok (.iload_n 1, 1) := by decide +kernel
theorem dL_roll_2 : decode cL_roll 2 = .ok (.iload_n 2, 1) := by decide +kernel
theorem dL_roll_3 : decode cL_roll 3 = .ok (.invokevirtual 33, 3) := by decide +kernel
theorem dL_roll_6 : decode cL_roll 6 = .ok (.ireturn, 1) := by decide +kernel
theorem dL_roll_7 : decode cL_roll 7 = .ok (.astore_n 3, 1) := by decide +kernel
theorem dL_roll_8 : decode cL_roll 8 = .ok (.ldc 21, 2) := by decide +kernel
theorem dL_roll_10 : decode cL_roll 10 = .ok (.ireturn, 1) := by decide +kernel
theorem dL_roll_11 : decode cL_roll 11 = .ok (.astore_n 3, 1) := by decide +kernel
theorem dL_roll_12 : decode cL_roll 12 = .ok (.ldc 24, 2) := by decide +kernel
theorem dL_roll_14 : decode cL_roll 14 = .ok (.ireturn, 1) := by decide +kernel
set_option maxRecDepth 20000 in
theorem ggL_moves_X9_moves : GoodIn wsL_moves wsX9_moves := goodIn_ca (goodIn_ca (goodIn_r _ [9, 10, 11, 12, 13, 8, 14, 15, 16, 17, 18, 19, 20, 21, 22, 23, 24, 25, 26, 27, 28, 29, 30, 31, 32, 33, 34, 35, 36, 37, 38, 39, 40, 41, 42, 43, 44, 45, 46, 47, 48, 49, 50, 51, 52, 53, 54, 55, 56, 57, 58, 59, 60, 61] (by decide +kernel) (by decide +kernel)) (goodIn_sub (fun _ h => List.mem_cons_of_mem _ (List.mem_append_left _ (List.mem_append_right _ h))) (by decide +kernel))) (goodIn_sub (fun _ h => List.mem_cons_of_mem _ (List.mem_append_right _ h)) (by decide +kernel))
set_option maxRecDepth 20000 in
theorem gL_moves_X9_moves : GoodIn wsL_moves (wsV RL 40 RX9 yX9_moves wsX9_moves) := goodIn_app (goodIn_of _ (by decide +kernel)) ggL_moves_X9_moves
theorem dL_moves_0 : decode cL_moves 0 = .ok (.aload_n 0, 1) := by decide +kernel
theorem dL_moves_1 : decode cL_moves 1 = .ok (.iload_n 1, 1) := by decide +kernel
theorem dL_moves_2 : decode cL_moves 2 = .ok (.invokevirtual 40, 3) := by decide +kernel
theorem dL_moves_5 : decode cL_moves 5 = .ok (.ireturn, 1) := by decide +kernel
theorem dL_moves_6 : decode cL_moves 6 = .ok (.astore_n 2, 1) := by decide +kernel
theorem dL_moves_7 : decode cL_moves 7 = .ok (.ldc 24, 2) := by decide +kernel
theorem dL_moves_9 : decode cL_moves 9 = .ok (.ireturn, 1) := by decide +kernel
theorem dL_moves_10 : decode cL_moves 10 = .ok (.astore_n 2, 1) := by decide +kernel
theorem dL_moves_11 : decode cL_moves 11 = .ok (.ldc 45, 2) := by decide +kernel
theorem dL_moves_13 : decode cL_moves 13 = .ok (.ireturn, 1) := by decide +kernel
set_option maxRecDepth 20000 in
theorem ggL_moveFrom_X9_moveFrom : GoodIn wsL_moveFrom wsX9_moveFrom := goodIn_ca (goodIn_ca (goodIn_r _ [9, 10, 11, 12, 8, 13, 14, 15, 16, 17, 18, 19, 20, 21, 22, 23, 24, 25, 26, 27, 28, 29, 30, 31, 32, 33, 34, 35, 36, 37, 38, 39, 40, 41, 42, 43, 44, 45, 46, 47, 48, 49, 50, 51, 52, 53, 54, 55, 56, 57, 58, 59, 60, 61, 62, 63, 64, 65, 66, 67, 68, 69, 70, 71, 72, 73, 74, 75, 76] (by decide +kernel) (by decide +kernel)) (goodIn_sub (fun _ h => List.mem_cons_of_mem _ (List.mem_append_left _ (List.mem_append_right _ h))) (by decide +kernel))) (goodIn_sub (fun _ h => List.mem_cons_of_mem _ (List.mem_append_right _ h)) (by decide +kernel))
set_option maxRecDepth 20000 in
theorem gL_moveFrom_X9_moveFrom : GoodIn wsL_moveFrom (wsV RL 46 RX9 yX9_moveFrom wsX9_moveFrom) := goodIn_app (goodIn_of _ (by decide +kernel)) ggL_moveFrom_X9_moveFrom
theorem dL_moveFrom_0 : decode cL_moveFrom 0 = .ok (.aload_n 0, 1) := by decide +kernel
theorem dL_moveFrom_1 : decode cL_moveFrom 1 = .ok (.iload_n 1, 1) := by decide +kernel
theorem dL_moveFrom_2 : decode cL_moveFrom 2 = .ok (.iload_n 2, 1) := by decide +kernel
theorem dL_moveFrom_3 : decode cL_moveFrom 3 = .ok (.invokevirtual 46, 3) := by decide +kernel
theorem dL_moveFrom_6 : decode cL_moveFrom 6 = .ok (.ireturn, 1) := by decide +kernel
theorem dL_moveFrom_7 : decode cL_moveFrom 7 = .ok (.astore_n 3, 1) := by decide +kernel
theorem dL_moveFrom_8 : decode cL_moveFrom 8 = .ok (.ldc 24, 2) := by decide +kernel
theorem dL_moveFrom_10 : decode cL_moveFrom 10 = .ok (.ireturn, 1) := by decide +kernel
theorem dL_moveFrom_11 : decode cL_moveFrom 11 = .ok (.astore_n 3, 1) := by decide +kernel
theorem dL_moveFrom_12 : decode cL_moveFrom 12 = .ok (.ldc 45, 2) := by decide +kernel
theorem dL_moveFrom_14 : decode cL_moveFrom 14 = .ok (.ireturn, 1) := by decide +kernel
set_option maxRecDepth 20000 in
theorem ggL_moveTo_X9_moveTo : GoodIn wsL_moveTo wsX9_moveTo := goodIn_ca (goodIn_ca (goodIn_r _ [9, 10, 11, 12, 13, 14, 15, 16, 8, 17, 18, 19, 20, 21, 22, 23, 24, 25, 26, 27, 28, 29, 30, 31, 32, 33, 34, 35, 36, 37, 38, 39, 40, 41, 42, 43, 44, 45, 46, 47, 48, 49, 50, 51, 52, 53, 54, 55, 56, 57, 58, 59, 60, 61, 62, 63, 64, 65, 66, 67, 68, 69, 70, 71, 72, 73, 74, 75, 76, 77, 78, 79, 80, 81, 82, 83] (by decide +kernel) (by decide +kernel)) (goodIn_sub (fun _ h => List.mem_cons_of_mem _ (List.mem_append_left _ (List.mem_append_right _ h))) (by decide +kernel))) (goodIn_sub (fun _ h => List.mem_cons_of_mem _ (List.mem_append_right _ h)) (by decide +kernel))
set_option maxRecDepth 20000 in
theorem gL_moveTo_X9_moveTo : GoodIn wsL_moveTo (wsV RL 49 RX9 yX9_moveTo wsX9_moveTo) := goodIn_app (goodIn_of _ (by decide +kernel)) ggL_moveTo_X9_moveTo
theorem dL_moveTo_0 : decode cL_moveTo 0 = .ok (.aload_n 0, 1) := by decide +kernel
theorem dL_moveTo_1 : decode cL_moveTo 1 = .ok (.iload_n 1, 1) := by decide +kernel
theorem dL_moveTo_2 : decode cL_moveTo 2 = .ok (.iload_n 2, 1) := by decide +kernel
theorem dL_moveTo_3 : decode cL_moveTo 3 = .ok (.invokevirtual 49, 3) := by decide +kernel
theorem dL_moveTo_6 : decode cL_moveTo 6 = .ok (.ireturn, 1) := by decide +kernel
theorem dL_moveTo_7 : decode cL_moveTo 7 = .ok (.astore_n 3, 1) := by decide +kernel
theorem dL_moveTo_8 : decode cL_moveTo 8 = .ok (.ldc 24, 2) := by decide +kernel
theorem dL_moveTo_10 : decode cL_moveTo 10 = .ok (.ireturn, 1) := by decide +kernel
theorem dL_moveTo_11 : decode cL_moveTo 11 = .ok (.astore_n 3, 1) := by decide +kernel
theorem dL_moveTo_12 : decode cL_moveTo 12 = .ok (.ldc 45, 2) := by decide +kernel
theorem dL_moveTo_14 : decode cL_moveTo 14 = .ok (.ireturn, 1) := by decide +kernel
set_option maxRecDepth 20000 in
theorem ggL_undo_X9_undo : GoodIn wsL_undo wsX9_undo := goodIn_ca (goodIn_r _ [7, 8, 9, 10, 11, 12, 13, 6, 14, 15, 16, 17, 18, 19, 20, 21, 22, 23, 24, 25, 26, 27, 28, 29, 30, 31, 32, 33, 34, 35, 36, 37, 38, 39, 40, 41, 42, 43, 44, 45, 46, 47, 48, 49, 50, 51, 52, 53, 54, 55, 56] (by decide +kernel) (by decide +kernel)) (goodIn_sub (fun _ h => List.mem_cons_of_mem _ (List.mem_append_right _ h)) (by decide +kernel))
set_option maxRecDepth 20000 in
theorem gL_undo_X9_undo : GoodIn wsL_undo (wsV RL 55 RX9 yX9_undo wsX9_undo) := goodIn_app (goodIn_of _ (by decide +kernel)) ggL_undo_X9_undo
theorem dL_undo_0 : decode cL_undo 0 = .ok (.aload_n 0, 1) := by decide +kernel
theorem dL_undo_1 : decode cL_undo 1 = .ok (.invokevirtual 55, 3) := by decide +kernel
theorem dL_undo_4 : decode cL_undo 4 = .ok (.ireturn, 1) := by decide +kernel
theorem dL_undo_5 : decode cL_undo 5 = .ok (.astore_n 1, 1) := by decide +kernel
theorem dL_undo_6 : decode cL_undo 6 = .ok (.ldc 24, 2) := by decide +kernel
theorem dL_undo_8 : decode cL_undo 8 = .ok (.ireturn, 1) := by decide +kernel
set_option maxRecDepth 20000 in
theorem ggL_finish_X9_finish : GoodIn wsL_finish wsX9_finish := goodIn_ca (goodIn_ca (goodIn_r _ [9, 10, 11, 12, 13, 14, 8, 15, 16, 17, 18, 19, 20, 21, 22, 23, 24, 25, 26, 27, 28, 29, 30, 31, 32, 33, 34, 35, 36, 37, 38, 39, 40, 41, 42, 43, 44, 45, 46, 47, 48, 49, 50, 51, 52, 53, 54, 55, 56, 57, 58, 59, 60, 61, 62, 63, 64, 65, 66, 67, 68, 69, 70, 71, 72, 73, 74, 75, 76, 77, 78, 79, 80, 81, 82, 83, 84, 85, 86, 87, 88, 89, 90, 91, 92, 93, 94, 95, 96, 97, 98, 99, 100, 101, 102, 103, 104, 105, 106, 107, 108, 109, 110, 111, 112, 113, 114, 115, 116, 117, 118, 119, 120, 121, 122, 123, 124, 125, 126, 127, 128, 129, 130, 131, 132, 133, 134, 135, 136, 137, 138, 139, 140, 141, 142, 143, 144, 145, 146, 147, 148, 149, 150, 151, 152, 153, 154, 155, 156, 157, 158, 159, 160, 161, 162, 163, 164, 165, 166, 167, 168, 169, 170, 171, 172, 173, 174, 175, 176, 177, 178, 179, 180, 181, 182, 183, 184, 185, 186, 187, 188, 189, 190, 191, 192, 193, 194, 195, 196, 197, 198, 199, 200, 201, 202, 203, 204, 205, 206, 207, 208, 209, 210, 211, 212, 213, 214, 215, 216, 217, 218, 219, 220, 221, 222, 223, 224, 225, 226, 227, 228, 229, 230, 231, 232, 233, 234, 235, 236] (by decide +kernel) (by decide +kernel)) (goodIn_sub (fun _ h => List.mem_cons_of_mem _ (List.mem_append_left _ (List.mem_append_right _ h))) (by decide +kernel))) (goodIn_sub (fun _ h => List.mem_cons_of_mem _ (List.mem_append_right _ h)) (by decide +kernel))
set_option maxRecDepth 20000 in
theorem gL_finish_X9_finish : GoodIn wsL_finish (wsV RL 58 RX9 yX9_finish wsX9_finish) := goodIn_app (goodIn_of _ (by decide +kernel)) ggL_finish_X9_finish
theorem dL_finish_0 : decode cL_finish 0 = .ok (.aload_n 0, 1) := by decide +kernel
theorem dL_finish_1 : decode cL_finish 1 = .ok (.invokevirtual 58, 3) := by decide +kernel
theorem dL_finish_4 : decode cL_finish 4 = .ok (.ireturn, 1) := by decide +kernel
theorem dL_finish_5 : decode cL_finish 5 = .ok (.astore_n 1, 1) := by decide +kernel
theorem dL_finish_6 : decode cL_finish 6 = .ok (.ldc 24, 2) := by decide +kernel
theorem dL_finish_8 : decode cL_finish 8 = .ok (.ireturn, 1) := by decide +kernel
theorem dL_finish_9 : decode cL_finish 9 = .ok (.astore_n 1, 1) := by decide +kernel
theorem dL_finish_10 : decode cL_finish 10 = .ok (.ldc 63, 2) := by decide +kernel
theorem dL_finish_12 : decode cL_finish 12 = .ok (.ireturn, 1) := by decide +kernel
set_option maxRecDepth 20000 in
theorem ggL_men_X9_men : GoodIn wsL_men wsX9_men := goodIn_ca (goodIn_ca (goodIn_r _ [9, 10, 11, 12, 13, 14, 8, 15, 16, 17, 18, 19, 20, 21, 22, 23, 24, 25, 26, 27, 28, 29, 30, 31, 32, 33, 34, 35, 36, 37, 38, 39, 40, 41] (by decide +kernel) (by decide +kernel)) (goodIn_sub (fun _ h => List.mem_cons_of_mem _ (List.mem_append_left _ (List.mem_append_right _ h))) (by decide +kernel))) (goodIn_sub (fun _ h => List.mem_cons_of_mem _ (List.mem_append_right _ h)) (by decide +kernel))
set_option maxRecDepth 20000 in
theorem gL_men_X9_men : GoodIn wsL_men (wsV RL 64 RX9 yX9_men wsX9_men) := goodIn_app (goodIn_of _ (by decide +kernel)) ggL_men_X9_men
theorem dL_men_0 : decode cL_men 0 = .ok (.aload_n 0, 1) := by decide +kernel
theorem dL_men_1 : decode cL_men 1 = .ok (.iload_n 1, 1) := by decide +kernel
theorem dL_men_2 : decode cL_men 2 = .ok (.iload_n 2, 1) := by decide +kernel
theorem dL_men_3 : decode cL_men 3 = .ok (.invokevirtual 64, 3) := by decide +kernel
theorem dL_men_6 : decode cL_men 6 = .ok (.ireturn, 1) := by decide +kernel
theorem dL_men_7 : decode cL_men 7 = .ok (.astore_n 3, 1) := by decide +kernel
theorem dL_men_8 : decode cL_men 8 = .ok (.ldc 21, 2) := by decide +kernel
theorem dL_men_10 : decode cL_men 10 = .ok (.ireturn, 1) := by decide +kernel
theorem dL_men_11 : decode cL_men 11 = .ok (.astore_n 3, 1) := by decide +kernel
theorem dL_men_12 : decode cL_men 12 = .ok (.ldc 45, 2) := by decide +kernel
theorem dL_men_14 : decode cL_men 14 = .ok (.ireturn, 1) := by decide +kernel
set_option maxRecDepth 20000 in
theorem ggL_pips_X9_pips : GoodIn wsL_pips wsX9_pips := goodIn_ca (goodIn_r _ [7, 8, 9, 10, 6, 11, 12, 13, 14, 15, 16, 17, 18, 19, 20, 21, 22, 23, 24, 25, 26, 27, 28, 29, 30, 31, 32, 33, 34, 35, 36, 37, 38, 39, 40, 41] (by decide +kernel) (by decide +kernel)) (goodIn_sub (fun _ h => List.mem_cons_of_mem _ (List.mem_append_right _ h)) (by decide +kernel))
set_option maxRecDepth 20000 in
theorem gL_pips_X9_pips : GoodIn wsL_pips (wsV RL 67 RX9 yX9_pips wsX9_pips) := goodIn_app (goodIn_of _ (by decide +kernel)) ggL_pips_X9_pips
theorem dL_pips_0 : decode cL_pips 0 = .ok (.aload_n 0, 1) := by decide +kernel
theorem dL_pips_1 : decode cL_pips 1 = .ok (.iload_n 1, 1) := by decide +kernel
theorem dL_pips_2 : decode cL_pips 2 = .ok (.invokevirtual 67, 3) := by decide +kernel
theorem dL_pips_5 : decode cL_pips 5 = .ok (.ireturn, 1) := by decide +kernel
theorem dL_pips_6 : decode cL_pips 6 = .ok (.astore_n 2, 1) := by decide +kernel
theorem dL_pips_7 : decode cL_pips 7 = .ok (.ldc 21, 2) := by decide +kernel
theorem dL_pips_9 : decode cL_pips 9 = .ok (.ireturn, 1) := by decide +kernel
set_option maxRecDepth 20000 in
theorem ggL_offer_X9_offer : GoodIn wsL_offer wsX9_offer := goodIn_ca (goodIn_ca (goodIn_r _ [9, 10, 11, 12, 13, 14, 15, 16, 17, 18, 19, 8, 20, 21, 22, 23, 24, 25, 26, 27, 28, 29, 30, 31, 32, 33, 34, 35, 36, 37, 38, 39, 40, 41, 42, 43, 44, 45, 46, 47, 48, 49, 50, 51, 52] (by decide +kernel) (by decide +kernel)) (goodIn_sub (fun _ h => List.mem_cons_of_mem _ (List.mem_append_left _ (List.mem_append_right _ h))) (by decide +kernel))) (goodIn_sub (fun _ h => List.mem_cons_of_mem _ (List.mem_append_right _ h)) (by decide +kernel))
set_option maxRecDepth 20000 in
theorem gL_offer_X9_offer : GoodIn wsL_offer (wsV RL 70 RX9 yX9_offer wsX9_offer) := goodIn_app (goodIn_of _ (by decide +kernel)) ggL_offer_X9_offer
theorem dL_offer_0 : decode cL_offer 0 = .ok (.aload_n 0, 1) := by decide +kernel
theorem dL_offer_1 : decode cL_offer 1 = .ok (.invokevirtual 70, 3) := by decide +kernel
theorem dL_offer_4 : decode cL_offer 4 = .ok (.ireturn, 1) := by decide +kernel
theorem dL_offer_5 : decode cL_offer 5 = .ok (.astore_n 1, 1) := by decide +kernel
theorem dL_offer_6 : decode cL_offer 6 = .ok (.ldc 24, 2) := by decide +kernel
theorem dL_offer_8 : decode cL_offer 8 = .ok (.ireturn, 1) := by decide +kernel
theorem dL_offer_9 : decode cL_offer 9 = .ok (.astore_n 1, 1) := by decide +kernel
theorem dL_offer_10 : decode cL_offer 10 = .ok (.ldc 63, 2) := by decide +kernel
theorem dL_offer_12 : decode cL_offer 12 = .ok (.ireturn, 1) := by decide +kernel
set_option maxRecDepth 20000 in
theorem ggL_take_X9_take : GoodIn wsL_take wsX9_take := goodIn_ca (goodIn_r _ [7, 8, 9, 10, 6, 11, 12, 13, 14, 15, 16, 17, 18, 19, 20, 21, 22, 23, 24, 25, 26, 27, 28, 29, 30, 31, 32, 33, 34, 35, 36, 37, 38] (by decide +kernel) (by decide +kernel)) (goodIn_sub (fun _ h => List.mem_cons_of_mem _ (List.mem_append_right _ h)) (by decide +kernel))
set_option maxRecDepth 20000 in
theorem gL_take_X9_take : GoodIn wsL_take (wsV RL 73 RX9 yX9_take wsX9_take) := goodIn_app (goodIn_of _ (by decide +kernel)) ggL_take_X9_take
theorem dL_take_0 : decode cL_take 0 = .ok (.aload_n 0, 1) := by decide +kernel
theorem dL_take_1 : decode cL_take 1 = .ok (.invokevirtual 73, 3) := by decide +kernel
theorem dL_take_4 : decode cL_take 4 = .ok (.ireturn, 1) := by decide +kernel
theorem dL_take_5 : decode cL_take 5 = .ok (.astore_n 1, 1) := by decide +kernel
theorem dL_take_6 : decode cL_take 6 = .ok (.ldc 24, 2) := by decide +kernel
theorem dL_take_8 : decode cL_take 8 = .ok (.ireturn, 1) := by decide +kernel
set_option maxRecDepth 20000 in
theorem ggL_drop_X9_drop : GoodIn wsL_drop wsX9_drop := goodIn_ca (goodIn_r _ [7, 8, 9, 10, 11, 12, 6, 13, 14, 15, 16, 17, 18, 19, 20, 21, 22, 23, 24, 25, 26, 27, 28, 29, 30, 31, 32, 33, 34, 35, 36, 37, 38, 39, 40, 41, 42, 43, 44, 45, 46, 47, 48, 49, 50, 51, 52, 53, 54, 55, 56, 57, 58, 59, 60, 61, 62, 63, 64, 65, 66, 67, 68, 69, 70, 71, 72, 73, 74, 75, 76, 77, 78, 79, 80, 81, 82, 83] (by decide +kernel) (by decide +kernel)) (goodIn_sub (fun _ h => List.mem_cons_of_mem _ (List.mem_append_right _ h)) (by decide +kernel))
set_option maxRecDepth 20000 in
theorem gL_drop_X9_drop : GoodIn wsL_drop (wsV RL 76 RX9 yX9_drop wsX9_drop) := goodIn_app (goodIn_of _ (by decide +kernel)) ggL_drop_X9_drop
theorem dL_drop_0 : decode cL_drop 0 = .ok (.aload_n 0, 1) := by decide +kernel
theorem dL_drop_1 : decode cL_drop 1 = .ok (.invokevirtual 76, 3) := by decide +kernel
theorem dL_drop_4 : decode cL_drop 4 = .ok (.ireturn, 1) := by decide +kernel
theorem dL_drop_5 : decode cL_drop 5 = .ok (.astore_n 1, 1) := by decide +kernel
theorem dL_drop_6 : decode cL_drop 6 = .ok (.ldc 24, 2) := by decide +kernel
theorem dL_drop_8 : decode cL_drop 8 = .ok (.ireturn, 1) := by decide +kernel
set_option maxRecDepth 20000 in
theorem ggL_beaver_X9_beaver : GoodIn wsL_beaver wsX9_beaver := goodIn_ca (goodIn_ca (goodIn_r _ [9, 10, 11, 12, 13, 14, 15, 16, 8, 17, 18, 19, 20, 21, 22, 23, 24, 25, 26, 27, 28, 29, 30, 31, 32, 33, 34, 35, 36, 37, 38, 39, 40, 41, 42, 43, 44, 45, 46, 47, 48, 49, 50, 51, 52, 53, 54, 55, 56, 57] (by decide +kernel) (by decide +kernel)) (goodIn_sub (fun _ h => List.mem_cons_of_mem _ (List.mem_append_left _ (List.mem_append_right _ h))) (by decide +kernel))) (goodIn_sub (fun _ h => List.mem_cons_of_mem _ (List.mem_append_right _ h)) (by decide +kernel))
set_option maxRecDepth 20000 in
theorem gL_beaver_X9_beaver : GoodIn wsL_beaver (wsV RL 79 RX9 yX9_beaver wsX9_beaver) := goodIn_app (goodIn_of _ (by decide +kernel)) ggL_beaver_X9_beaver
theorem dL_beaver_0 : decode cL_beaver 0 = .ok (.aload_n 0, 1) := by decide +kernel
theorem dL_beaver_1 : decode cL_beaver 1 = .ok (.invokevirtual 79, 3) := by decide +kernel
theorem dL_beaver_4 : decode cL_beaver 4 = .ok (.ireturn, 1) := by decide +kernel
theorem dL_beaver_5 : decode cL_beaver 5 = .ok (.astore_n 1, 1) := by decide +kernel
theorem dL_beaver_6 : decode cL_beaver 6 = .ok (.ldc 24, 2) := by decide +kernel
theorem dL_beaver_8 : decode cL_beaver 8 = .ok (.ireturn, 1) := by decide +kernel
theorem dL_beaver_9 : decode cL_beaver 9 = .ok (.astore_n 1, 1) := by decide +kernel
theorem dL_beaver_10 : decode cL_beaver 10 = .ok (.ldc 63, 2) := by decide +kernel
theorem dL_beaver_12 : decode cL_beaver 12 = .ok (.ireturn, 1) := by decide +kernel
set_option maxRecDepth 20000 in
theorem ggL_worth_X9_worth : GoodIn wsL_worth wsX9_worth := goodIn_ca (goodIn_ca (goodIn_r _ [9, 10, 11, 12, 13, 14, 15, 8, 16, 17, 18, 19, 20, 21, 22, 23, 24, 25, 26, 27, 28, 29, 30, 31, 32, 33, 34, 35, 36, 37, 38, 39, 40, 41, 42] (by decide +kernel) (by decide +kernel)) (goodIn_sub (fun _ h => List.mem_cons_of_mem _ (List.mem_append_left _ (List.mem_append_right _ h))) (by decide +kernel))) (goodIn_sub (fun _ h => List.mem_cons_of_mem _ (List.mem_append_right _ h)) (by decide +kernel))
set_option maxRecDepth 20000 in
theorem gL_worth_X9_worth : GoodIn wsL_worth (wsV RL 82 RX9 yX9_worth wsX9_worth) := goodIn_app (goodIn_of _ (by decide +kernel)) ggL_worth_X9_worth
theorem dL_worth_0 : decode cL_worth 0 = .ok (.aload_n 0, 1) := by decide +kernel
theorem dL_worth_1 : decode cL_worth 1 = .ok (.iload_n 1, 1) := by decide +kernel
theorem dL_worth_2 : decode cL_worth 2 = .ok (.invokevirtual 82, 3) := by decide +kernel
theorem dL_worth_5 : decode cL_worth 5 = .ok (.ireturn, 1) := by decide +kernel
theorem dL_worth_6 : decode cL_worth 6 = .ok (.astore_n 2, 1) := by decide +kernel
theorem dL_worth_7 : decode cL_worth 7 = .ok (.ldc 21, 2) := by decide +kernel
theorem dL_worth_9 : decode cL_worth 9 = .ok (.ireturn, 1) := by decide +kernel
theorem dL_worth_10 : decode cL_worth 10 = .ok (.astore_n 2, 1) := by decide +kernel
theorem dL_worth_11 : decode cL_worth 11 = .ok (.ldc 24, 2) := by decide +kernel
theorem dL_worth_13 : decode cL_worth 13 = .ok (.ireturn, 1) := by decide +kernel
set_option maxRecDepth 20000 in
theorem ggL_best_X9_best : GoodIn wsL_best wsX9_best := goodIn_ca (goodIn_r _ [7, 8, 9, 10, 11, 6, 12, 13, 14, 15, 16, 17, 18, 19, 20, 21, 22, 23, 24, 25, 26, 27, 28, 29, 30, 31, 32, 33, 34, 35, 36, 37, 38, 39, 40, 41, 42, 43, 44, 45, 46, 47, 48] (by decide +kernel) (by decide +kernel)) (goodIn_sub (fun _ h => List.mem_cons_of_mem _ (List.mem_append_right _ h)) (by decide +kernel))
set_option maxRecDepth 20000 in
theorem gL_best_X9_best : GoodIn wsL_best (wsV RL 85 RX9 yX9_best wsX9_best) := goodIn_app (goodIn_of _ (by decide +kernel)) ggL_best_X9_best
theorem dL_best_0 : decode cL_best 0 = .ok (.aload_n 0, 1) := by decide +kernel
theorem dL_best_1 : decode cL_best 1 = .ok (.invokevirtual 85, 3) := by decide +kernel
theorem dL_best_4 : decode cL_best 4 = .ok (.ireturn, 1) := by decide +kernel
theorem dL_best_5 : decode cL_best 5 = .ok (.astore_n 1, 1) := by decide +kernel
theorem dL_best_6 : decode cL_best 6 = .ok (.ldc 24, 2) := by decide +kernel
theorem dL_best_8 : decode cL_best 8 = .ok (.ireturn, 1) := by decide +kernel
set_option maxRecDepth 20000 in
theorem ggL_error_X9_error : GoodIn wsL_error wsX9_error := goodIn_ca (goodIn_ca (goodIn_r _ [9, 10, 11, 12, 13, 8, 14, 15, 16, 17, 18, 19, 20, 21, 22, 23, 24, 25, 26, 27, 28, 29, 30, 31, 32, 33, 34, 35, 36, 37, 38, 39, 40, 41, 42, 43, 44, 45, 46, 47, 48, 49, 50, 51, 52, 53, 54, 55, 56, 57, 58, 59, 60, 61, 62, 63, 64, 65, 66, 67, 68, 69, 70] (by decide +kernel) (by decide +kernel)) (goodIn_sub (fun _ h => List.mem_cons_of_mem _ (List.mem_append_left _ (List.mem_append_right _ h))) (by decide +kernel))) (goodIn_sub (fun _ h => List.mem_cons_of_mem _ (List.mem_append_right _ h)) (by decide +kernel))
set_option maxRecDepth 20000 in
theorem gL_error_X9_error : GoodIn wsL_error (wsV RL 88 RX9 yX9_error wsX9_error) := goodIn_app (goodIn_of _ (by decide +kernel)) ggL_error_X9_error
theorem dL_error_0 : decode cL_error 0 = .ok (.aload_n 0, 1) := by decide +kernel
theorem dL_error_1 : decode cL_error 1 = .ok (.iload_n 1, 1) := by decide +kernel
theorem dL_error_2 : decode cL_error 2 = .ok (.invokevirtual 88, 3) := by decide +kernel
theorem dL_error_5 : decode cL_error 5 = .ok (.ireturn, 1) := by decide +kernel
theorem dL_error_6 : decode cL_error 6 = .ok (.astore_n 2, 1) := by decide +kernel
theorem dL_error_7 : decode cL_error 7 = .ok (.ldc 24, 2) := by decide +kernel
theorem dL_error_9 : decode cL_error 9 = .ok (.ireturn, 1) := by decide +kernel
theorem dL_error_10 : decode cL_error 10 = .ok (.astore_n 2, 1) := by decide +kernel
theorem dL_error_11 : decode cL_error 11 = .ok (.ldc 45, 2) := by decide +kernel
theorem dL_error_13 : decode cL_error 13 = .ok (.ireturn, 1) := by decide +kernel
set_option maxRecDepth 20000 in
theorem ggL_deep_X9_deep : GoodIn wsL_deep wsX9_deep := goodIn_ca (goodIn_ca (goodIn_r _ [9, 10, 11, 12, 13, 14, 15, 16, 17, 18, 8, 19, 20, 21, 22, 23, 24, 25, 26, 27, 28, 29, 30, 31, 32, 33, 34, 35, 36, 37, 38, 39, 40, 41, 42, 43, 44, 45, 46, 47, 48, 49, 50, 51, 52, 53, 54, 55, 56, 57, 58, 59, 60, 61, 62, 63, 64, 65, 66, 67, 68, 69, 70, 71, 72, 73, 74, 75, 76, 77, 78, 79, 80, 81, 82, 83, 84, 85, 86, 87, 88, 89, 90, 91, 92, 93, 94, 95, 96, 97, 98, 99, 100, 101, 102, 103, 104, 105, 106, 107, 108, 109, 110, 111, 112, 113, 114, 115, 116, 117, 118, 119, 120, 121, 122, 123, 124, 125, 126, 127, 128, 129, 130, 131, 132, 133, 134, 135, 136, 137, 138, 139, 140, 141, 142, 143, 144, 145, 146, 147, 148, 149, 150, 151, 152, 153, 154, 155, 156, 157, 158, 159, 160, 161, 162, 163, 164, 165, 166, 167, 168, 169, 170, 171, 172, 173, 174, 175, 176, 177, 178, 179, 180, 181] (by decide +kernel) (by decide +kernel)) (goodIn_sub (fun _ h => List.mem_cons_of_mem _ (List.mem_append_left _ (List.mem_append_right _ h))) (by decide +kernel))) (goodIn_sub (fun _ h => List.mem_cons_of_mem _ (List.mem_append_right _ h)) (by decide +kernel))
set_option maxRecDepth 20000 in
theorem gL_deep_X9_deep : GoodIn wsL_deep (wsV RL 91 RX9 yX9_deep wsX9_deep) := goodIn_app (goodIn_of _ (by decide +kernel)) ggL_deep_X9_deep
theorem dL_deep_0 : decode cL_deep 0 = .ok (.aload_n 0, 1) := by decide +kernel
theorem dL_deep_1 : decode cL_deep 1 = .ok (.iload_n 1, 1) := by decide +kernel
theorem dL_deep_2 : decode cL_deep 2 = .ok (.invokevirtual 91, 3) := by decide +kernel
theorem dL_deep_5 : decode cL_deep 5 = .ok (.lreturn, 1) := by decide +kernel
theorem dL_deep_6 : decode cL_deep 6 = .ok (.astore_n 2, 1) := by decide +kernel
theorem dL_deep_7 : decode cL_deep 7 = .ok (.ldc2_w 95, 3) := by decide +kernel
theorem dL_deep_10 : decode cL_deep 10 = .ok (.lreturn, 1) := by decide +kernel
theorem dL_deep_11 : decode cL_deep 11 = .ok (.astore_n 2, 1) := by decide +kernel
theorem dL_deep_12 : decode cL_deep 12 = .ok (.ldc2_w 97, 3) := by decide +kernel
theorem dL_deep_15 : decode cL_deep 15 = .ok (.lreturn, 1) := by decide +kernel
set_option maxRecDepth 20000 in
theorem ggL_setRate_X9_setRate : GoodIn wsL_setRate wsX9_setRate := goodIn_ca (goodIn_r _ [7, 8, 9, 10, 11, 12, 13, 14, 15, 16, 17, 18, 19, 20, 21, 22, 23, 24, 25, 26, 27, 28, 29, 30, 31, 32, 33, 34, 35] (by decide +kernel) (by decide +kernel)) (goodIn_sub (fun _ h => List.mem_cons_of_mem _ (List.mem_append_right _ h)) (by decide +kernel))
set_option maxRecDepth 20000 in
theorem gL_setRate_X9_setRate : GoodIn wsL_setRate (wsV RL 99 RX9 yX9_setRate wsX9_setRate) := goodIn_app (goodIn_of _ (by decide +kernel)) ggL_setRate_X9_setRate
theorem dL_setRate_0 : decode cL_setRate 0 = .ok (.aload_n 0, 1) := by decide +kernel
theorem dL_setRate_1 : decode cL_setRate 1 = .ok (.iload_n 1, 1) := by decide +kernel
theorem dL_setRate_2 : decode cL_setRate 2 = .ok (.invokevirtual 99, 3) := by decide +kernel
theorem dL_setRate_5 : decode cL_setRate 5 = .ok (.ireturn, 1) := by decide +kernel
theorem dL_setRate_6 : decode cL_setRate 6 = .ok (.astore_n 2, 1) := by decide +kernel
theorem dL_setRate_7 : decode cL_setRate 7 = .ok (.ldc 21, 2) := by decide +kernel
theorem dL_setRate_9 : decode cL_setRate 9 = .ok (.ireturn, 1) := by decide +kernel
set_option maxRecDepth 20000 in
theorem ggL_equity_X9_equity : GoodIn wsL_equity wsX9_equity := goodIn_ca (goodIn_r _ [7, 8, 9, 10, 11, 12, 13, 14, 15, 16, 17, 18, 19, 20, 21, 22, 23, 24, 25, 26, 27, 28, 29, 30, 31, 32, 33, 34, 35, 36, 37, 38, 39, 40, 41, 42] (by decide +kernel) (by decide +kernel)) (goodIn_sub (fun _ h => List.mem_cons_of_mem _ (List.mem_append_right _ h)) (by decide +kernel))
set_option maxRecDepth 20000 in
theorem gL_equity_X9_equity : GoodIn wsL_equity (wsV RL 102 RX9 yX9_equity wsX9_equity) := goodIn_app (goodIn_of _ (by decide +kernel)) ggL_equity_X9_equity
theorem dL_equity_0 : decode cL_equity 0 = .ok (.aload_n 0, 1) := by decide +kernel
theorem dL_equity_1 : decode cL_equity 1 = .ok (.iload_n 1, 1) := by decide +kernel
theorem dL_equity_2 : decode cL_equity 2 = .ok (.iload_n 2, 1) := by decide +kernel
theorem dL_equity_3 : decode cL_equity 3 = .ok (.invokevirtual 102, 3) := by decide +kernel
theorem dL_equity_6 : decode cL_equity 6 = .ok (.lreturn, 1) := by decide +kernel
theorem dL_equity_7 : decode cL_equity 7 = .ok (.astore_n 3, 1) := by decide +kernel
theorem dL_equity_8 : decode cL_equity 8 = .ok (.ldc2_w 106, 3) := by decide +kernel
theorem dL_equity_11 : decode cL_equity 11 = .ok (.lreturn, 1) := by decide +kernel
set_option maxRecDepth 20000 in
theorem ggL_seat_X9_seat : GoodIn wsL_seat wsX9_seat := goodIn_ca (goodIn_ca (goodIn_r _ [9, 10, 11, 12, 13, 14, 15, 16, 17, 18, 19, 20, 21, 22, 23, 24, 25, 26, 27, 28, 29, 30, 31, 32, 33, 34, 35, 36, 37, 38, 39, 40, 41, 42, 43, 44, 45, 46, 47, 48, 49, 50, 51, 52, 53, 54, 55, 56, 57, 58, 59, 60, 61, 62, 63, 64, 65, 66, 67, 68, 69, 70, 71, 72, 73] (by decide +kernel) (by decide +kernel)) (goodIn_sub (fun _ h => List.mem_cons_of_mem _ (List.mem_append_left _ (List.mem_append_right _ h))) (by decide +kernel))) (goodIn_sub (fun _ h => List.mem_cons_of_mem _ (List.mem_append_right _ h)) (by decide +kernel))
set_option maxRecDepth 20000 in
theorem gL_seat_X9_seat : GoodIn wsL_seat (wsV RL 108 RX9 yX9_seat wsX9_seat) := goodIn_app (goodIn_of _ (by decide +kernel)) ggL_seat_X9_seat
theorem dL_seat_0 : decode cL_seat 0 = .ok (.aload_n 0, 1) := by decide +kernel
theorem dL_seat_1 : decode cL_seat 1 = .ok (.iload_n 1, 1) := by decide +kernel
theorem dL_seat_2 : decode cL_seat 2 = .ok (.invokevirtual 108, 3) := by decide +kernel
theorem dL_seat_5 : decode cL_seat 5 = .ok (.ireturn, 1) := by decide +kernel
theorem dL_seat_6 : decode cL_seat 6 = .ok (.astore_n 2, 1) := by decide +kernel
theorem dL_seat_7 : decode cL_seat 7 = .ok (.ldc 21, 2) := by decide +kernel
theorem dL_seat_9 : decode cL_seat 9 = .ok (.ireturn, 1) := by decide +kernel
theorem dL_seat_10 : decode cL_seat 10 = .ok (.astore_n 2, 1) := by decide +kernel
theorem dL_seat_11 : decode cL_seat 11 = .ok (.ldc 24, 2) := by decide +kernel
theorem dL_seat_13 : decode cL_seat 13 = .ok (.ireturn, 1) := by decide +kernel
set_option maxRecDepth 20000 in
theorem ggL_account_X9_account : GoodIn wsL_account wsX9_account := goodIn_ca (goodIn_r _ [7, 8, 9, 10, 11, 12, 13, 14, 15, 16, 17, 18, 19, 20, 21, 22, 23, 24, 25, 26, 27, 28, 29, 30, 31, 32, 33, 34, 35, 36, 37, 38, 39, 40, 41] (by decide +kernel) (by decide +kernel)) (goodIn_sub (fun _ h => List.mem_cons_of_mem _ (List.mem_append_right _ h)) (by decide +kernel))
set_option maxRecDepth 20000 in
theorem gL_account_X9_account : GoodIn wsL_account (wsV RL 111 RX9 yX9_account wsX9_account) := goodIn_app (goodIn_of _ (by decide +kernel)) ggL_account_X9_account
theorem dL_account_0 : decode cL_account 0 = .ok (.aload_n 0, 1) := by decide +kernel
theorem dL_account_1 : decode cL_account 1 = .ok (.iload_n 1, 1) := by decide +kernel
theorem dL_account_2 : decode cL_account 2 = .ok (.invokevirtual 111, 3) := by decide +kernel
theorem dL_account_5 : decode cL_account 5 = .ok (.lreturn, 1) := by decide +kernel
theorem dL_account_6 : decode cL_account 6 = .ok (.astore_n 2, 1) := by decide +kernel
theorem dL_account_7 : decode cL_account 7 = .ok (.ldc2_w 97, 3) := by decide +kernel
theorem dL_account_10 : decode cL_account 10 = .ok (.lreturn, 1) := by decide +kernel
set_option maxRecDepth 20000 in
theorem ggL_playedAt_X9_playedAt : GoodIn wsL_playedAt wsX9_playedAt := goodIn_ca (goodIn_r _ [7, 8, 9, 10, 11, 6, 12, 13, 14, 15, 16, 17, 18, 19, 20, 21, 22, 23, 24, 25, 26, 27, 28, 29, 30, 31, 32, 33, 34, 35, 36, 37, 38, 39, 40, 41, 42, 43, 44, 45, 46, 47, 48] (by decide +kernel) (by decide +kernel)) (goodIn_sub (fun _ h => List.mem_cons_of_mem _ (List.mem_append_right _ h)) (by decide +kernel))
set_option maxRecDepth 20000 in
theorem gL_playedAt_X9_playedAt : GoodIn wsL_playedAt (wsV RL 126 RX9 yX9_playedAt wsX9_playedAt) := goodIn_app (goodIn_of _ (by decide +kernel)) ggL_playedAt_X9_playedAt
theorem dL_playedAt_0 : decode cL_playedAt 0 = .ok (.aload_n 0, 1) := by decide +kernel
theorem dL_playedAt_1 : decode cL_playedAt 1 = .ok (.iload_n 1, 1) := by decide +kernel
theorem dL_playedAt_2 : decode cL_playedAt 2 = .ok (.invokevirtual 126, 3) := by decide +kernel
theorem dL_playedAt_5 : decode cL_playedAt 5 = .ok (.ireturn, 1) := by decide +kernel
theorem dL_playedAt_6 : decode cL_playedAt 6 = .ok (.astore_n 2, 1) := by decide +kernel
theorem dL_playedAt_7 : decode cL_playedAt 7 = .ok (.ldc 45, 2) := by decide +kernel
theorem dL_playedAt_9 : decode cL_playedAt 9 = .ok (.ireturn, 1) := by decide +kernel
set_option maxRecDepth 20000 in
theorem ggL_rolledAt_X9_rolledAt : GoodIn wsL_rolledAt wsX9_rolledAt := goodIn_ca (goodIn_r _ [7, 8, 9, 10, 11, 6, 12, 13, 14, 15, 16, 17, 18, 19, 20, 21, 22, 23, 24, 25, 26, 27, 28, 29, 30, 31, 32, 33, 34, 35, 36, 37, 38, 39, 40, 41, 42, 43, 44, 45, 46, 47, 48] (by decide +kernel) (by decide +kernel)) (goodIn_sub (fun _ h => List.mem_cons_of_mem _ (List.mem_append_right _ h)) (by decide +kernel))
set_option maxRecDepth 20000 in
theorem gL_rolledAt_X9_rolledAt : GoodIn wsL_rolledAt (wsV RL 129 RX9 yX9_rolledAt wsX9_rolledAt) := goodIn_app (goodIn_of _ (by decide +kernel)) ggL_rolledAt_X9_rolledAt
theorem dL_rolledAt_0 : decode cL_rolledAt 0 = .ok (.aload_n 0, 1) := by decide +kernel
theorem dL_rolledAt_1 : decode cL_rolledAt 1 = .ok (.iload_n 1, 1) := by decide +kernel
theorem dL_rolledAt_2 : decode cL_rolledAt 2 = .ok (.invokevirtual 129, 3) := by decide +kernel
theorem dL_rolledAt_5 : decode cL_rolledAt 5 = .ok (.ireturn, 1) := by decide +kernel
theorem dL_rolledAt_6 : decode cL_rolledAt 6 = .ok (.astore_n 2, 1) := by decide +kernel
theorem dL_rolledAt_7 : decode cL_rolledAt 7 = .ok (.ldc 45, 2) := by decide +kernel
theorem dL_rolledAt_9 : decode cL_rolledAt 9 = .ok (.ireturn, 1) := by decide +kernel
set_option maxRecDepth 20000 in
theorem ggL_begin_X9_begin : GoodIn wsL_begin wsX9_begin := goodIn_ca (goodIn_ca (goodIn_r _ [9, 10, 11, 12, 13, 14, 15, 16, 17, 18, 19, 20, 21, 8, 22, 23, 24, 25, 26, 27, 28, 29, 30, 31, 32, 33, 34, 35, 36, 37, 38, 39, 40, 41, 42, 43, 44, 45, 46, 47, 48, 49, 50, 51, 52, 53, 54, 55, 56, 57, 58, 59, 60, 61, 62, 63, 64, 65, 66, 67, 68, 69, 70, 71, 72, 73, 74, 75, 76, 77, 78, 79, 80, 81, 82, 83, 84, 85, 86, 87, 88, 89, 90, 91, 92, 93, 94, 95, 96, 97, 98, 99, 100, 101, 102, 103, 104, 105, 106, 107, 108, 109, 110, 111, 112, 113, 114, 115] (by decide +kernel) (by decide +kernel)) (goodIn_sub (fun _ h => List.mem_cons_of_mem _ (List.mem_append_left _ (List.mem_append_right _ h))) (by decide +kernel))) (goodIn_sub (fun _ h => List.mem_cons_of_mem _ (List.mem_append_right _ h)) (by decide +kernel))
set_option maxRecDepth 20000 in
theorem gL_begin_X9_begin : GoodIn wsL_begin (wsV RL 132 RX9 yX9_begin wsX9_begin) := goodIn_app (goodIn_of _ (by decide +kernel)) ggL_begin_X9_begin
theorem dL_begin_0 : decode cL_begin 0 = .ok (.aload_n 0, 1) := by decide +kernel
theorem dL_begin_1 : decode cL_begin 1 = .ok (.iload_n 1, 1) := by decide +kernel
theorem dL_begin_2 : decode cL_begin 2 = .ok (.invokevirtual 132, 3) := by decide +kernel
theorem dL_begin_5 : decode cL_begin 5 = .ok (.ifCond .eq 7, 3) := by decide +kernel
theorem dL_begin_8 : decode cL_begin 8 = .ok (.iconst 1, 1) := by decide +kernel
theorem dL_begin_9 : decode cL_begin 9 = .ok (.goto 4, 3) := by decide +kernel
theorem dL_begin_12 : decode cL_begin 12 = .ok (.iconst 0, 1) := by decide +kernel
theorem dL_begin_13 : decode cL_begin 13 = .ok (.ireturn, 1) := by decide +kernel
theorem dL_begin_14 : decode cL_begin 14 = .ok (.astore_n 2, 1) := by decide +kernel
theorem dL_begin_15 : decode cL_begin 15 = .ok (.ldc 21, 2) := by decide +kernel
theorem dL_begin_17 : decode cL_begin 17 = .ok (.ireturn, 1) := by decide +kernel
theorem dL_begin_18 : decode cL_begin 18 = .ok (.astore_n 2, 1) := by decide +kernel
theorem dL_begin_19 : decode cL_begin 19 = .ok (.ldc 24, 2) := by decide +kernel
theorem dL_begin_21 : decode cL_begin 21 = .ok (.ireturn, 1) := by decide +kernel
set_option maxRecDepth 20000 in
theorem ggL_move_X9_move : GoodIn wsL_move wsX9_move := goodIn_ca (goodIn_ca (goodIn_r _ [9, 10, 11, 12, 13, 14, 15, 16, 17, 8, 18, 19, 20, 21, 22, 23, 24, 25, 26, 27, 28, 29, 30, 31, 32, 33, 34, 35, 36, 37, 38, 39, 40, 41, 42, 43, 44, 45, 46, 47, 48, 49, 50, 51, 52, 53, 54, 55, 56, 57, 58, 59, 60, 61, 62, 63, 64, 65, 66, 67, 68, 69, 70, 71, 72, 73, 74, 75, 76, 77, 78, 79, 80, 81, 82, 83, 84] (by decide +kernel) (by decide +kernel)) (goodIn_sub (fun _ h => List.mem_cons_of_mem _ (List.mem_append_left _ (List.mem_append_right _ h))) (by decide +kernel))) (goodIn_sub (fun _ h => List.mem_cons_of_mem _ (List.mem_append_right _ h)) (by decide +kernel))
set_option maxRecDepth 20000 in
theorem gL_move_X9_move : GoodIn wsL_move (wsV RL 136 RX9 yX9_move wsX9_move) := goodIn_app (goodIn_of _ (by decide +kernel)) ggL_move_X9_move
theorem dL_move_0 : decode cL_move 0 = .ok (.aload_n 0, 1) := by decide +kernel
theorem dL_move_1 : decode cL_move 1 = .ok (.iload_n 1, 1) := by decide +kernel
theorem dL_move_2 : decode cL_move 2 = .ok (.iload_n 2, 1) := by decide +kernel
theorem dL_move_3 : decode cL_move 3 = .ok (.invokevirtual 136, 3) := by decide +kernel
theorem dL_move_6 : decode cL_move 6 = .ok (.ifCond .eq 7, 3) := by decide +kernel
theorem dL_move_9 : decode cL_move 9 = .ok (.iconst 1, 1) := by decide +kernel
theorem dL_move_10 : decode cL_move 10 = .ok (.goto 4, 3) := by decide +kernel
theorem dL_move_13 : decode cL_move 13 = .ok (.iconst 0, 1) := by decide +kernel
theorem dL_move_14 : decode cL_move 14 = .ok (.ireturn, 1) := by decide +kernel
theorem dL_move_15 : decode cL_move 15 = .ok (.astore_n 3, 1) := by decide +kernel
theorem dL_move_16 : decode cL_move 16 = .ok (.ldc 24, 2) := by decide +kernel
theorem dL_move_18 : decode cL_move 18 = .ok (.ireturn, 1) := by decide +kernel
theorem dL_move_19 : decode cL_move 19 = .ok (.astore_n 3, 1) := by decide +kernel
theorem dL_move_20 : decode cL_move 20 = .ok (.ldc 63, 2) := by decide +kernel
theorem dL_move_22 : decode cL_move 22 = .ok (.ireturn, 1) := by decide +kernel
set_option maxRecDepth 20000 in
theorem ggL_chance_X9_chance : GoodIn wsL_chance wsX9_chance := goodIn_ca (goodIn_ca (goodIn_r _ [9, 10, 11, 12, 13, 14, 15, 16, 17, 8, 18, 19, 20, 21, 22, 23, 24, 25, 26, 27, 28, 29, 30, 31, 32, 33, 34, 35, 36, 37, 38, 39, 40, 41, 42, 43, 44, 45, 46, 47, 48, 49, 50, 51, 52, 53, 54, 55, 56, 57, 58, 59, 60, 61, 62, 63, 64, 65, 66, 67, 68, 69, 70, 71, 72, 73, 74, 75, 76, 77, 78, 79, 80, 81, 82, 83, 84, 85, 86, 87, 88, 89, 90, 91, 92, 93, 94, 95, 96, 97] (by decide +kernel) (by decide +kernel)) (goodIn_sub (fun _ h => List.mem_cons_of_mem _ (List.mem_append_left _ (List.mem_append_right _ h))) (by decide +kernel))) (goodIn_sub (fun _ h => List.mem_cons_of_mem _ (List.mem_append_right _ h)) (by decide +kernel))
set_option maxRecDepth 20000 in
theorem gL_chance_X9_chance : GoodIn wsL_chance (wsV RL 140 RX9 yX9_chance wsX9_chance) := goodIn_app (goodIn_of _ (by decide +kernel)) ggL_chance_X9_chance
theorem dL_chance_0 : decode cL_chance 0 = .ok (.aload_n 0, 1) := by decide +kernel
theorem dL_chance_1 : decode cL_chance 1 = .ok (.invokevirtual 140, 3) := by decide +kernel
theorem dL_chance_4 : decode cL_chance 4 = .ok (.dreturn, 1) := by decide +kernel
theorem dL_chance_5 : decode cL_chance 5 = .ok (.astore_n 1, 1) := by decide +kernel
theorem dL_chance_6 : decode cL_chance 6 = .ok (.ldc2_w 144, 3) := by decide +kernel
theorem dL_chance_9 : decode cL_chance 9 = .ok (.dreturn, 1) := by decide +kernel
theorem dL_chance_10 : decode cL_chance 10 = .ok (.astore_n 1, 1) := by decide +kernel
theorem dL_chance_11 : decode cL_chance 11 = .ok (.ldc2_w 146, 3) := by decide +kernel
theorem dL_chance_14 : decode cL_chance 14 = .ok (.dreturn, 1) := by decide +kernel
set_option maxRecDepth 20000 in
theorem ggL_whole_L_men : GoodIn wsL_whole wsL_men := goodIn_ca (goodIn_ca (goodIn_r _ [4, 5, 6, 7, 8, 9, 10, 11, 12, 13, 14, 15, 16, 17, 18, 19, 20, 21, 22, 23, 24, 25, 26, 27, 40, 41, 42, 43, 44, 45, 46, 47, 48, 49, 50, 51, 52, 53, 54, 55, 56, 57] (by decide +kernel) (by decide +kernel)) (goodIn_sub (fun _ h => List.mem_cons_of_mem _ (List.mem_append_left _ (List.mem_append_right _ h))) (by decide +kernel))) (goodIn_sub (fun _ h => List.mem_cons_of_mem _ (List.mem_append_right _ h)) (by decide +kernel))
set_option maxRecDepth 20000 in
theorem gL_whole_L_men : GoodIn wsL_whole (va_wsS RL 148 yL_men wsL_men) := goodIn_app (goodIn_of _ (by decide +kernel)) ggL_whole_L_men
set_option maxRecDepth 20000 in
theorem ggL_whole_L_pips : GoodIn wsL_whole wsL_pips := goodIn_ca (goodIn_r _ [30, 5, 7, 31, 32, 33, 12, 34, 16, 17, 18, 19, 20, 21, 35, 36, 37, 25, 38, 39, 23, 24, 26, 27, 40, 41, 42, 43, 44, 45, 46, 47, 48, 49, 50, 51, 52, 53, 54, 55, 56, 57] (by decide +kernel) (by decide +kernel)) (goodIn_sub (fun _ h => List.mem_cons_of_mem _ (List.mem_append_right _ h)) (by decide +kernel))
set_option maxRecDepth 20000 in
theorem gL_whole_L_pips : GoodIn wsL_whole (va_wsS RL 151 yL_pips wsL_pips) := goodIn_app (goodIn_of _ (by decide +kernel)) ggL_whole_L_pips
theorem dL_whole_0 : decode cL_whole 0 = .ok (.iconst 0, 1) := by decide +kernel
theorem dL_whole_1 : decode cL_whole 1 = .ok (.istore_n 2, 1) := by decide +kernel
theorem dL_whole_2 : decode cL_whole 2 = .ok (.iload_n 2, 1) := by decide +kernel
theorem dL_whole_3 : decode cL_whole 3 = .ok (.iconst 2, 1) := by decide +kernel
theorem dL_whole_4 : decode cL_whole 4 = .ok (.if_icmp .ge 110, 3) := by decide +kernel
theorem dL_whole_7 : decode cL_whole 7 = .ok (.iconst 0, 1) := by decide +kernel
theorem dL_whole_8 : decode cL_whole 8 = .ok (.istore_n 3, 1) := by decide +kernel
theorem dL_whole_9 : decode cL_whole 9 = .ok (.iconst 0, 1) := by decide +kernel
theorem dL_whole_10 : decode cL_whole 10 = .ok (.istore 4, 2) := by decide +kernel
theorem dL_whole_12 : decode cL_whole 12 = .ok (.iconst 0, 1) := by decide +kernel
theorem dL_whole_13 : decode cL_whole 13 = .ok (.istore 5, 2) := by decide +kernel
theorem dL_whole_15 : decode cL_whole 15 = .ok (.iload 5, 2) := by decide +kernel
theorem dL_whole_17 : decode cL_whole 17 = .ok (.bipush 26, 2) := by decide +kernel
theorem dL_whole_19 : decode cL_whole 19 = .ok (.if_icmp .ge 72, 3) := by decide +kernel
theorem dL_whole_22 : decode cL_whole 22 = .ok (.aload_n 0, 1) := by decide +kernel
theorem dL_whole_23 : decode cL_whole 23 = .ok (.iload_n 2, 1) := by decide +kernel
theorem dL_whole_24 : decode cL_whole 24 = .ok (.iload 5, 2) := by decide +kernel
theorem dL_whole_26 : decode cL_whole 26 = .ok (.invokestatic 148, 3) := by decide +kernel
theorem dL_whole_29 : decode cL_whole 29 = .ok (.istore 6, 2) := by decide +kernel
theorem dL_whole_31 : decode cL_whole 31 = .ok (.iload 6, 2) := by decide +kernel
theorem dL_whole_33 : decode cL_whole 33 = .ok (.ifCond .lt 35, 3) := by decide +kernel
theorem dL_whole_36 : decode cL_whole 36 = .ok (.iload 5, 2) := by decide +kernel
theorem dL_whole_38 : decode cL_whole 38 = .ok (.ifCond .le 32, 3) := by decide +kernel
theorem dL_whole_41 : decode cL_whole 41 = .ok (.iload 5, 2) := by decide +kernel
theorem dL_whole_43 : decode cL_whole 43 = .ok (.bipush 25, 2) := by decide +kernel
theorem dL_whole_45 : decode cL_whole 45 = .ok (.if_icmp .ge 25, 3) := by decide +kernel
theorem dL_whole_48 : decode cL_whole 48 = .ok (.iload 6, 2) := by decide +kernel
theorem dL_whole_50 : decode cL_whole 50 = .ok (.ifCond .le 20, 3) := by decide +kernel
theorem dL_whole_53 : decode cL_whole 53 = .ok (.aload_n 0, 1) := by decide +kernel
theorem dL_whole_54 : decode cL_whole 54 = .ok (.iconst 1, 1) := by decide +kernel
theorem dL_whole_55 : decode cL_whole 55 = .ok (.iload_n 2, 1) := by decide +kernel
theorem dL_whole_56 : decode cL_whole 56 = .ok (.isub, 1) := by decide +kernel
theorem dL_whole_57 : decode cL_whole 57 = .ok (.bipush 25, 2) := by decide +kernel
theorem dL_whole_59 : decode cL_whole 59 = .ok (.iload 5, 2) := by decide +kernel
theorem dL_whole_61 : decode cL_whole 61 = .ok (.isub, 1) := by decide +kernel
theorem dL_whole_62 : decode cL_whole 62 = .ok (.invokestatic 148, 3) := by decide +kernel
theorem dL_whole_65 : decode cL_whole 65 = .ok (.ifCond .le 5, 3) := by decide +kernel
theorem dL_whole_68 : decode cL_whole 68 = .ok (.iconst 0, 1) := by decide +kernel
theorem dL_whole_69 : decode cL_whole 69 = .ok (.ireturn, 1) := by decide +kernel
theorem dL_whole_70 : decode cL_whole 70 = .ok (.iload_n 3, 1) := by decide +kernel
theorem dL_whole_71 : decode cL_whole 71 = .ok (.iload 6, 2) := by decide +kernel
theorem dL_whole_73 : decode cL_whole 73 = .ok (.iadd, 1) := by decide +kernel
theorem dL_whole_74 : decode cL_whole 74 = .ok (.istore_n 3, 1) := by decide +kernel
theorem dL_whole_75 : decode cL_whole 75 = .ok (.iload 4, 2) := by decide +kernel
theorem dL_whole_77 : decode cL_whole 77 = .ok (.iload 5, 2) := by decide +kernel
theorem dL_whole_79 : decode cL_whole 79 = .ok (.iload 6, 2) := by decide +kernel
theorem dL_whole_81 : decode cL_whole 81 = .ok (.imul, 1) := by decide +kernel
theorem dL_whole_82 : decode cL_whole 82 = .ok (.iadd, 1) := by decide +kernel
theorem dL_whole_83 : decode cL_whole 83 = .ok (.istore 4, 2) := by decide +kernel
theorem dL_whole_85 : decode cL_whole 85 = .ok (.iinc 5 1, 3) := by decide +kernel
theorem dL_whole_88 : decode cL_whole 88 = .ok (.goto (-73), 3) := by decide +kernel
theorem dL_whole_91 : decode cL_whole 91 = .ok (.iload_n 3, 1) := by decide +kernel
theorem dL_whole_92 : decode cL_whole 92 = .ok (.iload_n 1, 1) := by decide +kernel
theorem dL_whole_93 : decode cL_whole 93 = .ok (.if_icmp .ne 13, 3) := by decide +kernel
theorem dL_whole_96 : decode cL_whole 96 = .ok (.aload_n 0, 1) := by decide +kernel
theorem dL_whole_97 : decode cL_whole 97 = .ok (.iload_n 2, 1) := by decide +kernel
theorem dL_whole_98 : decode cL_whole 98 = .ok (.invokestatic 151, 3) := by decide +kernel
theorem dL_whole_101 : decode cL_whole 101 = .ok (.iload 4, 2) := by decide +kernel
theorem dL_whole_103 : decode cL_whole 103 = .ok (.if_icmp .eq 5, 3) := by decide +kernel
theorem dL_whole_106 : decode cL_whole 106 = .ok (.iconst 0, 1) := by decide +kernel
theorem dL_whole_107 : decode cL_whole 107 = .ok (.ireturn, 1) := by decide +kernel
theorem dL_whole_108 : decode cL_whole 108 = .ok (.iinc 2 1, 3) := by decide +kernel
theorem dL_whole_111 : decode cL_whole 111 = .ok (.goto (-109), 3) := by decide +kernel
theorem dL_whole_114 : decode cL_whole 114 = .ok (.iconst 1, 1) := by decide +kernel
theorem dL_whole_115 : decode cL_whole 115 = .ok (.ireturn, 1) := by decide +kernel
set_option maxRecDepth 20000 in
theorem ggL_law_X9_init : GoodIn wsL_law wsX9_init := goodIn_r _ [23, 24, 25, 26, 27, 28, 29, 30, 31, 32, 33, 34, 35, 36, 37, 38, 39, 40, 41, 42, 43, 44, 45, 46, 47, 48, 49, 50, 51, 52, 53, 54, 55, 56, 57, 58, 59, 60, 61, 62, 63, 64, 65, 66, 67, 68, 69, 70, 71, 72, 73, 74, 75, 76, 77, 78, 79, 80, 81, 82, 83, 18, 84, 85, 86, 87, 88, 89, 90, 91, 92, 93, 94, 95, 96, 97, 98, 99, 100, 101, 102, 103, 104, 105, 106, 107, 108, 109, 110, 111, 112, 113, 114, 115, 116, 117, 118, 119, 120, 121, 122, 123, 124, 125, 126, 127, 128, 129, 130, 131, 132, 133, 134, 135, 136, 137, 138, 139, 140, 141, 142, 143, 144, 145, 146, 147, 808, 809, 810, 811, 812, 813, 814, 791, 792, 793, 794, 795, 796, 797, 798, 799, 800, 801, 802, 803, 804, 805, 806, 807, 815, 816, 817, 818, 819, 820, 821, 822, 823, 824, 825, 826, 827, 828, 829, 830, 831, 832, 833, 834, 835, 836, 837, 838, 839, 840, 841, 842, 843, 844, 845, 846] (by decide +kernel) (by decide +kernel)
set_option maxRecDepth 20000 in
theorem gL_law_X9_init : GoodIn wsL_law (wsX9_init) := ggL_law_X9_init
set_option maxRecDepth 20000 in
theorem ggL_law_L_some : GoodIn wsL_law wsL_some := goodIn_r _ [151, 152, 153, 150, 154] (by decide +kernel) (by decide +kernel)
