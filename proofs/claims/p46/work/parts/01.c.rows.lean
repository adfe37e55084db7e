theorem dX0_init_0 : decode cX0_init 0 = .ok (.aload_n 0, 1) := by decide +kernel
theorem dX0_init_1 : decode cX0_init 1 = .ok (.invokespecial 3, 3) := by decide +kernel
theorem dX0_init_4 : decode cX0_init 4 = .ok (.aload_n 0, 1) := by decide +kernel
theorem dX0_init_5 : decode cX0_init 5 = .ok (.bipush 52, 2) := by decide +kernel
theorem dX0_init_7 : decode cX0_init 7 = .ok (.newarray .int, 2) := by decide +kernel
theorem dX0_init_9 : decode cX0_init 9 = .ok (.putfield 9, 3) := by decide +kernel
theorem dX0_init_12 : decode cX0_init 12 = .ok (.return_, 1) := by decide +kernel
theorem dX0_at_0 : decode cX0_at 0 = .ok (.iload_n 1, 1) := by decide +kernel
theorem dX0_at_1 : decode cX0_at 1 = .ok (.ifCond .lt 18, 3) := by decide +kernel
theorem dX0_at_4 : decode cX0_at 4 = .ok (.iload_n 1, 1) := by decide +kernel
theorem dX0_at_5 : decode cX0_at 5 = .ok (.iconst 1, 1) := by decide +kernel
theorem dX0_at_6 : decode cX0_at 6 = .ok (.if_icmp .gt 13, 3) := by decide +kernel
theorem dX0_at_9 : decode cX0_at 9 = .ok (.iload_n 2, 1) := by decide +kernel
theorem dX0_at_10 : decode cX0_at 10 = .ok (.ifCond .lt 9, 3) := by decide +kernel
theorem dX0_at_13 : decode cX0_at 13 = .ok (.iload_n 2, 1) := by decide +kernel
theorem dX0_at_14 : decode cX0_at 14 = .ok (.bipush 25, 2) := by decide +kernel
theorem dX0_at_16 : decode cX0_at 16 = .ok (.if_icmp .le 5, 3) := by decide +kernel
theorem dX0_at_19 : decode cX0_at 19 = .ok (.iconst 0, 1) := by decide +kernel
theorem dX0_at_20 : decode cX0_at 20 = .ok (.ireturn, 1) := by decide +kernel
theorem dX0_at_21 : decode cX0_at 21 = .ok (.aload_n 0, 1) := by decide +kernel
theorem dX0_at_22 : decode cX0_at 22 = .ok (.getfield 9, 3) := by decide +kernel
theorem dX0_at_25 : decode cX0_at 25 = .ok (.iload_n 1, 1) := by decide +kernel
theorem dX0_at_26 : decode cX0_at 26 = .ok (.bipush 26, 2) := by decide +kernel
theorem dX0_at_28 : decode cX0_at 28 = .ok (.imul, 1) := by decide +kernel
theorem dX0_at_29 : decode cX0_at 29 = .ok (.iload_n 2, 1) := by decide +kernel
theorem dX0_at_30 : decode cX0_at 30 = .ok (.iadd, 1) := by decide +kernel
theorem dX0_at_31 : decode cX0_at 31 = .ok (.iaload, 1) := by decide +kernel
theorem dX0_at_32 : decode cX0_at 32 = .ok (.ireturn, 1) := by decide +kernel
theorem dX0_add_0 : decode cX0_add 0 = .ok (.iload_n 1, 1) := by decide +kernel
theorem dX0_add_1 : decode cX0_add 1 = .ok (.ifCond .lt 33, 3) := by decide +kernel
theorem dX0_add_4 : decode cX0_add 4 = .ok (.iload_n 1, 1) := by decide +kernel
theorem dX0_add_5 : decode cX0_add 5 = .ok (.iconst 1, 1) := by decide +kernel
theorem dX0_add_6 : decode cX0_add 6 = .ok (.if_icmp .gt 28, 3) := by decide +kernel
theorem dX0_add_9 : decode cX0_add 9 = .ok (.iload_n 2, 1) := by decide +kernel
theorem dX0_add_10 : decode cX0_add 10 = .ok (.ifCond .lt 24, 3) := by decide +kernel
theorem dX0_add_13 : decode cX0_add 13 = .ok (.iload_n 2, 1) := by decide +kernel
theorem dX0_add_14 : decode cX0_add 14 = .ok (.bipush 25, 2) := by decide +kernel
theorem dX0_add_16 : decode cX0_add 16 = .ok (.if_icmp .gt 18, 3) := by decide +kernel
theorem dX0_add_19 : decode cX0_add 19 = .ok (.aload_n 0, 1) := by decide +kernel
theorem dX0_add_20 : decode cX0_add 20 = .ok (.getfield 9, 3) := by decide +kernel
theorem dX0_add_23 : decode cX0_add 23 = .ok (.iload_n 1, 1) := by decide +kernel
theorem dX0_add_24 : decode cX0_add 24 = .ok (.bipush 26, 2) := by decide +kernel
theorem dX0_add_26 : decode cX0_add 26 = .ok (.imul, 1) := by decide +kernel
theorem dX0_add_27 : decode cX0_add 27 = .ok (.iload_n 2, 1) := by decide +kernel
theorem dX0_add_28 : decode cX0_add 28 = .ok (.iadd, 1) := by decide +kernel
theorem dX0_add_29 : decode cX0_add 29 = .ok (.dup2, 1) := by decide +kernel
theorem dX0_add_30 : decode cX0_add 30 = .ok (.iaload, 1) := by decide +kernel
theorem dX0_add_31 : decode cX0_add 31 = .ok (.iload_n 3, 1) := by decide +kernel
theorem dX0_add_32 : decode cX0_add 32 = .ok (.iadd, 1) := by decide +kernel
theorem dX0_add_33 : decode cX0_add 33 = .ok (.iastore, 1) := by decide +kernel
theorem dX0_add_34 : decode cX0_add 34 = .ok (.return_, 1) := by decide +kernel
theorem dX0_become_0 : decode cX0_become 0 = .ok (.iconst 0, 1) := by decide +kernel
theorem dX0_become_1 : decode cX0_become 1 = .ok (.istore_n 2, 1) := by decide +kernel
theorem dX0_become_2 : decode cX0_become 2 = .ok (.iload_n 2, 1) := by decide +kernel
theorem dX0_become_3 : decode cX0_become 3 = .ok (.aload_n 0, 1) := by decide +kernel
theorem dX0_become_4 : decode cX0_become 4 = .ok (.getfield 9, 3) := by decide +kernel
theorem dX0_become_7 : decode cX0_become 7 = .ok (.arraylength, 1) := by decide +kernel
theorem dX0_become_8 : decode cX0_become 8 = .ok (.if_icmp .ge 21, 3) := by decide +kernel
theorem dX0_become_11 : decode cX0_become 11 = .ok (.aload_n 0, 1) := by decide +kernel
theorem dX0_become_12 : decode cX0_become 12 = .ok (.getfield 9, 3) := by decide +kernel
theorem dX0_become_15 : decode cX0_become 15 = .ok (.iload_n 2, 1) := by decide +kernel
theorem dX0_become_16 : decode cX0_become 16 = .ok (.aload_n 1, 1) := by decide +kernel
theorem dX0_become_17 : decode cX0_become 17 = .ok (.getfield 9, 3) := by decide +kernel
theorem dX0_become_20 : decode cX0_become 20 = .ok (.iload_n 2, 1) := by decide +kernel
theorem dX0_become_21 : decode cX0_become 21 = .ok (.iaload, 1) := by decide +kernel
theorem dX0_become_22 : decode cX0_become 22 = .ok (.iastore, 1) := by decide +kernel
theorem dX0_become_23 : decode cX0_become 23 = .ok (.iinc 2 1, 3) := by decide +kernel
theorem dX0_become_26 : decode cX0_become 26 = .ok (.goto (-24), 3) := by decide +kernel
theorem dX0_become_29 : decode cX0_become 29 = .ok (.return_, 1) := by decide +kernel
theorem dX0_isLike_0 : decode cX0_isLike 0 = .ok (.iconst 0, 1) := by decide +kernel
theorem dX0_isLike_1 : decode cX0_isLike 1 = .ok (.istore_n 2, 1) := by decide +kernel
theorem dX0_isLike_2 : decode cX0_isLike 2 = .ok (.iload_n 2, 1) := by decide +kernel
theorem dX0_isLike_3 : decode cX0_isLike 3 = .ok (.aload_n 0, 1) := by decide +kernel
theorem dX0_isLike_4 : decode cX0_isLike 4 = .ok (.getfield 9, 3) := by decide +kernel
theorem dX0_isLike_7 : decode cX0_isLike 7 = .ok (.arraylength, 1) := by decide +kernel
theorem dX0_isLike_8 : decode cX0_isLike 8 = .ok (.if_icmp .ge 26, 3) := by decide +kernel
theorem dX0_isLike_11 : decode cX0_isLike 11 = .ok (.aload_n 0, 1) := by decide +kernel
theorem dX0_isLike_12 : decode cX0_isLike 12 = .ok (.getfield 9, 3) := by decide +kernel
theorem dX0_isLike_15 : decode cX0_isLike 15 = .ok (.iload_n 2, 1) := by decide +kernel
theorem dX0_isLike_16 : decode cX0_isLike 16 = .ok (.iaload, 1) := by decide +kernel
theorem dX0_isLike_17 : decode cX0_isLike 17 = .ok (.aload_n 1, 1) := by decide +kernel
theorem dX0_isLike_18 : decode cX0_isLike 18 = .ok (.getfield 9, 3) := by decide +kernel
theorem dX0_isLike_21 : decode cX0_isLike 21 = .ok (.iload_n 2, 1) := by decide +kernel
theorem dX0_isLike_22 : decode cX0_isLike 22 = .ok (.iaload, 1) := by decide +kernel
theorem dX0_isLike_23 : decode cX0_isLike 23 = .ok (.if_icmp .eq 5, 3) := by decide +kernel
theorem dX0_isLike_26 : decode cX0_isLike 26 = .ok (.iconst 0, 1) := by decide +kernel
theorem dX0_isLike_27 : decode cX0_isLike 27 = .ok (.ireturn, 1) := by decide +kernel
theorem dX0_isLike_28 : decode cX0_isLike 28 = .ok (.iinc 2 1, 3) := by decide +kernel
theorem dX0_isLike_31 : decode cX0_isLike 31 = .ok (.goto (-29), 3) := by decide +kernel
theorem dX0_isLike_34 : decode cX0_isLike 34 = .ok (.iconst 1, 1) := by decide +kernel
theorem dX0_isLike_35 : decode cX0_isLike 35 = .ok (.ireturn, 1) := by decide +kernel
set_option maxRecDepth 20000 in
theorem ggX0_layOut_J7_fill_53178 : GoodIn wsX0_layOut wsJ7_fill_53178 := goodIn_r _ [5] (by decide +kernel) (by decide +kernel)
set_option maxRecDepth 20000 in
theorem gX0_layOut_J7_fill_53178 : GoodIn wsX0_layOut (va_wsS RX0 15 yJ7_fill_53178 wsJ7_fill_53178) := goodIn_app (goodIn_of _ (by decide +kernel)) ggX0_layOut_J7_fill_53178
set_option maxRecDepth 20000 in
theorem ggX0_layOut_X0_add : GoodIn wsX0_layOut wsX0_add := goodIn_r _ [10, 1, 11] (by decide +kernel) (by decide +kernel)
set_option maxRecDepth 20000 in
theorem gX0_layOut_X0_add : GoodIn wsX0_layOut (wsV RX0 21 RX0 yX0_add wsX0_add) := goodIn_app (goodIn_of _ (by decide +kernel)) ggX0_layOut_X0_add
theorem dX0_layOut_0 : decode cX0_layOut 0 = .ok (.aload_n 0, 1) := by decide +kernel
theorem dX0_layOut_1 : decode cX0_layOut 1 = .ok (.getfield 9, 3) := by decide +kernel
theorem dX0_layOut_4 : decode cX0_layOut 4 = .ok (.iconst 0, 1) := by decide +kernel
theorem dX0_layOut_5 : decode cX0_layOut 5 = .ok (.invokestatic 15, 3) := by decide +kernel
theorem dX0_layOut_8 : decode cX0_layOut 8 = .ok (.iconst 0, 1) := by decide +kernel
theorem dX0_layOut_9 : decode cX0_layOut 9 = .ok (.istore_n 2, 1) := by decide +kernel
theorem dX0_layOut_10 : decode cX0_layOut 10 = .ok (.iload_n 2, 1) := by decide +kernel
theorem dX0_layOut_11 : decode cX0_layOut 11 = .ok (.iconst 1, 1) := by decide +kernel
theorem dX0_layOut_12 : decode cX0_layOut 12 = .ok (.iadd, 1) := by decide +kernel
theorem dX0_layOut_13 : decode cX0_layOut 13 = .ok (.aload_n 1, 1) := by decide +kernel
theorem dX0_layOut_14 : decode cX0_layOut 14 = .ok (.arraylength, 1) := by decide +kernel
theorem dX0_layOut_15 : decode cX0_layOut 15 = .ok (.if_icmp .ge 35, 3) := by decide +kernel
theorem dX0_layOut_18 : decode cX0_layOut 18 = .ok (.aload_n 0, 1) := by decide +kernel
theorem dX0_layOut_19 : decode cX0_layOut 19 = .ok (.iconst 0, 1) := by decide +kernel
theorem dX0_layOut_20 : decode cX0_layOut 20 = .ok (.aload_n 1, 1) := by decide +kernel
theorem dX0_layOut_21 : decode cX0_layOut 21 = .ok (.iload_n 2, 1) := by decide +kernel
theorem dX0_layOut_22 : decode cX0_layOut 22 = .ok (.iaload, 1) := by decide +kernel
theorem dX0_layOut_23 : decode cX0_layOut 23 = .ok (.aload_n 1, 1) := by decide +kernel
theorem dX0_layOut_24 : decode cX0_layOut 24 = .ok (.iload_n 2, 1) := by decide +kernel
theorem dX0_layOut_25 : decode cX0_layOut 25 = .ok (.iconst 1, 1) := by decide +kernel
theorem dX0_layOut_26 : decode cX0_layOut 26 = .ok (.iadd, 1) := by decide +kernel
theorem dX0_layOut_27 : decode cX0_layOut 27 = .ok (.iaload, 1) := by decide +kernel
theorem dX0_layOut_28 : decode cX0_layOut 28 = .ok (.invokevirtual 21, 3) := by decide +kernel
theorem dX0_layOut_31 : decode cX0_layOut 31 = .ok (.aload_n 0, 1) := by decide +kernel
theorem dX0_layOut_32 : decode cX0_layOut 32 = .ok (.iconst 1, 1) := by decide +kernel
theorem dX0_layOut_33 : decode cX0_layOut 33 = .ok (.aload_n 1, 1) := by decide +kernel
theorem dX0_layOut_34 : decode cX0_layOut 34 = .ok (.iload_n 2, 1) := by decide +kernel
theorem dX0_layOut_35 : decode cX0_layOut 35 = .ok (.iaload, 1) := by decide +kernel
theorem dX0_layOut_36 : decode cX0_layOut 36 = .ok (.aload_n 1, 1) := by decide +kernel
theorem dX0_layOut_37 : decode cX0_layOut 37 = .ok (.iload_n 2, 1) := by decide +kernel
theorem dX0_layOut_38 : decode cX0_layOut 38 = .ok (.iconst 1, 1) := by decide +kernel
theorem dX0_layOut_39 : decode cX0_layOut 39 = .ok (.iadd, 1) := by decide +kernel
theorem dX0_layOut_40 : decode cX0_layOut 40 = .ok (.iaload, 1) := by decide +kernel
theorem dX0_layOut_41 : decode cX0_layOut 41 = .ok (.invokevirtual 21, 3) := by decide +kernel
theorem dX0_layOut_44 : decode cX0_layOut 44 = .ok (.iinc 2 2, 3) := by decide +kernel
theorem dX0_layOut_47 : decode cX0_layOut 47 = .ok (.goto (-37), 3) := by decide +kernel
theorem dX0_layOut_50 : decode cX0_layOut 50 = .ok (.return_, 1) := by decide +kernel
set_option maxRecDepth 20000 in
theorem ggX0_total_X0_at : GoodIn wsX0_total wsX0_at := goodIn_r _ [5, 6, 7] (by decide +kernel) (by decide +kernel)
set_option maxRecDepth 20000 in
theorem gX0_total_X0_at : GoodIn wsX0_total (wsV RX0 25 RX0 yX0_at wsX0_at) := goodIn_app (goodIn_of _ (by decide +kernel)) ggX0_total_X0_at
theorem dX0_total_0 : decode cX0_total 0 = .ok (.iconst 0, 1) := by decide +kernel
theorem dX0_total_1 : decode cX0_total 1 = .ok (.istore_n 2, 1) := by decide +kernel
theorem dX0_total_2 : decode cX0_total 2 = .ok (.iconst 0, 1) := by decide +kernel
theorem dX0_total_3 : decode cX0_total 3 = .ok (.istore_n 3, 1) := by decide +kernel
theorem dX0_total_4 : decode cX0_total 4 = .ok (.iload_n 3, 1) := by decide +kernel
theorem dX0_total_5 : decode cX0_total 5 = .ok (.bipush 25, 2) := by decide +kernel
theorem dX0_total_7 : decode cX0_total 7 = .ok (.if_icmp .gt 18, 3) := by decide +kernel
theorem dX0_total_10 : decode cX0_total 10 = .ok (.iload_n 2, 1) := by decide +kernel
theorem dX0_total_11 : decode cX0_total 11 = .ok (.aload_n 0, 1) := by decide +kernel
theorem dX0_total_12 : decode cX0_total 12 = .ok (.iload_n 1, 1) := by decide +kernel
theorem dX0_total_13 : decode cX0_total 13 = .ok (.iload_n 3, 1) := by decide +kernel
theorem dX0_total_14 : decode cX0_total 14 = .ok (.invokevirtual 25, 3) := by decide +kernel
theorem dX0_total_17 : decode cX0_total 17 = .ok (.iadd, 1) := by decide +kernel
theorem dX0_total_18 : decode cX0_total 18 = .ok (.istore_n 2, 1) := by decide +kernel
theorem dX0_total_19 : decode cX0_total 19 = .ok (.iinc 3 1, 3) := by decide +kernel
theorem dX0_total_22 : decode cX0_total 22 = .ok (.goto (-18), 3) := by decide +kernel
theorem dX0_total_25 : decode cX0_total 25 = .ok (.iload_n 2, 1) := by decide +kernel
theorem dX0_total_26 : decode cX0_total 26 = .ok (.ireturn, 1) := by decide +kernel
set_option maxRecDepth 20000 in
theorem ggX0_pipsOf_X0_at : GoodIn wsX0_pipsOf wsX0_at := goodIn_r _ [5, 6, 7] (by decide +kernel) (by decide +kernel)
set_option maxRecDepth 20000 in
theorem gX0_pipsOf_X0_at : GoodIn wsX0_pipsOf (wsV RX0 25 RX0 yX0_at wsX0_at) := goodIn_app (goodIn_of _ (by decide +kernel)) ggX0_pipsOf_X0_at
theorem dX0_pipsOf_0 : decode cX0_pipsOf 0 = .ok (.iconst 0, 1) := by decide +kernel
theorem dX0_pipsOf_1 : decode cX0_pipsOf 1 = .ok (.istore_n 2, 1) := by decide +kernel
theorem dX0_pipsOf_2 : decode cX0_pipsOf 2 = .ok (.iconst 1, 1) := by decide +kernel
theorem dX0_pipsOf_3 : decode cX0_pipsOf 3 = .ok (.istore_n 3, 1) := by decide +kernel
theorem dX0_pipsOf_4 : decode cX0_pipsOf 4 = .ok (.iload_n 3, 1) := by decide +kernel
theorem dX0_pipsOf_5 : decode cX0_pipsOf 5 = .ok (.bipush 25, 2) := by decide +kernel
theorem dX0_pipsOf_7 : decode cX0_pipsOf 7 = .ok (.if_icmp .gt 20, 3) := by decide +kernel
theorem dX0_pipsOf_10 : decode cX0_pipsOf 10 = .ok (.iload_n 2, 1) := by decide +kernel
theorem dX0_pipsOf_11 : decode cX0_pipsOf 11 = .ok (.iload_n 3, 1) := by decide +kernel
theorem dX0_pipsOf_12 : decode cX0_pipsOf 12 = .ok (.aload_n 0, 1) := by decide +kernel
theorem dX0_pipsOf_13 : decode cX0_pipsOf 13 = .ok (.iload_n 1, 1) := by decide +kernel
theorem dX0_pipsOf_14 : decode cX0_pipsOf 14 = .ok (.iload_n 3, 1) := by decide +kernel
theorem dX0_pipsOf_15 : decode cX0_pipsOf 15 = .ok (.invokevirtual 25, 3) := by decide +kernel
theorem dX0_pipsOf_18 : decode cX0_pipsOf 18 = .ok (.imul, 1) := by decide +kernel
theorem dX0_pipsOf_19 : decode cX0_pipsOf 19 = .ok (.iadd, 1) := by decide +kernel
theorem dX0_pipsOf_20 : decode cX0_pipsOf 20 = .ok (.istore_n 2, 1) := by decide +kernel
theorem dX0_pipsOf_21 : decode cX0_pipsOf 21 = .ok (.iinc 3 1, 3) := by decide +kernel
theorem dX0_pipsOf_24 : decode cX0_pipsOf 24 = .ok (.goto (-20), 3) := by decide +kernel
theorem dX0_pipsOf_27 : decode cX0_pipsOf 27 = .ok (.iload_n 2, 1) := by decide +kernel
theorem dX0_pipsOf_28 : decode cX0_pipsOf 28 = .ok (.ireturn, 1) := by decide +kernel
set_option maxRecDepth 20000 in
theorem ggX0_farthest_X0_at : GoodIn wsX0_farthest wsX0_at := goodIn_r _ [5, 6, 7] (by decide +kernel) (by decide +kernel)
set_option maxRecDepth 20000 in
theorem gX0_farthest_X0_at : GoodIn wsX0_farthest (wsV RX0 25 RX0 yX0_at wsX0_at) := goodIn_app (goodIn_of _ (by decide +kernel)) ggX0_farthest_X0_at
theorem dX0_farthest_0 : decode cX0_farthest 0 = .ok (.bipush 25, 2) := by decide +kernel
theorem dX0_farthest_2 : decode cX0_farthest 2 = .ok (.istore_n 2, 1) := by decide +kernel
theorem dX0_farthest_3 : decode cX0_farthest 3 = .ok (.iload_n 2, 1) := by decide +kernel
theorem dX0_farthest_4 : decode cX0_farthest 4 = .ok (.iconst 1, 1) := by decide +kernel
theorem dX0_farthest_5 : decode cX0_farthest 5 = .ok (.if_icmp .lt 20, 3) := by decide +kernel
theorem dX0_farthest_8 : decode cX0_farthest 8 = .ok (.aload_n 0, 1) := by decide +kernel
theorem dX0_farthest_9 : decode cX0_farthest 9 = .ok (.iload_n 1, 1) := by decide +kernel
theorem dX0_farthest_10 : decode cX0_farthest 10 = .ok (.iload_n 2, 1) := by decide +kernel
theorem dX0_farthest_11 : decode cX0_farthest 11 = .ok (.invokevirtual 25, 3) := by decide +kernel
theorem dX0_farthest_14 : decode cX0_farthest 14 = .ok (.ifCond .le 5, 3) := by decide +kernel
theorem dX0_farthest_17 : decode cX0_farthest 17 = .ok (.iload_n 2, 1) := by decide +kernel
theorem dX0_farthest_18 : decode cX0_farthest 18 = .ok (.ireturn, 1) := by decide +kernel
theorem dX0_farthest_19 : decode cX0_farthest 19 = .ok (.iinc 2 (-1), 3) := by decide +kernel
theorem dX0_farthest_22 : decode cX0_farthest 22 = .ok (.goto (-19), 3) := by decide +kernel
theorem dX0_farthest_25 : decode cX0_farthest 25 = .ok (.iconst 0, 1) := by decide +kernel
theorem dX0_farthest_26 : decode cX0_farthest 26 = .ok (.ireturn, 1) := by decide +kernel
set_option maxRecDepth 20000 in
theorem ggX0_canStep_X0_at : GoodIn wsX0_canStep wsX0_at := goodIn_r _ [5, 6, 11] (by decide +kernel) (by decide +kernel)
set_option maxRecDepth 20000 in
theorem gX0_canStep_X0_at : GoodIn wsX0_canStep (wsV RX0 25 RX0 yX0_at wsX0_at) := goodIn_app (goodIn_of _ (by decide +kernel)) ggX0_canStep_X0_at
set_option maxRecDepth 20000 in
theorem ggX0_canStep_X0_farthest : GoodIn wsX0_canStep wsX0_farthest := goodIn_r _ [10, 1, 2, 3, 4, 5, 6, 11] (by decide +kernel) (by decide +kernel)
set_option maxRecDepth 20000 in
theorem gX0_canStep_X0_farthest : GoodIn wsX0_canStep (wsV RX0 29 RX0 yX0_farthest wsX0_farthest) := goodIn_app (goodIn_of _ (by decide +kernel)) ggX0_canStep_X0_farthest
theorem dX0_canStep_0 : decode cX0_canStep 0 = .ok (.iload_n 3, 1) := by decide +kernel
theorem dX0_canStep_1 : decode cX0_canStep 1 = .ok (.iconst 1, 1) := by decide +kernel
theorem dX0_canStep_2 : decode cX0_canStep 2 = .ok (.if_icmp .lt 23, 3) := by decide +kernel
theorem dX0_canStep_5 : decode cX0_canStep 5 = .ok (.iload_n 3, 1) := by decide +kernel
theorem dX0_canStep_6 : decode cX0_canStep 6 = .ok (.bipush 6, 2) := by decide +kernel
theorem dX0_canStep_8 : decode cX0_canStep 8 = .ok (.if_icmp .gt 17, 3) := by decide +kernel
theorem dX0_canStep_11 : decode cX0_canStep 11 = .ok (.iload_n 2, 1) := by decide +kernel
theorem dX0_canStep_12 : decode cX0_canStep 12 = .ok (.iconst 1, 1) := by decide +kernel
theorem dX0_canStep_13 : decode cX0_canStep 13 = .ok (.if_icmp .lt 12, 3) := by decide +kernel
theorem dX0_canStep_16 : decode cX0_canStep 16 = .ok (.aload_n 0, 1) := by decide +kernel
theorem dX0_canStep_17 : decode cX0_canStep 17 = .ok (.iload_n 1, 1) := by decide +kernel
theorem dX0_canStep_18 : decode cX0_canStep 18 = .ok (.iload_n 2, 1) := by decide +kernel
theorem dX0_canStep_19 : decode cX0_canStep 19 = .ok (.invokevirtual 25, 3) := by decide +kernel
theorem dX0_canStep_22 : decode cX0_canStep 22 = .ok (.ifCond .ne 5, 3) := by decide +kernel
theorem dX0_canStep_25 : decode cX0_canStep 25 = .ok (.iconst 0, 1) := by decide +kernel
theorem dX0_canStep_26 : decode cX0_canStep 26 = .ok (.ireturn, 1) := by decide +kernel
theorem dX0_canStep_27 : decode cX0_canStep 27 = .ok (.iload_n 2, 1) := by decide +kernel
theorem dX0_canStep_28 : decode cX0_canStep 28 = .ok (.bipush 25, 2) := by decide +kernel
theorem dX0_canStep_30 : decode cX0_canStep 30 = .ok (.if_icmp .eq 15, 3) := by decide +kernel
theorem dX0_canStep_33 : decode cX0_canStep 33 = .ok (.aload_n 0, 1) := by decide +kernel
theorem dX0_canStep_34 : decode cX0_canStep 34 = .ok (.iload_n 1, 1) := by decide +kernel
theorem dX0_canStep_35 : decode cX0_canStep 35 = .ok (.bipush 25, 2) := by decide +kernel
theorem dX0_canStep_37 : decode cX0_canStep 37 = .ok (.invokevirtual 25, 3) := by decide +kernel
theorem dX0_canStep_40 : decode cX0_canStep 40 = .ok (.ifCond .le 5, 3) := by decide +kernel
theorem dX0_canStep_43 : decode cX0_canStep 43 = .ok (.iconst 0, 1) := by decide +kernel
theorem dX0_canStep_44 : decode cX0_canStep 44 = .ok (.ireturn, 1) := by decide +kernel
theorem dX0_canStep_45 : decode cX0_canStep 45 = .ok (.iload_n 2, 1) := by decide +kernel
theorem dX0_canStep_46 : decode cX0_canStep 46 = .ok (.iload_n 3, 1) := by decide +kernel
theorem dX0_canStep_47 : decode cX0_canStep 47 = .ok (.if_icmp .le 26, 3) := by decide +kernel
theorem dX0_canStep_50 : decode cX0_canStep 50 = .ok (.aload_n 0, 1) := by decide +kernel
theorem dX0_canStep_51 : decode cX0_canStep 51 = .ok (.iconst 1, 1) := by decide +kernel
theorem dX0_canStep_52 : decode cX0_canStep 52 = .ok (.iload_n 1, 1) := by decide +kernel
theorem dX0_canStep_53 : decode cX0_canStep 53 = .ok (.isub, 1) := by decide +kernel
theorem dX0_canStep_54 : decode cX0_canStep 54 = .ok (.bipush 25, 2) := by decide +kernel
theorem dX0_canStep_56 : decode cX0_canStep 56 = .ok (.iload_n 2, 1) := by decide +kernel
theorem dX0_canStep_57 : decode cX0_canStep 57 = .ok (.iload_n 3, 1) := by decide +kernel
theorem dX0_canStep_58 : decode cX0_canStep 58 = .ok (.isub, 1) := by decide +kernel
theorem dX0_canStep_59 : decode cX0_canStep 59 = .ok (.isub, 1) := by decide +kernel
theorem dX0_canStep_60 : decode cX0_canStep 60 = .ok (.invokevirtual 25, 3) := by decide +kernel
theorem dX0_canStep_63 : decode cX0_canStep 63 = .ok (.iconst 2, 1) := by decide +kernel
theorem dX0_canStep_64 : decode cX0_canStep 64 = .ok (.if_icmp .ge 7, 3) := by decide +kernel
theorem dX0_canStep_67 : decode cX0_canStep 67 = .ok (.iconst 1, 1) := by decide +kernel
theorem dX0_canStep_68 : decode cX0_canStep 68 = .ok (.goto 4, 3) := by decide +kernel
theorem dX0_canStep_71 : decode cX0_canStep 71 = .ok (.iconst 0, 1) := by decide +kernel
theorem dX0_canStep_72 : decode cX0_canStep 72 = .ok (.ireturn, 1) := by decide +kernel
theorem dX0_canStep_73 : decode cX0_canStep 73 = .ok (.aload_n 0, 1) := by decide +kernel
theorem dX0_canStep_74 : decode cX0_canStep 74 = .ok (.iload_n 1, 1) := by decide +kernel
theorem dX0_canStep_75 : decode cX0_canStep 75 = .ok (.invokevirtual 29, 3) := by decide +kernel
theorem dX0_canStep_78 : decode cX0_canStep 78 = .ok (.istore 4, 2) := by decide +kernel
theorem dX0_canStep_80 : decode cX0_canStep 80 = .ok (.iload 4, 2) := by decide +kernel
theorem dX0_canStep_82 : decode cX0_canStep 82 = .ok (.bipush 6, 2) := by decide +kernel
theorem dX0_canStep_84 : decode cX0_canStep 84 = .ok (.if_icmp .gt 18, 3) := by decide +kernel
theorem dX0_canStep_87 : decode cX0_canStep 87 = .ok (.iload_n 2, 1) := by decide +kernel
theorem dX0_canStep_88 : decode cX0_canStep 88 = .ok (.iload_n 3, 1) := by decide +kernel
theorem dX0_canStep_89 : decode cX0_canStep 89 = .ok (.if_icmp .eq 9, 3) := by decide +kernel
theorem dX0_canStep_92 : decode cX0_canStep 92 = .ok (.iload_n 2, 1) := by decide +kernel
theorem dX0_canStep_93 : decode cX0_canStep 93 = .ok (.iload 4, 2) := by decide +kernel
theorem dX0_canStep_95 : decode cX0_canStep 95 = .ok (.if_icmp .ne 7, 3) := by decide +kernel
theorem dX0_canStep_98 : decode cX0_canStep 98 = .ok (.iconst 1, 1) := by decide +kernel
theorem dX0_canStep_99 : decode cX0_canStep 99 = .ok (.goto 4, 3) := by decide +kernel
theorem dX0_canStep_102 : decode cX0_canStep 102 = .ok (.iconst 0, 1) := by decide +kernel
theorem dX0_canStep_103 : decode cX0_canStep 103 = .ok (.ireturn, 1) := by decide +kernel
set_option maxRecDepth 20000 in
theorem ggX0_step_X0_add : GoodIn wsX0_step wsX0_add := goodIn_r _ [9, 10, 15] (by decide +kernel) (by decide +kernel)
set_option maxRecDepth 20000 in
theorem gX0_step_X0_add : GoodIn wsX0_step (wsV RX0 21 RX0 yX0_add wsX0_add) := goodIn_app (goodIn_of _ (by decide +kernel)) ggX0_step_X0_add
set_option maxRecDepth 20000 in
theorem ggX0_step_X0_at : GoodIn wsX0_step wsX0_at := goodIn_r _ [14, 10, 15] (by decide +kernel) (by decide +kernel)
set_option maxRecDepth 20000 in
theorem gX0_step_X0_at : GoodIn wsX0_step (wsV RX0 25 RX0 yX0_at wsX0_at) := goodIn_app (goodIn_of _ (by decide +kernel)) ggX0_step_X0_at
theorem dX0_step_0 : decode cX0_step 0 = .ok (.iload_n 2, 1) := by decide +kernel
theorem dX0_step_1 : decode cX0_step 1 = .ok (.iload_n 3, 1) := by decide +kernel
theorem dX0_step_2 : decode cX0_step 2 = .ok (.isub, 1) := by decide +kernel
theorem dX0_step_3 : decode cX0_step 3 = .ok (.iconst 0, 1) := by decide +kernel
theorem dX0_step_4 : decode cX0_step 4 = .ok (.invokestatic 33, 3) := by decide +kernel
theorem dX0_step_7 : decode cX0_step 7 = .ok (.istore 4, 2) := by decide +kernel
theorem dX0_step_9 : decode cX0_step 9 = .ok (.aload_n 0, 1) := by decide +kernel
theorem dX0_step_10 : decode cX0_step 10 = .ok (.iload_n 1, 1) := by decide +kernel
theorem dX0_step_11 : decode cX0_step 11 = .ok (.iload_n 2, 1) := by decide +kernel
theorem dX0_step_12 : decode cX0_step 12 = .ok (.iconst (-1), 1) := by decide +kernel
theorem dX0_step_13 : decode cX0_step 13 = .ok (.invokevirtual 21, 3) := by decide +kernel
theorem dX0_step_16 : decode cX0_step 16 = .ok (.aload_n 0, 1) := by decide +kernel
theorem dX0_step_17 : decode cX0_step 17 = .ok (.iload_n 1, 1) := by decide +kernel
theorem dX0_step_18 : decode cX0_step 18 = .ok (.iload 4, 2) := by decide +kernel
theorem dX0_step_20 : decode cX0_step 20 = .ok (.iconst 1, 1) := by decide +kernel
theorem dX0_step_21 : decode cX0_step 21 = .ok (.invokevirtual 21, 3) := by decide +kernel
theorem dX0_step_24 : decode cX0_step 24 = .ok (.iload 4, 2) := by decide +kernel
theorem dX0_step_26 : decode cX0_step 26 = .ok (.ifCond .eq 18, 3) := by decide +kernel
theorem dX0_step_29 : decode cX0_step 29 = .ok (.aload_n 0, 1) := by decide +kernel
theorem dX0_step_30 : decode cX0_step 30 = .ok (.iconst 1, 1) := by decide +kernel
theorem dX0_step_31 : decode cX0_step 31 = .ok (.iload_n 1, 1) := by decide +kernel
theorem dX0_step_32 : decode cX0_step 32 = .ok (.isub, 1) := by decide +kernel
theorem dX0_step_33 : decode cX0_step 33 = .ok (.bipush 25, 2) := by decide +kernel
theorem dX0_step_35 : decode cX0_step 35 = .ok (.iload 4, 2) := by decide +kernel
theorem dX0_step_37 : decode cX0_step 37 = .ok (.isub, 1) := by decide +kernel
theorem dX0_step_38 : decode cX0_step 38 = .ok (.invokevirtual 25, 3) := by decide +kernel
theorem dX0_step_41 : decode cX0_step 41 = .ok (.ifCond .ne 5, 3) := by decide +kernel
theorem dX0_step_44 : decode cX0_step 44 = .ok (.iconst 0, 1) := by decide +kernel
theorem dX0_step_45 : decode cX0_step 45 = .ok (.ireturn, 1) := by decide +kernel
theorem dX0_step_46 : decode cX0_step 46 = .ok (.aload_n 0, 1) := by decide +kernel
theorem dX0_step_47 : decode cX0_step 47 = .ok (.iconst 1, 1) := by decide +kernel
theorem dX0_step_48 : decode cX0_step 48 = .ok (.iload_n 1, 1) := by decide +kernel
theorem dX0_step_49 : decode cX0_step 49 = .ok (.isub, 1) := by decide +kernel
theorem dX0_step_50 : decode cX0_step 50 = .ok (.bipush 25, 2) := by decide +kernel
theorem dX0_step_52 : decode cX0_step 52 = .ok (.iload 4, 2) := by decide +kernel
theorem dX0_step_54 : decode cX0_step 54 = .ok (.isub, 1) := by decide +kernel
theorem dX0_step_55 : decode cX0_step 55 = .ok (.iconst (-1), 1) := by decide +kernel
theorem dX0_step_56 : decode cX0_step 56 = .ok (.invokevirtual 21, 3) := by decide +kernel
theorem dX0_step_59 : decode cX0_step 59 = .ok (.aload_n 0, 1) := by decide +kernel
theorem dX0_step_60 : decode cX0_step 60 = .ok (.iconst 1, 1) := by decide +kernel
theorem dX0_step_61 : decode cX0_step 61 = .ok (.iload_n 1, 1) := by decide +kernel
theorem dX0_step_62 : decode cX0_step 62 = .ok (.isub, 1) := by decide +kernel
theorem dX0_step_63 : decode cX0_step 63 = .ok (.bipush 25, 2) := by decide +kernel
theorem dX0_step_65 : decode cX0_step 65 = .ok (.iconst 1, 1) := by decide +kernel
theorem dX0_step_66 : decode cX0_step 66 = .ok (.invokevirtual 21, 3) := by decide +kernel
theorem dX0_step_69 : decode cX0_step 69 = .ok (.iconst 1, 1) := by decide +kernel
theorem dX0_step_70 : decode cX0_step 70 = .ok (.ireturn, 1) := by decide +kernel
set_option maxRecDepth 20000 in
theorem ggX0_stepBack_X0_add : GoodIn wsX0_stepBack wsX0_add := goodIn_r _ [9, 10, 11] (by decide +kernel) (by decide +kernel)
set_option maxRecDepth 20000 in
theorem gX0_stepBack_X0_add : GoodIn wsX0_stepBack (wsV RX0 21 RX0 yX0_add wsX0_add) := goodIn_app (goodIn_of _ (by decide +kernel)) ggX0_stepBack_X0_add
theorem dX0_stepBack_0 : decode cX0_stepBack 0 = .ok (.iload_n 2, 1) := by decide +kernel
theorem dX0_stepBack_1 : decode cX0_stepBack 1 = .ok (.iload_n 3, 1) := by decide +kernel
theorem dX0_stepBack_2 : decode cX0_stepBack 2 = .ok (.isub, 1) := by decide +kernel
theorem dX0_stepBack_3 : decode cX0_stepBack 3 = .ok (.iconst 0, 1) := by decide +kernel
theorem dX0_stepBack_4 : decode cX0_stepBack 4 = .ok (.invokestatic 33, 3) := by decide +kernel
theorem dX0_stepBack_7 : decode cX0_stepBack 7 = .ok (.istore 5, 2) := by decide +kernel
theorem dX0_stepBack_9 : decode cX0_stepBack 9 = .ok (.aload_n 0, 1) := by decide +kernel
theorem dX0_stepBack_10 : decode cX0_stepBack 10 = .ok (.iload_n 1, 1) := by decide +kernel
theorem dX0_stepBack_11 : decode cX0_stepBack 11 = .ok (.iload_n 2, 1) := by decide +kernel
theorem dX0_stepBack_12 : decode cX0_stepBack 12 = .ok (.iconst 1, 1) := by decide +kernel
theorem dX0_stepBack_13 : decode cX0_stepBack 13 = .ok (.invokevirtual 21, 3) := by decide +kernel
theorem dX0_stepBack_16 : decode cX0_stepBack 16 = .ok (.aload_n 0, 1) := by decide +kernel
theorem dX0_stepBack_17 : decode cX0_stepBack 17 = .ok (.iload_n 1, 1) := by decide +kernel
theorem dX0_stepBack_18 : decode cX0_stepBack 18 = .ok (.iload 5, 2) := by decide +kernel
theorem dX0_stepBack_20 : decode cX0_stepBack 20 = .ok (.iconst (-1), 1) := by decide +kernel
theorem dX0_stepBack_21 : decode cX0_stepBack 21 = .ok (.invokevirtual 21, 3) := by decide +kernel
theorem dX0_stepBack_24 : decode cX0_stepBack 24 = .ok (.iload 4, 2) := by decide +kernel
theorem dX0_stepBack_26 : decode cX0_stepBack 26 = .ok (.ifCond .eq 26, 3) := by decide +kernel
theorem dX0_stepBack_29 : decode cX0_stepBack 29 = .ok (.aload_n 0, 1) := by decide +kernel
theorem dX0_stepBack_30 : decode cX0_stepBack 30 = .ok (.iconst 1, 1) := by decide +kernel
theorem dX0_stepBack_31 : decode cX0_stepBack 31 = .ok (.iload_n 1, 1) := by decide +kernel
theorem dX0_stepBack_32 : decode cX0_stepBack 32 = .ok (.isub, 1) := by decide +kernel
theorem dX0_stepBack_33 : decode cX0_stepBack 33 = .ok (.bipush 25, 2) := by decide +kernel
theorem dX0_stepBack_35 : decode cX0_stepBack 35 = .ok (.iload 5, 2) := by decide +kernel
theorem dX0_stepBack_37 : decode cX0_stepBack 37 = .ok (.isub, 1) := by decide +kernel
theorem dX0_stepBack_38 : decode cX0_stepBack 38 = .ok (.iconst 1, 1) := by decide +kernel
theorem dX0_stepBack_39 : decode cX0_stepBack 39 = .ok (.invokevirtual 21, 3) := by decide +kernel
theorem dX0_stepBack_42 : decode cX0_stepBack 42 = .ok (.aload_n 0, 1) := by decide +kernel
theorem dX0_stepBack_43 : decode cX0_stepBack 43 = .ok (.iconst 1, 1) := by decide +kernel
theorem dX0_stepBack_44 : decode cX0_stepBack 44 = .ok (.iload_n 1, 1) := by decide +kernel
theorem dX0_stepBack_45 : decode cX0_stepBack 45 = .ok (.isub, 1) := by decide +kernel
theorem dX0_stepBack_46 : decode cX0_stepBack 46 = .ok (.bipush 25, 2) := by decide +kernel
theorem dX0_stepBack_48 : decode cX0_stepBack 48 = .ok (.iconst (-1), 1) := by decide +kernel
theorem dX0_stepBack_49 : decode cX0_stepBack 49 = .ok (.invokevirtual 21, 3) := by decide +kernel
theorem dX0_stepBack_52 : decode cX0_stepBack 52 = .ok (.return_, 1) := by decide +kernel
set_option maxRecDepth 20000 in
theorem ggX0_carry_X9_codeAt : GoodIn wsX0_carry wsX9_codeAt := goodIn_r _ [3] (by decide +kernel) (by decide +kernel)
set_option maxRecDepth 20000 in
theorem gX0_carry_X9_codeAt_n38 : GoodIn wsX0_carry (wsX9_codeAt) := ggX0_carry_X9_codeAt
set_option maxRecDepth 20000 in
theorem ggX0_carry_X9_fromOf : GoodIn wsX0_carry wsX9_fromOf := goodIn_r _ [5] (by decide +kernel) (by decide +kernel)
set_option maxRecDepth 20000 in
theorem gX0_carry_X9_fromOf_n41 : GoodIn wsX0_carry (wsX9_fromOf) := ggX0_carry_X9_fromOf
set_option maxRecDepth 20000 in
theorem ggX0_carry_X9_dieOf : GoodIn wsX0_carry wsX9_dieOf := goodIn_r _ [7] (by decide +kernel) (by decide +kernel)
set_option maxRecDepth 20000 in
theorem gX0_carry_X9_dieOf_n44 : GoodIn wsX0_carry (wsX9_dieOf) := ggX0_carry_X9_dieOf
set_option maxRecDepth 20000 in
theorem ggX0_carry_X0_step : GoodIn wsX0_carry wsX0_step := goodIn_r _ [12, 13, 14, 15, 16, 17, 18, 19, 11, 20, 21, 22, 23, 24, 25, 26] (by decide +kernel) (by decide +kernel)
set_option maxRecDepth 20000 in
theorem gX0_carry_X0_step : GoodIn wsX0_carry (wsV RX0 47 RX0 yX0_step wsX0_step) := goodIn_app (goodIn_of _ (by decide +kernel)) ggX0_carry_X0_step
theorem dX0_carry_0 : decode cX0_carry 0 = .ok (.iconst 0, 1) := by decide +kernel
theorem dX0_carry_1 : decode cX0_carry 1 = .ok (.istore_n 3, 1) := by decide +kernel
theorem dX0_carry_2 : decode cX0_carry 2 = .ok (.iconst 0, 1) := by decide +kernel
theorem dX0_carry_3 : decode cX0_carry 3 = .ok (.istore 4, 2) := by decide +kernel
theorem dX0_carry_5 : decode cX0_carry 5 = .ok (.iload 4, 2) := by decide +kernel
theorem dX0_carry_7 : decode cX0_carry 7 = .ok (.iconst 4, 1) := by decide +kernel
theorem dX0_carry_8 : decode cX0_carry 8 = .ok (.if_icmp .ge 43, 3) := by decide +kernel
theorem dX0_carry_11 : decode cX0_carry 11 = .ok (.iload_n 2, 1) := by decide +kernel
theorem dX0_carry_12 : decode cX0_carry 12 = .ok (.iload 4, 2) := by decide +kernel
theorem dX0_carry_14 : decode cX0_carry 14 = .ok (.invokestatic 38, 3) := by decide +kernel
theorem dX0_carry_17 : decode cX0_carry 17 = .ok (.istore 5, 2) := by decide +kernel
theorem dX0_carry_19 : decode cX0_carry 19 = .ok (.iload 5, 2) := by decide +kernel
theorem dX0_carry_21 : decode cX0_carry 21 = .ok (.ifCond .eq 24, 3) := by decide +kernel
theorem dX0_carry_24 : decode cX0_carry 24 = .ok (.aload_n 0, 1) := by decide +kernel
theorem dX0_carry_25 : decode cX0_carry 25 = .ok (.iload_n 1, 1) := by decide +kernel
theorem dX0_carry_26 : decode cX0_carry 26 = .ok (.iload 5, 2) := by decide +kernel
theorem dX0_carry_28 : decode cX0_carry 28 = .ok (.invokestatic 41, 3) := by decide +kernel
theorem dX0_carry_31 : decode cX0_carry 31 = .ok (.iload 5, 2) := by decide +kernel
theorem dX0_carry_33 : decode cX0_carry 33 = .ok (.invokestatic 44, 3) := by decide +kernel
theorem dX0_carry_36 : decode cX0_carry 36 = .ok (.invokevirtual 47, 3) := by decide +kernel
theorem dX0_carry_39 : decode cX0_carry 39 = .ok (.ifCond .eq 6, 3) := by decide +kernel
theorem dX0_carry_42 : decode cX0_carry 42 = .ok (.iinc 3 1, 3) := by decide +kernel
theorem dX0_carry_45 : decode cX0_carry 45 = .ok (.iinc 4 1, 3) := by decide +kernel
theorem dX0_carry_48 : decode cX0_carry 48 = .ok (.goto (-43), 3) := by decide +kernel
theorem dX0_carry_51 : decode cX0_carry 51 = .ok (.iload_n 3, 1) := by decide +kernel
theorem dX0_carry_52 : decode cX0_carry 52 = .ok (.ireturn, 1) := by decide +kernel
theorem dX0_worthFor_0 : decode cX0_worthFor 0 = .ok (.iload_n 1, 1) := by decide +kernel
theorem dX0_worthFor_1 : decode cX0_worthFor 1 = .ok (.ifCond .lt 8, 3) := by decide +kernel
theorem dX0_worthFor_4 : decode cX0_worthFor 4 = .ok (.iload_n 1, 1) := by decide +kernel
theorem dX0_worthFor_5 : decode cX0_worthFor 5 = .ok (.iconst 1, 1) := by decide +kernel
theorem dX0_worthFor_6 : decode cX0_worthFor 6 = .ok (.if_icmp .le 5, 3) := by decide +kernel
theorem dX0_worthFor_9 : decode cX0_worthFor 9 = .ok (.iconst 0, 1) := by decide +kernel
theorem dX0_worthFor_10 : decode cX0_worthFor 10 = .ok (.ireturn, 1) := by decide +kernel
theorem dX0_worthFor_11 : decode cX0_worthFor 11 = .ok (.iload_n 1, 1) := by decide +kernel
theorem dX0_worthFor_12 : decode cX0_worthFor 12 = .ok (.bipush 26, 2) := by decide +kernel
theorem dX0_worthFor_14 : decode cX0_worthFor 14 = .ok (.imul, 1) := by decide +kernel
theorem dX0_worthFor_15 : decode cX0_worthFor 15 = .ok (.istore_n 2, 1) := by decide +kernel
theorem dX0_worthFor_16 : decode cX0_worthFor 16 = .ok (.bipush 26, 2) := by decide +kernel
theorem dX0_worthFor_18 : decode cX0_worthFor 18 = .ok (.iload_n 2, 1) := by decide +kernel
theorem dX0_worthFor_19 : decode cX0_worthFor 19 = .ok (.isub, 1) := by decide +kernel
theorem dX0_worthFor_20 : decode cX0_worthFor 20 = .ok (.istore_n 3, 1) := by decide +kernel
theorem dX0_worthFor_21 : decode cX0_worthFor 21 = .ok (.aload_n 0, 1) := by decide +kernel
theorem dX0_worthFor_22 : decode cX0_worthFor 22 = .ok (.getfield 9, 3) := by decide +kernel
theorem dX0_worthFor_25 : decode cX0_worthFor 25 = .ok (.iload_n 3, 1) := by decide +kernel
theorem dX0_worthFor_26 : decode cX0_worthFor 26 = .ok (.bipush 25, 2) := by decide +kernel
theorem dX0_worthFor_28 : decode cX0_worthFor 28 = .ok (.iadd, 1) := by decide +kernel
theorem dX0_worthFor_29 : decode cX0_worthFor 29 = .ok (.iaload, 1) := by decide +kernel
theorem dX0_worthFor_30 : decode cX0_worthFor 30 = .ok (.istore 4, 2) := by decide +kernel
theorem dX0_worthFor_32 : decode cX0_worthFor 32 = .ok (.bipush 10, 2) := by decide +kernel
theorem dX0_worthFor_34 : decode cX0_worthFor 34 = .ok (.aload_n 0, 1) := by decide +kernel
theorem dX0_worthFor_35 : decode cX0_worthFor 35 = .ok (.getfield 9, 3) := by decide +kernel
theorem dX0_worthFor_38 : decode cX0_worthFor 38 = .ok (.iload_n 2, 1) := by decide +kernel
theorem dX0_worthFor_39 : decode cX0_worthFor 39 = .ok (.iaload, 1) := by decide +kernel
theorem dX0_worthFor_40 : decode cX0_worthFor 40 = .ok (.imul, 1) := by decide +kernel
theorem dX0_worthFor_41 : decode cX0_worthFor 41 = .ok (.bipush 25, 2) := by decide +kernel
theorem dX0_worthFor_43 : decode cX0_worthFor 43 = .ok (.aload_n 0, 1) := by decide +kernel
theorem dX0_worthFor_44 : decode cX0_worthFor 44 = .ok (.getfield 9, 3) := by decide +kernel
theorem dX0_worthFor_47 : decode cX0_worthFor 47 = .ok (.iload_n 2, 1) := by decide +kernel
theorem dX0_worthFor_48 : decode cX0_worthFor 48 = .ok (.bipush 25, 2) := by decide +kernel
theorem dX0_worthFor_50 : decode cX0_worthFor 50 = .ok (.iadd, 1) := by decide +kernel
theorem dX0_worthFor_51 : decode cX0_worthFor 51 = .ok (.iaload, 1) := by decide +kernel
theorem dX0_worthFor_52 : decode cX0_worthFor 52 = .ok (.imul, 1) := by decide +kernel
theorem dX0_worthFor_53 : decode cX0_worthFor 53 = .ok (.isub, 1) := by decide +kernel
theorem dX0_worthFor_54 : decode cX0_worthFor 54 = .ok (.bipush 33, 2) := by decide +kernel
theorem dX0_worthFor_56 : decode cX0_worthFor 56 = .ok (.iload 4, 2) := by decide +kernel
theorem dX0_worthFor_58 : decode cX0_worthFor 58 = .ok (.imul, 1) := by decide +kernel
theorem dX0_worthFor_59 : decode cX0_worthFor 59 = .ok (.iadd, 1) := by decide +kernel
theorem dX0_worthFor_60 : decode cX0_worthFor 60 = .ok (.istore 5, 2) := by decide +kernel
theorem dX0_worthFor_62 : decode cX0_worthFor 62 = .ok (.iload 4, 2) := by decide +kernel
theorem dX0_worthFor_64 : decode cX0_worthFor 64 = .ok (.ifCond .le 7, 3) := by decide +kernel
theorem dX0_worthFor_67 : decode cX0_worthFor 67 = .ok (.iconst 1, 1) := by decide +kernel
theorem dX0_worthFor_68 : decode cX0_worthFor 68 = .ok (.goto 4, 3) := by decide +kernel
theorem dX0_worthFor_71 : decode cX0_worthFor 71 = .ok (.iconst 0, 1) := by decide +kernel
theorem dX0_worthFor_72 : decode cX0_worthFor 72 = .ok (.istore 6, 2) := by decide +kernel
theorem dX0_worthFor_74 : decode cX0_worthFor 74 = .ok (.iconst 1, 1) := by decide +kernel
theorem dX0_worthFor_75 : decode cX0_worthFor 75 = .ok (.istore 7, 2) := by decide +kernel
theorem dX0_worthFor_77 : decode cX0_worthFor 77 = .ok (.iload 7, 2) := by decide +kernel
theorem dX0_worthFor_79 : decode cX0_worthFor 79 = .ok (.bipush 24, 2) := by decide +kernel
theorem dX0_worthFor_81 : decode cX0_worthFor 81 = .ok (.if_icmp .gt 96, 3) := by decide +kernel
theorem dX0_worthFor_84 : decode cX0_worthFor 84 = .ok (.aload_n 0, 1) := by decide +kernel
theorem dX0_worthFor_85 : decode cX0_worthFor 85 = .ok (.getfield 9, 3) := by decide +kernel
theorem dX0_worthFor_88 : decode cX0_worthFor 88 = .ok (.iload_n 2, 1) := by decide +kernel
theorem dX0_worthFor_89 : decode cX0_worthFor 89 = .ok (.iload 7, 2) := by decide +kernel
theorem dX0_worthFor_91 : decode cX0_worthFor 91 = .ok (.iadd, 1) := by decide +kernel
theorem dX0_worthFor_92 : decode cX0_worthFor 92 = .ok (.iaload, 1) := by decide +kernel
theorem dX0_worthFor_93 : decode cX0_worthFor 93 = .ok (.istore 8, 2) := by decide +kernel
theorem dX0_worthFor_95 : decode cX0_worthFor 95 = .ok (.aload_n 0, 1) := by decide +kernel
theorem dX0_worthFor_96 : decode cX0_worthFor 96 = .ok (.getfield 9, 3) := by decide +kernel
theorem dX0_worthFor_99 : decode cX0_worthFor 99 = .ok (.iload_n 3, 1) := by decide +kernel
theorem dX0_worthFor_100 : decode cX0_worthFor 100 = .ok (.bipush 25, 2) := by decide +kernel
theorem dX0_worthFor_102 : decode cX0_worthFor 102 = .ok (.iadd, 1) := by decide +kernel
theorem dX0_worthFor_103 : decode cX0_worthFor 103 = .ok (.iload 7, 2) := by decide +kernel
theorem dX0_worthFor_105 : decode cX0_worthFor 105 = .ok (.isub, 1) := by decide +kernel
theorem dX0_worthFor_106 : decode cX0_worthFor 106 = .ok (.iaload, 1) := by decide +kernel
theorem dX0_worthFor_107 : decode cX0_worthFor 107 = .ok (.istore 9, 2) := by decide +kernel
theorem dX0_worthFor_109 : decode cX0_worthFor 109 = .ok (.iload 5, 2) := by decide +kernel
theorem dX0_worthFor_111 : decode cX0_worthFor 111 = .ok (.bipush 25, 2) := by decide +kernel
theorem dX0_worthFor_113 : decode cX0_worthFor 113 = .ok (.iload 7, 2) := by decide +kernel
theorem dX0_worthFor_115 : decode cX0_worthFor 115 = .ok (.isub, 1) := by decide +kernel
theorem dX0_worthFor_116 : decode cX0_worthFor 116 = .ok (.iload 9, 2) := by decide +kernel
theorem dX0_worthFor_118 : decode cX0_worthFor 118 = .ok (.imul, 1) := by decide +kernel
theorem dX0_worthFor_119 : decode cX0_worthFor 119 = .ok (.iload 7, 2) := by decide +kernel
theorem dX0_worthFor_121 : decode cX0_worthFor 121 = .ok (.iload 8, 2) := by decide +kernel
theorem dX0_worthFor_123 : decode cX0_worthFor 123 = .ok (.imul, 1) := by decide +kernel
theorem dX0_worthFor_124 : decode cX0_worthFor 124 = .ok (.isub, 1) := by decide +kernel
theorem dX0_worthFor_125 : decode cX0_worthFor 125 = .ok (.iadd, 1) := by decide +kernel
theorem dX0_worthFor_126 : decode cX0_worthFor 126 = .ok (.istore 5, 2) := by decide +kernel
theorem dX0_worthFor_128 : decode cX0_worthFor 128 = .ok (.iload 8, 2) := by decide +kernel
theorem dX0_worthFor_130 : decode cX0_worthFor 130 = .ok (.iconst 2, 1) := by decide +kernel
theorem dX0_worthFor_131 : decode cX0_worthFor 131 = .ok (.if_icmp .lt 9, 3) := by decide +kernel
theorem dX0_worthFor_134 : decode cX0_worthFor 134 = .ok (.iinc 5 6, 3) := by decide +kernel
theorem dX0_worthFor_137 : decode cX0_worthFor 137 = .ok (.goto 17, 3) := by decide +kernel
theorem dX0_worthFor_140 : decode cX0_worthFor 140 = .ok (.iload 8, 2) := by decide +kernel
theorem dX0_worthFor_142 : decode cX0_worthFor 142 = .ok (.iconst 1, 1) := by decide +kernel
theorem dX0_worthFor_143 : decode cX0_worthFor 143 = .ok (.if_icmp .ne 11, 3) := by decide +kernel
theorem dX0_worthFor_146 : decode cX0_worthFor 146 = .ok (.iload 6, 2) := by decide +kernel
theorem dX0_worthFor_148 : decode cX0_worthFor 148 = .ok (.ifCond .eq 6, 3) := by decide +kernel
theorem dX0_worthFor_151 : decode cX0_worthFor 151 = .ok (.iinc 5 (-4), 3) := by decide +kernel
theorem dX0_worthFor_154 : decode cX0_worthFor 154 = .ok (.iload 6, 2) := by decide +kernel
theorem dX0_worthFor_156 : decode cX0_worthFor 156 = .ok (.ifCond .ne 8, 3) := by decide +kernel
theorem dX0_worthFor_159 : decode cX0_worthFor 159 = .ok (.iload 9, 2) := by decide +kernel
theorem dX0_worthFor_161 : decode cX0_worthFor 161 = .ok (.ifCond .le 7, 3) := by decide +kernel
theorem dX0_worthFor_164 : decode cX0_worthFor 164 = .ok (.iconst 1, 1) := by decide +kernel
theorem dX0_worthFor_165 : decode cX0_worthFor 165 = .ok (.goto 4, 3) := by decide +kernel
theorem dX0_worthFor_168 : decode cX0_worthFor 168 = .ok (.iconst 0, 1) := by decide +kernel
theorem dX0_worthFor_169 : decode cX0_worthFor 169 = .ok (.istore 6, 2) := by decide +kernel
theorem dX0_worthFor_171 : decode cX0_worthFor 171 = .ok (.iinc 7 1, 3) := by decide +kernel
theorem dX0_worthFor_174 : decode cX0_worthFor 174 = .ok (.goto (-97), 3) := by decide +kernel
theorem dX0_worthFor_177 : decode cX0_worthFor 177 = .ok (.iload 5, 2) := by decide +kernel
theorem dX0_worthFor_179 : decode cX0_worthFor 179 = .ok (.ireturn, 1) := by decide +kernel
set_option maxRecDepth 20000 in
theorem ggX0_isEnding_X0_total : GoodIn wsX0_isEnding wsX0_total := goodIn_r _ [5, 6, 7, 8, 4, 9, 10, 15] (by decide +kernel) (by decide +kernel)
set_option maxRecDepth 20000 in
theorem gX0_isEnding_X0_total : GoodIn wsX0_isEnding (wsV RX0 51 RX0 yX0_total wsX0_total) := goodIn_app (goodIn_of _ (by decide +kernel)) ggX0_isEnding_X0_total
set_option maxRecDepth 20000 in
theorem ggX0_isEnding_X0_at : GoodIn wsX0_isEnding wsX0_at := goodIn_r _ [9, 10, 15] (by decide +kernel) (by decide +kernel)
set_option maxRecDepth 20000 in
theorem gX0_isEnding_X0_at : GoodIn wsX0_isEnding (wsV RX0 25 RX0 yX0_at wsX0_at) := goodIn_app (goodIn_of _ (by decide +kernel)) ggX0_isEnding_X0_at
set_option maxRecDepth 20000 in
theorem ggX0_isEnding_X0_farthest : GoodIn wsX0_isEnding wsX0_farthest := goodIn_r _ [14, 6, 7, 8, 4, 9, 10, 15] (by decide +kernel) (by decide +kernel)
set_option maxRecDepth 20000 in
theorem gX0_isEnding_X0_farthest : GoodIn wsX0_isEnding (wsV RX0 29 RX0 yX0_farthest wsX0_farthest) := goodIn_app (goodIn_of _ (by decide +kernel)) ggX0_isEnding_X0_farthest
theorem dX0_isEnding_0 : decode cX0_isEnding 0 = .ok (.aload_n 0, 1) := by decide +kernel
theorem dX0_isEnding_1 : decode cX0_isEnding 1 = .ok (.iload_n 1, 1) := by decide +kernel
theorem dX0_isEnding_2 : decode cX0_isEnding 2 = .ok (.invokevirtual 51, 3) := by decide +kernel
theorem dX0_isEnding_5 : decode cX0_isEnding 5 = .ok (.aload_n 0, 1) := by decide +kernel
theorem dX0_isEnding_6 : decode cX0_isEnding 6 = .ok (.iload_n 1, 1) := by decide +kernel
theorem dX0_isEnding_7 : decode cX0_isEnding 7 = .ok (.iconst 0, 1) := by decide +kernel
theorem dX0_isEnding_8 : decode cX0_isEnding 8 = .ok (.invokevirtual 25, 3) := by decide +kernel
theorem dX0_isEnding_11 : decode cX0_isEnding 11 = .ok (.isub, 1) := by decide +kernel
theorem dX0_isEnding_12 : decode cX0_isEnding 12 = .ok (.istore_n 2, 1) := by decide +kernel
theorem dX0_isEnding_13 : decode cX0_isEnding 13 = .ok (.iload_n 2, 1) := by decide +kernel
theorem dX0_isEnding_14 : decode cX0_isEnding 14 = .ok (.iconst 1, 1) := by decide +kernel
theorem dX0_isEnding_15 : decode cX0_isEnding 15 = .ok (.if_icmp .lt 22, 3) := by decide +kernel
theorem dX0_isEnding_18 : decode cX0_isEnding 18 = .ok (.iload_n 2, 1) := by decide +kernel
theorem dX0_isEnding_19 : decode cX0_isEnding 19 = .ok (.iconst 2, 1) := by decide +kernel
theorem dX0_isEnding_20 : decode cX0_isEnding 20 = .ok (.if_icmp .gt 17, 3) := by decide +kernel
theorem dX0_isEnding_23 : decode cX0_isEnding 23 = .ok (.aload_n 0, 1) := by decide +kernel
theorem dX0_isEnding_24 : decode cX0_isEnding 24 = .ok (.iload_n 1, 1) := by decide +kernel
theorem dX0_isEnding_25 : decode cX0_isEnding 25 = .ok (.invokevirtual 29, 3) := by decide +kernel
theorem dX0_isEnding_28 : decode cX0_isEnding 28 = .ok (.bipush 6, 2) := by decide +kernel
theorem dX0_isEnding_30 : decode cX0_isEnding 30 = .ok (.if_icmp .gt 7, 3) := by decide +kernel
theorem dX0_isEnding_33 : decode cX0_isEnding 33 = .ok (.iconst 1, 1) := by decide +kernel
theorem dX0_isEnding_34 : decode cX0_isEnding 34 = .ok (.goto 4, 3) := by decide +kernel
theorem dX0_isEnding_37 : decode cX0_isEnding 37 = .ok (.iconst 0, 1) := by decide +kernel
theorem dX0_isEnding_38 : decode cX0_isEnding 38 = .ok (.ireturn, 1) := by decide +kernel
set_option maxRecDepth 20000 in
theorem ggX0_lastTwo_X0_farthest : GoodIn wsX0_lastTwo wsX0_farthest := goodIn_r _ [5, 6, 7, 8, 4, 9, 10, 22] (by decide +kernel) (by decide +kernel)
set_option maxRecDepth 20000 in
theorem gX0_lastTwo_X0_farthest : GoodIn wsX0_lastTwo (wsV RX0 29 RX0 yX0_farthest wsX0_farthest) := goodIn_app (goodIn_of _ (by decide +kernel)) ggX0_lastTwo_X0_farthest
set_option maxRecDepth 20000 in
theorem ggX0_lastTwo_X0_at : GoodIn wsX0_lastTwo wsX0_at := goodIn_r _ [9, 10, 22] (by decide +kernel) (by decide +kernel)
set_option maxRecDepth 20000 in
theorem gX0_lastTwo_X0_at : GoodIn wsX0_lastTwo (wsV RX0 25 RX0 yX0_at wsX0_at) := goodIn_app (goodIn_of _ (by decide +kernel)) ggX0_lastTwo_X0_at
set_option maxRecDepth 20000 in
theorem ggX0_lastTwo_X1_pair : GoodIn wsX0_lastTwo wsX1_pair := goodIn_r _ [14, 15, 16, 17, 18, 19, 20, 21] (by decide +kernel) (by decide +kernel)
set_option maxRecDepth 20000 in
theorem gX0_lastTwo_X1_pair : GoodIn wsX0_lastTwo (va_wsS RX0 54 yX1_pair wsX1_pair) := goodIn_app (goodIn_of _ (by decide +kernel)) ggX0_lastTwo_X1_pair
theorem dX0_lastTwo_0 : decode cX0_lastTwo 0 = .ok (.aload_n 0, 1) := by decide +kernel
theorem dX0_lastTwo_1 : decode cX0_lastTwo 1 = .ok (.iload_n 1, 1) := by decide +kernel
theorem dX0_lastTwo_2 : decode cX0_lastTwo 2 = .ok (.invokevirtual 29, 3) := by decide +kernel
theorem dX0_lastTwo_5 : decode cX0_lastTwo 5 = .ok (.istore_n 2, 1) := by decide +kernel
theorem dX0_lastTwo_6 : decode cX0_lastTwo 6 = .ok (.aload_n 0, 1) := by decide +kernel
theorem dX0_lastTwo_7 : decode cX0_lastTwo 7 = .ok (.iload_n 1, 1) := by decide +kernel
theorem dX0_lastTwo_8 : decode cX0_lastTwo 8 = .ok (.iload_n 2, 1) := by decide +kernel
theorem dX0_lastTwo_9 : decode cX0_lastTwo 9 = .ok (.invokevirtual 25, 3) := by decide +kernel
theorem dX0_lastTwo_12 : decode cX0_lastTwo 12 = .ok (.iconst 1, 1) := by decide +kernel
theorem dX0_lastTwo_13 : decode cX0_lastTwo 13 = .ok (.if_icmp .le 7, 3) := by decide +kernel
theorem dX0_lastTwo_16 : decode cX0_lastTwo 16 = .ok (.iload_n 2, 1) := by decide +kernel
theorem dX0_lastTwo_17 : decode cX0_lastTwo 17 = .ok (.goto 4, 3) := by decide +kernel
theorem dX0_lastTwo_20 : decode cX0_lastTwo 20 = .ok (.iconst 0, 1) := by decide +kernel
theorem dX0_lastTwo_21 : decode cX0_lastTwo 21 = .ok (.istore_n 3, 1) := by decide +kernel
theorem dX0_lastTwo_22 : decode cX0_lastTwo 22 = .ok (.iconst 1, 1) := by decide +kernel
theorem dX0_lastTwo_23 : decode cX0_lastTwo 23 = .ok (.istore 4, 2) := by decide +kernel
theorem dX0_lastTwo_25 : decode cX0_lastTwo 25 = .ok (.iload 4, 2) := by decide +kernel
theorem dX0_lastTwo_27 : decode cX0_lastTwo 27 = .ok (.iload_n 2, 1) := by decide +kernel
theorem dX0_lastTwo_28 : decode cX0_lastTwo 28 = .ok (.if_icmp .ge 26, 3) := by decide +kernel
theorem dX0_lastTwo_31 : decode cX0_lastTwo 31 = .ok (.aload_n 0, 1) := by decide +kernel
theorem dX0_lastTwo_32 : decode cX0_lastTwo 32 = .ok (.iload_n 1, 1) := by decide +kernel
theorem dX0_lastTwo_33 : decode cX0_lastTwo 33 = .ok (.iload 4, 2) := by decide +kernel
theorem dX0_lastTwo_35 : decode cX0_lastTwo 35 = .ok (.invokevirtual 25, 3) := by decide +kernel
theorem dX0_lastTwo_38 : decode cX0_lastTwo 38 = .ok (.ifCond .le 8, 3) := by decide +kernel
theorem dX0_lastTwo_41 : decode cX0_lastTwo 41 = .ok (.iload 4, 2) := by decide +kernel
theorem dX0_lastTwo_43 : decode cX0_lastTwo 43 = .ok (.goto 4, 3) := by decide +kernel
theorem dX0_lastTwo_46 : decode cX0_lastTwo 46 = .ok (.iload_n 3, 1) := by decide +kernel
theorem dX0_lastTwo_47 : decode cX0_lastTwo 47 = .ok (.istore_n 3, 1) := by decide +kernel
theorem dX0_lastTwo_48 : decode cX0_lastTwo 48 = .ok (.iinc 4 1, 3) := by decide +kernel
theorem dX0_lastTwo_51 : decode cX0_lastTwo 51 = .ok (.goto (-26), 3) := by decide +kernel
theorem dX0_lastTwo_54 : decode cX0_lastTwo 54 = .ok (.iload_n 2, 1) := by decide +kernel
theorem dX0_lastTwo_55 : decode cX0_lastTwo 55 = .ok (.iload_n 3, 1) := by decide +kernel
theorem dX0_lastTwo_56 : decode cX0_lastTwo 56 = .ok (.invokestatic 54, 3) := by decide +kernel
theorem dX0_lastTwo_59 : decode cX0_lastTwo 59 = .ok (.ireturn, 1) := by decide +kernel
set_option maxRecDepth 20000 in
theorem ggX1_init_J7_fill_7f8df : GoodIn wsX1_init wsJ7_fill_7f8df := goodIn_r _ [10] (by decide +kernel) (by decide +kernel)
set_option maxRecDepth 20000 in
theorem gX1_init_J7_fill_7f8df : GoodIn wsX1_init (va_wsS RX1 17 yJ7_fill_7f8df wsJ7_fill_7f8df) := goodIn_app (goodIn_of _ (by decide +kernel)) ggX1_init_J7_fill_7f8df
theorem dX1_init_0 : decode cX1_init 0 = .ok (.aload_n 0, 1) := by decide +kernel
theorem dX1_init_1 : decode cX1_init 1 = .ok (.invokespecial 3, 3) := by decide +kernel
theorem dX1_init_4 : decode cX1_init 4 = .ok (.aload_n 0, 1) := by decide +kernel
theorem dX1_init_5 : decode cX1_init 5 = .ok (.sipush 2401, 3) := by decide +kernel
theorem dX1_init_8 : decode cX1_init 8 = .ok (.newarray .double, 2) := by decide +kernel
theorem dX1_init_10 : decode cX1_init 10 = .ok (.putfield 11, 3) := by decide +kernel
theorem dX1_init_13 : decode cX1_init 13 = .ok (.aload_n 0, 1) := by decide +kernel
theorem dX1_init_14 : decode cX1_init 14 = .ok (.getfield 11, 3) := by decide +kernel
theorem dX1_init_17 : decode cX1_init 17 = .ok (.ldc2_w 15, 3) := by decide +kernel
theorem dX1_init_20 : decode cX1_init 20 = .ok (.invokestatic 17, 3) := by decide +kernel
theorem dX1_init_23 : decode cX1_init 23 = .ok (.return_, 1) := by decide +kernel
theorem dX1_pair_0 : decode cX1_pair 0 = .ok (.bipush 7, 2) := by decide +kernel
theorem dX1_pair_2 : decode cX1_pair 2 = .ok (.iload_n 0, 1) := by decide +kernel
theorem dX1_pair_3 : decode cX1_pair 3 = .ok (.iload_n 1, 1) := by decide +kernel
theorem dX1_pair_4 : decode cX1_pair 4 = .ok (.invokestatic 23, 3) := by decide +kernel
theorem dX1_pair_7 : decode cX1_pair 7 = .ok (.imul, 1) := by decide +kernel
theorem dX1_pair_8 : decode cX1_pair 8 = .ok (.iload_n 0, 1) := by decide +kernel
theorem dX1_pair_9 : decode cX1_pair 9 = .ok (.iload_n 1, 1) := by decide +kernel
theorem dX1_pair_10 : decode cX1_pair 10 = .ok (.invokestatic 29, 3) := by decide +kernel
theorem dX1_pair_13 : decode cX1_pair 13 = .ok (.iadd, 1) := by decide +kernel
theorem dX1_pair_14 : decode cX1_pair 14 = .ok (.ireturn, 1) := by decide +kernel
set_option maxRecDepth 20000 in
theorem ggX1_chanceOf_X1_chanceFrom : GoodIn wsX1_chanceOf wsX1_chanceFrom := goodIn_r _ [5, 6, 7, 8, 9, 10, 4, 11, 12, 13, 14, 15, 1, 2, 3, 16, 17, 18, 19, 20, 21, 22, 23, 24, 25, 26, 27, 28, 29, 30, 31] (by decide +kernel) (by decide +kernel)
set_option maxRecDepth 20000 in
theorem gX1_chanceOf_X1_chanceFrom : GoodIn wsX1_chanceOf (wsV RX1 32 RX1 yX1_chanceFrom wsX1_chanceFrom) := goodIn_app (goodIn_of _ (by decide +kernel)) ggX1_chanceOf_X1_chanceFrom
theorem dX1_chanceOf_0 : decode cX1_chanceOf 0 = .ok (.aload_n 0, 1) := by decide +kernel
theorem dX1_chanceOf_1 : decode cX1_chanceOf 1 = .ok (.iload_n 1, 1) := by decide +kernel
theorem dX1_chanceOf_2 : decode cX1_chanceOf 2 = .ok (.iload_n 2, 1) := by decide +kernel
theorem dX1_chanceOf_3 : decode cX1_chanceOf 3 = .ok (.iconst 0, 1) := by decide +kernel
theorem dX1_chanceOf_4 : decode cX1_chanceOf 4 = .ok (.invokevirtual 32, 3) := by decide +kernel
theorem dX1_chanceOf_7 : decode cX1_chanceOf 7 = .ok (.dreturn, 1) := by decide +kernel
set_option maxRecDepth 20000 in
theorem ggX1_chanceFrom_X1_sumOverRolls : GoodIn wsX1_chanceFrom wsX1_sumOverRolls := goodIn_r _ [25, 26, 27, 28, 29, 6, 0, 1, 2, 3, 4, 5, 7, 8, 9, 10, 11, 12, 13, 14, 15, 16, 17, 18, 19, 20, 21, 22, 23, 24, 30] (by decide +kernel) (by decide +kernel)
set_option maxRecDepth 20000 in
theorem gX1_chanceFrom_X1_sumOverRolls : GoodIn wsX1_chanceFrom (wsV RX1 36 RX1 yX1_sumOverRolls wsX1_sumOverRolls) := goodIn_app (goodIn_of _ (by decide +kernel)) ggX1_chanceFrom_X1_sumOverRolls
theorem dX1_chanceFrom_0 : decode cX1_chanceFrom 0 = .ok (.iload_n 1, 1) := by decide +kernel
theorem dX1_chanceFrom_1 : decode cX1_chanceFrom 1 = .ok (.ifCond .lt 25, 3) := by decide +kernel
theorem dX1_chanceFrom_4 : decode cX1_chanceFrom 4 = .ok (.iload_n 1, 1) := by decide +kernel
theorem dX1_chanceFrom_5 : decode cX1_chanceFrom 5 = .ok (.bipush 49, 2) := by decide +kernel
theorem dX1_chanceFrom_7 : decode cX1_chanceFrom 7 = .ok (.if_icmp .ge 19, 3) := by decide +kernel
theorem dX1_chanceFrom_10 : decode cX1_chanceFrom 10 = .ok (.iload_n 2, 1) := by decide +kernel
theorem dX1_chanceFrom_11 : decode cX1_chanceFrom 11 = .ok (.ifCond .lt 15, 3) := by decide +kernel
theorem dX1_chanceFrom_14 : decode cX1_chanceFrom 14 = .ok (.iload_n 2, 1) := by decide +kernel
theorem dX1_chanceFrom_15 : decode cX1_chanceFrom 15 = .ok (.bipush 49, 2) := by decide +kernel
theorem dX1_chanceFrom_17 : decode cX1_chanceFrom 17 = .ok (.if_icmp .ge 9, 3) := by decide +kernel
theorem dX1_chanceFrom_20 : decode cX1_chanceFrom 20 = .ok (.iload_n 3, 1) := by decide +kernel
theorem dX1_chanceFrom_21 : decode cX1_chanceFrom 21 = .ok (.bipush 12, 2) := by decide +kernel
theorem dX1_chanceFrom_23 : decode cX1_chanceFrom 23 = .ok (.if_icmp .le 5, 3) := by decide +kernel
theorem dX1_chanceFrom_26 : decode cX1_chanceFrom 26 = .ok (.dconst 0, 1) := by decide +kernel
theorem dX1_chanceFrom_27 : decode cX1_chanceFrom 27 = .ok (.dreturn, 1) := by decide +kernel
theorem dX1_chanceFrom_28 : decode cX1_chanceFrom 28 = .ok (.iload_n 1, 1) := by decide +kernel
theorem dX1_chanceFrom_29 : decode cX1_chanceFrom 29 = .ok (.bipush 49, 2) := by decide +kernel
theorem dX1_chanceFrom_31 : decode cX1_chanceFrom 31 = .ok (.imul, 1) := by decide +kernel
theorem dX1_chanceFrom_32 : decode cX1_chanceFrom 32 = .ok (.iload_n 2, 1) := by decide +kernel
theorem dX1_chanceFrom_33 : decode cX1_chanceFrom 33 = .ok (.iadd, 1) := by decide +kernel
theorem dX1_chanceFrom_34 : decode cX1_chanceFrom 34 = .ok (.istore 4, 2) := by decide +kernel
theorem dX1_chanceFrom_36 : decode cX1_chanceFrom 36 = .ok (.aload_n 0, 1) := by decide +kernel
theorem dX1_chanceFrom_37 : decode cX1_chanceFrom 37 = .ok (.getfield 11, 3) := by decide +kernel
theorem dX1_chanceFrom_40 : decode cX1_chanceFrom 40 = .ok (.iload 4, 2) := by decide +kernel
theorem dX1_chanceFrom_42 : decode cX1_chanceFrom 42 = .ok (.daload, 1) := by decide +kernel
theorem dX1_chanceFrom_43 : decode cX1_chanceFrom 43 = .ok (.dconst 0, 1) := by decide +kernel
theorem dX1_chanceFrom_44 : decode cX1_chanceFrom 44 = .ok (.dcmp .g, 1) := by decide +kernel
theorem dX1_chanceFrom_45 : decode cX1_chanceFrom 45 = .ok (.ifCond .ge 21, 3) := by decide +kernel
theorem dX1_chanceFrom_48 : decode cX1_chanceFrom 48 = .ok (.aload_n 0, 1) := by decide +kernel
theorem dX1_chanceFrom_49 : decode cX1_chanceFrom 49 = .ok (.getfield 11, 3) := by decide +kernel
theorem dX1_chanceFrom_52 : decode cX1_chanceFrom 52 = .ok (.iload 4, 2) := by decide +kernel
theorem dX1_chanceFrom_54 : decode cX1_chanceFrom 54 = .ok (.aload_n 0, 1) := by decide +kernel
theorem dX1_chanceFrom_55 : decode cX1_chanceFrom 55 = .ok (.iload_n 1, 1) := by decide +kernel
theorem dX1_chanceFrom_56 : decode cX1_chanceFrom 56 = .ok (.iload_n 2, 1) := by decide +kernel
theorem dX1_chanceFrom_57 : decode cX1_chanceFrom 57 = .ok (.iload_n 3, 1) := by decide +kernel
theorem dX1_chanceFrom_58 : decode cX1_chanceFrom 58 = .ok (.invokevirtual 36, 3) := by decide +kernel
theorem dX1_chanceFrom_61 : decode cX1_chanceFrom 61 = .ok (.ldc2_w 39, 3) := by decide +kernel
theorem dX1_chanceFrom_64 : decode cX1_chanceFrom 64 = .ok (.ddiv, 1) := by decide +kernel
theorem dX1_chanceFrom_65 : decode cX1_chanceFrom 65 = .ok (.dastore, 1) := by decide +kernel
theorem dX1_chanceFrom_66 : decode cX1_chanceFrom 66 = .ok (.aload_n 0, 1) := by decide +kernel
theorem dX1_chanceFrom_67 : decode cX1_chanceFrom 67 = .ok (.getfield 11, 3) := by decide +kernel
theorem dX1_chanceFrom_70 : decode cX1_chanceFrom 70 = .ok (.iload 4, 2) := by decide +kernel
theorem dX1_chanceFrom_72 : decode cX1_chanceFrom 72 = .ok (.daload, 1) := by decide +kernel
theorem dX1_chanceFrom_73 : decode cX1_chanceFrom 73 = .ok (.dreturn, 1) := by decide +kernel
set_option maxRecDepth 20000 in
theorem ggX1_sumOverRolls_X1_ofRoll : GoodIn wsX1_sumOverRolls wsX1_ofRoll := goodIn_r _ [29, 26, 27, 28, 5, 6, 7, 8, 9, 10, 11, 12, 13, 14, 15, 16, 17, 18, 19, 20, 21, 22, 23, 24, 25, 0, 1, 2, 3, 4, 30] (by decide +kernel) (by decide +kernel)
set_option maxRecDepth 20000 in
theorem gX1_sumOverRolls_X1_ofRoll : GoodIn wsX1_sumOverRolls (wsV RX1 41 RX1 yX1_ofRoll wsX1_ofRoll) := goodIn_app (goodIn_of _ (by decide +kernel)) ggX1_sumOverRolls_X1_ofRoll
theorem dX1_sumOverRolls_0 : decode cX1_sumOverRolls 0 = .ok (.dconst 0, 1) := by decide +kernel
theorem dX1_sumOverRolls_1 : decode cX1_sumOverRolls 1 = .ok (.dstore 4, 2) := by decide +kernel
theorem dX1_sumOverRolls_3 : decode cX1_sumOverRolls 3 = .ok (.iconst 1, 1) := by decide +kernel
theorem dX1_sumOverRolls_4 : decode cX1_sumOverRolls 4 = .ok (.istore 6, 2) := by decide +kernel
theorem dX1_sumOverRolls_6 : decode cX1_sumOverRolls 6 = .ok (.iload 6, 2) := by decide +kernel
theorem dX1_sumOverRolls_8 : decode cX1_sumOverRolls 8 = .ok (.bipush 6, 2) := by decide +kernel
theorem dX1_sumOverRolls_10 : decode cX1_sumOverRolls 10 = .ok (.if_icmp .gt 57, 3) := by decide +kernel
theorem dX1_sumOverRolls_13 : decode cX1_sumOverRolls 13 = .ok (.iload 6, 2) := by decide +kernel
theorem dX1_sumOverRolls_15 : decode cX1_sumOverRolls 15 = .ok (.istore 7, 2) := by decide +kernel
theorem dX1_sumOverRolls_17 : decode cX1_sumOverRolls 17 = .ok (.iload 7, 2) := by decide +kernel
theorem dX1_sumOverRolls_19 : decode cX1_sumOverRolls 19 = .ok (.bipush 6, 2) := by decide +kernel
theorem dX1_sumOverRolls_21 : decode cX1_sumOverRolls 21 = .ok (.if_icmp .gt 40, 3) := by decide +kernel
theorem dX1_sumOverRolls_24 : decode cX1_sumOverRolls 24 = .ok (.dload 4, 2) := by decide +kernel
theorem dX1_sumOverRolls_26 : decode cX1_sumOverRolls 26 = .ok (.aload_n 0, 1) := by decide +kernel
theorem dX1_sumOverRolls_27 : decode cX1_sumOverRolls 27 = .ok (.iload_n 1, 1) := by decide +kernel
theorem dX1_sumOverRolls_28 : decode cX1_sumOverRolls 28 = .ok (.iload_n 2, 1) := by decide +kernel
theorem dX1_sumOverRolls_29 : decode cX1_sumOverRolls 29 = .ok (.iload 7, 2) := by decide +kernel
theorem dX1_sumOverRolls_31 : decode cX1_sumOverRolls 31 = .ok (.iload 6, 2) := by decide +kernel
theorem dX1_sumOverRolls_33 : decode cX1_sumOverRolls 33 = .ok (.iload_n 3, 1) := by decide +kernel
theorem dX1_sumOverRolls_34 : decode cX1_sumOverRolls 34 = .ok (.invokevirtual 41, 3) := by decide +kernel
theorem dX1_sumOverRolls_37 : decode cX1_sumOverRolls 37 = .ok (.iload 7, 2) := by decide +kernel
theorem dX1_sumOverRolls_39 : decode cX1_sumOverRolls 39 = .ok (.iload 6, 2) := by decide +kernel
theorem dX1_sumOverRolls_41 : decode cX1_sumOverRolls 41 = .ok (.if_icmp .ne 7, 3) := by decide +kernel
theorem dX1_sumOverRolls_44 : decode cX1_sumOverRolls 44 = .ok (.dconst 1, 1) := by decide +kernel
theorem dX1_sumOverRolls_45 : decode cX1_sumOverRolls 45 = .ok (.goto 6, 3) := by decide +kernel
theorem dX1_sumOverRolls_48 : decode cX1_sumOverRolls 48 = .ok (.ldc2_w 45, 3) := by decide +kernel
theorem dX1_sumOverRolls_51 : decode cX1_sumOverRolls 51 = .ok (.dmul, 1) := by decide +kernel
theorem dX1_sumOverRolls_52 : decode cX1_sumOverRolls 52 = .ok (.dadd, 1) := by decide +kernel
theorem dX1_sumOverRolls_53 : decode cX1_sumOverRolls 53 = .ok (.dstore 4, 2) := by decide +kernel
theorem dX1_sumOverRolls_55 : decode cX1_sumOverRolls 55 = .ok (.iinc 7 1, 3) := by decide +kernel
theorem dX1_sumOverRolls_58 : decode cX1_sumOverRolls 58 = .ok (.goto (-41), 3) := by decide +kernel
theorem dX1_sumOverRolls_61 : decode cX1_sumOverRolls 61 = .ok (.iinc 6 1, 3) := by decide +kernel
theorem dX1_sumOverRolls_64 : decode cX1_sumOverRolls 64 = .ok (.goto (-58), 3) := by decide +kernel
theorem dX1_sumOverRolls_67 : decode cX1_sumOverRolls 67 = .ok (.dload 4, 2) := by decide +kernel
theorem dX1_sumOverRolls_69 : decode cX1_sumOverRolls 69 = .ok (.dreturn, 1) := by decide +kernel
set_option maxRecDepth 20000 in
theorem ggX1_ofRoll_X1_greatest : GoodIn wsX1_ofRoll wsX1_greatest := goodIn_r _ [11, 12, 13, 14, 15, 16, 17, 18, 4, 19, 20, 21, 22, 23, 24, 1, 2, 3, 5, 6, 7, 8, 9, 10, 0, 25, 26, 27, 28, 29, 30] (by decide +kernel) (by decide +kernel)
set_option maxRecDepth 20000 in
theorem gX1_ofRoll_X1_greatest : GoodIn wsX1_ofRoll (wsV RX1 47 RX1 yX1_greatest wsX1_greatest) := goodIn_app (goodIn_of _ (by decide +kernel)) ggX1_ofRoll_X1_greatest
theorem dX1_ofRoll_0 : decode cX1_ofRoll 0 = .ok (.iload_n 3, 1) := by decide +kernel
theorem dX1_ofRoll_1 : decode cX1_ofRoll 1 = .ok (.iload 4, 2) := by decide +kernel
theorem dX1_ofRoll_3 : decode cX1_ofRoll 3 = .ok (.if_icmp .ne 15, 3) := by decide +kernel
theorem dX1_ofRoll_6 : decode cX1_ofRoll 6 = .ok (.aload_n 0, 1) := by decide +kernel
theorem dX1_ofRoll_7 : decode cX1_ofRoll 7 = .ok (.iload_n 1, 1) := by decide +kernel
theorem dX1_ofRoll_8 : decode cX1_ofRoll 8 = .ok (.iload_n 2, 1) := by decide +kernel
theorem dX1_ofRoll_9 : decode cX1_ofRoll 9 = .ok (.iload_n 3, 1) := by decide +kernel
theorem dX1_ofRoll_10 : decode cX1_ofRoll 10 = .ok (.iload_n 3, 1) := by decide +kernel
theorem dX1_ofRoll_11 : decode cX1_ofRoll 11 = .ok (.iconst 4, 1) := by decide +kernel
theorem dX1_ofRoll_12 : decode cX1_ofRoll 12 = .ok (.iload 5, 2) := by decide +kernel
theorem dX1_ofRoll_14 : decode cX1_ofRoll 14 = .ok (.invokevirtual 47, 3) := by decide +kernel
theorem dX1_ofRoll_17 : decode cX1_ofRoll 17 = .ok (.dreturn, 1) := by decide +kernel
theorem dX1_ofRoll_18 : decode cX1_ofRoll 18 = .ok (.aload_n 0, 1) := by decide +kernel
theorem dX1_ofRoll_19 : decode cX1_ofRoll 19 = .ok (.iload_n 1, 1) := by decide +kernel
theorem dX1_ofRoll_20 : decode cX1_ofRoll 20 = .ok (.iload_n 2, 1) := by decide +kernel
theorem dX1_ofRoll_21 : decode cX1_ofRoll 21 = .ok (.iload_n 3, 1) := by decide +kernel
theorem dX1_ofRoll_22 : decode cX1_ofRoll 22 = .ok (.iload 4, 2) := by decide +kernel
theorem dX1_ofRoll_24 : decode cX1_ofRoll 24 = .ok (.iconst 2, 1) := by decide +kernel
theorem dX1_ofRoll_25 : decode cX1_ofRoll 25 = .ok (.iload 5, 2) := by decide +kernel
theorem dX1_ofRoll_27 : decode cX1_ofRoll 27 = .ok (.invokevirtual 47, 3) := by decide +kernel
theorem dX1_ofRoll_30 : decode cX1_ofRoll 30 = .ok (.dstore 6, 2) := by decide +kernel
theorem dX1_ofRoll_32 : decode cX1_ofRoll 32 = .ok (.aload_n 0, 1) := by decide +kernel
theorem dX1_ofRoll_33 : decode cX1_ofRoll 33 = .ok (.iload_n 1, 1) := by decide +kernel
theorem dX1_ofRoll_34 : decode cX1_ofRoll 34 = .ok (.iload_n 2, 1) := by decide +kernel
theorem dX1_ofRoll_35 : decode cX1_ofRoll 35 = .ok (.iload 4, 2) := by decide +kernel
theorem dX1_ofRoll_37 : decode cX1_ofRoll 37 = .ok (.iload_n 3, 1) := by decide +kernel
theorem dX1_ofRoll_38 : decode cX1_ofRoll 38 = .ok (.iconst 2, 1) := by decide +kernel
theorem dX1_ofRoll_39 : decode cX1_ofRoll 39 = .ok (.iload 5, 2) := by decide +kernel
theorem dX1_ofRoll_41 : decode cX1_ofRoll 41 = .ok (.invokevirtual 47, 3) := by decide +kernel
theorem dX1_ofRoll_44 : decode cX1_ofRoll 44 = .ok (.dstore 8, 2) := by decide +kernel
theorem dX1_ofRoll_46 : decode cX1_ofRoll 46 = .ok (.dload 6, 2) := by decide +kernel
theorem dX1_ofRoll_48 : decode cX1_ofRoll 48 = .ok (.dload 8, 2) := by decide +kernel
theorem dX1_ofRoll_50 : decode cX1_ofRoll 50 = .ok (.dcmp .l, 1) := by decide +kernel
theorem dX1_ofRoll_51 : decode cX1_ofRoll 51 = .ok (.ifCond .lt 8, 3) := by decide +kernel
theorem dX1_ofRoll_54 : decode cX1_ofRoll 54 = .ok (.dload 6, 2) := by decide +kernel
theorem dX1_ofRoll_56 : decode cX1_ofRoll 56 = .ok (.goto 5, 3) := by decide +kernel
theorem dX1_ofRoll_59 : decode cX1_ofRoll 59 = .ok (.dload 8, 2) := by decide +kernel
theorem dX1_ofRoll_61 : decode cX1_ofRoll 61 = .ok (.dreturn, 1) := by decide +kernel
set_option maxRecDepth 20000 in
theorem ggX1_greatest_X1_chanceFrom : GoodIn wsX1_greatest wsX1_chanceFrom := goodIn_r _ [18, 19, 20, 21, 22, 23, 8, 0, 1, 2, 3, 4, 5, 6, 7, 9, 10, 11, 12, 13, 14, 15, 16, 17, 24, 25, 26, 27, 28, 29, 30] (by decide +kernel) (by decide +kernel)
set_option maxRecDepth 20000 in
theorem gX1_greatest_X1_chanceFrom : GoodIn wsX1_greatest (wsV RX1 32 RX1 yX1_chanceFrom wsX1_chanceFrom) := goodIn_app (goodIn_of _ (by decide +kernel)) ggX1_greatest_X1_chanceFrom
set_option maxRecDepth 20000 in
theorem ggX1_greatest_X1_pair : GoodIn wsX1_greatest wsX1_pair := goodIn_r _ [11, 1, 2, 3, 4, 12, 13, 14] (by decide +kernel) (by decide +kernel)
set_option maxRecDepth 20000 in
theorem gX1_greatest_X1_pair : GoodIn wsX1_greatest (va_wsS RX1 51 yX1_pair wsX1_pair) := goodIn_app (goodIn_of _ (by decide +kernel)) ggX1_greatest_X1_pair
set_option maxRecDepth 20000 in
theorem ggX1_greatest_X1_greatest : GoodIn wsX1_greatest wsX1_greatest := goodIn_r _ [0, 1, 2, 3, 4, 5, 6, 7, 8, 9, 10, 11, 12, 13, 14, 15, 16, 17, 18, 19, 20, 21, 22, 23, 24, 25, 26, 27, 28, 29, 30] (by decide +kernel) (by decide +kernel)
set_option maxRecDepth 20000 in
theorem gX1_greatest_X1_greatest : GoodIn wsX1_greatest (wsV RX1 47 RX1 yX1_greatest wsX1_greatest) := goodIn_app (goodIn_of _ (by decide +kernel)) ggX1_greatest_X1_greatest
theorem dX1_greatest_0 : decode cX1_greatest 0 = .ok (.iload_n 1, 1) := by decide +kernel
theorem dX1_greatest_1 : decode cX1_greatest 1 = .ok (.ifCond .ne 5, 3) := by decide +kernel
theorem dX1_greatest_4 : decode cX1_greatest 4 = .ok (.dconst 1, 1) := by decide +kernel
theorem dX1_greatest_5 : decode cX1_greatest 5 = .ok (.dreturn, 1) := by decide +kernel
theorem dX1_greatest_6 : decode cX1_greatest 6 = .ok (.iload 5, 2) := by decide +kernel
theorem dX1_greatest_8 : decode cX1_greatest 8 = .ok (.ifCond .gt 16, 3) := by decide +kernel
theorem dX1_greatest_11 : decode cX1_greatest 11 = .ok (.dconst 1, 1) := by decide +kernel
theorem dX1_greatest_12 : decode cX1_greatest 12 = .ok (.aload_n 0, 1) := by decide +kernel
theorem dX1_greatest_13 : decode cX1_greatest 13 = .ok (.iload_n 2, 1) := by decide +kernel
theorem dX1_greatest_14 : decode cX1_greatest 14 = .ok (.iload_n 1, 1) := by decide +kernel
theorem dX1_greatest_15 : decode cX1_greatest 15 = .ok (.iload 6, 2) := by decide +kernel
theorem dX1_greatest_17 : decode cX1_greatest 17 = .ok (.iconst 1, 1) := by decide +kernel
theorem dX1_greatest_18 : decode cX1_greatest 18 = .ok (.iadd, 1) := by decide +kernel
theorem dX1_greatest_19 : decode cX1_greatest 19 = .ok (.invokevirtual 32, 3) := by decide +kernel
theorem dX1_greatest_22 : decode cX1_greatest 22 = .ok (.dsub, 1) := by decide +kernel
theorem dX1_greatest_23 : decode cX1_greatest 23 = .ok (.dreturn, 1) := by decide +kernel
theorem dX1_greatest_24 : decode cX1_greatest 24 = .ok (.iload_n 1, 1) := by decide +kernel
theorem dX1_greatest_25 : decode cX1_greatest 25 = .ok (.bipush 7, 2) := by decide +kernel
theorem dX1_greatest_27 : decode cX1_greatest 27 = .ok (.idiv, 1) := by decide +kernel
theorem dX1_greatest_28 : decode cX1_greatest 28 = .ok (.istore 7, 2) := by decide +kernel
theorem dX1_greatest_30 : decode cX1_greatest 30 = .ok (.iload_n 1, 1) := by decide +kernel
theorem dX1_greatest_31 : decode cX1_greatest 31 = .ok (.bipush 7, 2) := by decide +kernel
theorem dX1_greatest_33 : decode cX1_greatest 33 = .ok (.irem, 1) := by decide +kernel
theorem dX1_greatest_34 : decode cX1_greatest 34 = .ok (.istore 8, 2) := by decide +kernel
theorem dX1_greatest_36 : decode cX1_greatest 36 = .ok (.aload_n 0, 1) := by decide +kernel
theorem dX1_greatest_37 : decode cX1_greatest 37 = .ok (.iload 7, 2) := by decide +kernel
theorem dX1_greatest_39 : decode cX1_greatest 39 = .ok (.iload_n 3, 1) := by decide +kernel
theorem dX1_greatest_40 : decode cX1_greatest 40 = .ok (.isub, 1) := by decide +kernel
theorem dX1_greatest_41 : decode cX1_greatest 41 = .ok (.iconst 0, 1) := by decide +kernel
theorem dX1_greatest_42 : decode cX1_greatest 42 = .ok (.invokestatic 23, 3) := by decide +kernel
theorem dX1_greatest_45 : decode cX1_greatest 45 = .ok (.iload 8, 2) := by decide +kernel
theorem dX1_greatest_47 : decode cX1_greatest 47 = .ok (.invokestatic 51, 3) := by decide +kernel
theorem dX1_greatest_50 : decode cX1_greatest 50 = .ok (.iload_n 2, 1) := by decide +kernel
theorem dX1_greatest_51 : decode cX1_greatest 51 = .ok (.iload 4, 2) := by decide +kernel
theorem dX1_greatest_53 : decode cX1_greatest 53 = .ok (.iload_n 3, 1) := by decide +kernel
theorem dX1_greatest_54 : decode cX1_greatest 54 = .ok (.iload 5, 2) := by decide +kernel
theorem dX1_greatest_56 : decode cX1_greatest 56 = .ok (.iconst 1, 1) := by decide +kernel
theorem dX1_greatest_57 : decode cX1_greatest 57 = .ok (.isub, 1) := by decide +kernel
theorem dX1_greatest_58 : decode cX1_greatest 58 = .ok (.iload 6, 2) := by decide +kernel
theorem dX1_greatest_60 : decode cX1_greatest 60 = .ok (.invokevirtual 47, 3) := by decide +kernel
theorem dX1_greatest_63 : decode cX1_greatest 63 = .ok (.dstore 9, 2) := by decide +kernel
theorem dX1_greatest_65 : decode cX1_greatest 65 = .ok (.iload 8, 2) := by decide +kernel
theorem dX1_greatest_67 : decode cX1_greatest 67 = .ok (.iload_n 3, 1) := by decide +kernel
theorem dX1_greatest_68 : decode cX1_greatest 68 = .ok (.if_icmp .lt 10, 3) := by decide +kernel
theorem dX1_greatest_71 : decode cX1_greatest 71 = .ok (.iload 8, 2) := by decide +kernel
theorem dX1_greatest_73 : decode cX1_greatest 73 = .ok (.iload 7, 2) := by decide +kernel
theorem dX1_greatest_75 : decode cX1_greatest 75 = .ok (.if_icmp .ne 6, 3) := by decide +kernel
theorem dX1_greatest_78 : decode cX1_greatest 78 = .ok (.dload 9, 2) := by decide +kernel
theorem dX1_greatest_80 : decode cX1_greatest 80 = .ok (.dreturn, 1) := by decide +kernel
theorem dX1_greatest_81 : decode cX1_greatest 81 = .ok (.aload_n 0, 1) := by decide +kernel
theorem dX1_greatest_82 : decode cX1_greatest 82 = .ok (.iload 7, 2) := by decide +kernel
theorem dX1_greatest_84 : decode cX1_greatest 84 = .ok (.iload 8, 2) := by decide +kernel
theorem dX1_greatest_86 : decode cX1_greatest 86 = .ok (.iload_n 3, 1) := by decide +kernel
theorem dX1_greatest_87 : decode cX1_greatest 87 = .ok (.isub, 1) := by decide +kernel
theorem dX1_greatest_88 : decode cX1_greatest 88 = .ok (.invokestatic 51, 3) := by decide +kernel
theorem dX1_greatest_91 : decode cX1_greatest 91 = .ok (.iload_n 2, 1) := by decide +kernel
theorem dX1_greatest_92 : decode cX1_greatest 92 = .ok (.iload 4, 2) := by decide +kernel
theorem dX1_greatest_94 : decode cX1_greatest 94 = .ok (.iload_n 3, 1) := by decide +kernel
theorem dX1_greatest_95 : decode cX1_greatest 95 = .ok (.iload 5, 2) := by decide +kernel
theorem dX1_greatest_97 : decode cX1_greatest 97 = .ok (.iconst 1, 1) := by decide +kernel
theorem dX1_greatest_98 : decode cX1_greatest 98 = .ok (.isub, 1) := by decide +kernel
theorem dX1_greatest_99 : decode cX1_greatest 99 = .ok (.iload 6, 2) := by decide +kernel
theorem dX1_greatest_101 : decode cX1_greatest 101 = .ok (.invokevirtual 47, 3) := by decide +kernel
theorem dX1_greatest_104 : decode cX1_greatest 104 = .ok (.dstore 11, 2) := by decide +kernel
theorem dX1_greatest_106 : decode cX1_greatest 106 = .ok (.dload 9, 2) := by decide +kernel
theorem dX1_greatest_108 : decode cX1_greatest 108 = .ok (.dload 11, 2) := by decide +kernel
theorem dX1_greatest_110 : decode cX1_greatest 110 = .ok (.dcmp .l, 1) := by decide +kernel
theorem dX1_greatest_111 : decode cX1_greatest 111 = .ok (.ifCond .lt 8, 3) := by decide +kernel
theorem dX1_greatest_114 : decode cX1_greatest 114 = .ok (.dload 9, 2) := by decide +kernel
theorem dX1_greatest_116 : decode cX1_greatest 116 = .ok (.goto 5, 3) := by decide +kernel
theorem dX1_greatest_119 : decode cX1_greatest 119 = .ok (.dload 11, 2) := by decide +kernel
theorem dX1_greatest_121 : decode cX1_greatest 121 = .ok (.dreturn, 1) := by decide +kernel
theorem dX2_init_0 : decode cX2_init 0 = .ok (.aload_n 0, 1) := by decide +kernel
theorem dX2_init_1 : decode cX2_init 1 = .ok (.invokespecial 3, 3) := by decide +kernel
theorem dX2_init_4 : decode cX2_init 4 = .ok (.aload_n 0, 1) := by decide +kernel
theorem dX2_init_5 : decode cX2_init 5 = .ok (.sipush 676, 3) := by decide +kernel
theorem dX2_init_8 : decode cX2_init 8 = .ok (.newarray .long, 2) := by decide +kernel
theorem dX2_init_10 : decode cX2_init 10 = .ok (.putfield 11, 3) := by decide +kernel
theorem dX2_init_13 : decode cX2_init 13 = .ok (.aload_n 0, 1) := by decide +kernel
theorem dX2_init_14 : decode cX2_init 14 = .ok (.bipush 25, 2) := by decide +kernel
theorem dX2_init_16 : decode cX2_init 16 = .ok (.putfield 15, 3) := by decide +kernel
theorem dX2_init_19 : decode cX2_init 19 = .ok (.return_, 1) := by decide +kernel
theorem dX2_replaceRate_0 : decode cX2_replaceRate 0 = .ok (.aload_n 0, 1) := by decide +kernel
theorem dX2_replaceRate_1 : decode cX2_replaceRate 1 = .ok (.getfield 15, 3) := by decide +kernel
theorem dX2_replaceRate_4 : decode cX2_replaceRate 4 = .ok (.istore_n 2, 1) := by decide +kernel
theorem dX2_replaceRate_5 : decode cX2_replaceRate 5 = .ok (.aload_n 0, 1) := by decide +kernel
theorem dX2_replaceRate_6 : decode cX2_replaceRate 6 = .ok (.iload_n 1, 1) := by decide +kernel
theorem dX2_replaceRate_7 : decode cX2_replaceRate 7 = .ok (.putfield 15, 3) := by decide +kernel
theorem dX2_replaceRate_10 : decode cX2_replaceRate 10 = .ok (.iload_n 2, 1) := by decide +kernel
theorem dX2_replaceRate_11 : decode cX2_replaceRate 11 = .ok (.ireturn, 1) := by decide +kernel
set_option maxRecDepth 20000 in
theorem ggX2_of_X2_at : GoodIn wsX2_of wsX2_at := goodIn_r _ [8, 9, 1, 10, 11] (by decide +kernel) (by decide +kernel)
set_option maxRecDepth 20000 in
theorem gX2_of_X2_at : GoodIn wsX2_of (wsV RX2 19 RX2 yX2_at wsX2_at) := goodIn_app (goodIn_of _ (by decide +kernel)) ggX2_of_X2_at
theorem dX2_of_0 : decode cX2_of 0 = .ok (.iconst 1, 1) := by decide +kernel
theorem dX2_of_1 : decode cX2_of 1 = .ok (.istore_n 3, 1) := by decide +kernel
theorem dX2_of_2 : decode cX2_of 2 = .ok (.iload_n 3, 1) := by decide +kernel
theorem dX2_of_3 : decode cX2_of 3 = .ok (.iload_n 1, 1) := by decide +kernel
theorem dX2_of_4 : decode cX2_of 4 = .ok (.if_icmp .gt 115, 3) := by decide +kernel
theorem dX2_of_7 : decode cX2_of 7 = .ok (.iload_n 3, 1) := by decide +kernel
theorem dX2_of_8 : decode cX2_of 8 = .ok (.bipush 26, 2) := by decide +kernel
theorem dX2_of_10 : decode cX2_of 10 = .ok (.if_icmp .ge 109, 3) := by decide +kernel
theorem dX2_of_13 : decode cX2_of 13 = .ok (.iconst 1, 1) := by decide +kernel
theorem dX2_of_14 : decode cX2_of 14 = .ok (.istore 4, 2) := by decide +kernel
theorem dX2_of_16 : decode cX2_of 16 = .ok (.iload 4, 2) := by decide +kernel
theorem dX2_of_18 : decode cX2_of 18 = .ok (.iload_n 2, 1) := by decide +kernel
theorem dX2_of_19 : decode cX2_of 19 = .ok (.if_icmp .gt 94, 3) := by decide +kernel
theorem dX2_of_22 : decode cX2_of 22 = .ok (.iload 4, 2) := by decide +kernel
theorem dX2_of_24 : decode cX2_of 24 = .ok (.bipush 26, 2) := by decide +kernel
theorem dX2_of_26 : decode cX2_of 26 = .ok (.if_icmp .ge 87, 3) := by decide +kernel
theorem dX2_of_29 : decode cX2_of 29 = .ok (.aload_n 0, 1) := by decide +kernel
theorem dX2_of_30 : decode cX2_of 30 = .ok (.iload_n 3, 1) := by decide +kernel
theorem dX2_of_31 : decode cX2_of 31 = .ok (.iconst 1, 1) := by decide +kernel
theorem dX2_of_32 : decode cX2_of 32 = .ok (.isub, 1) := by decide +kernel
theorem dX2_of_33 : decode cX2_of 33 = .ok (.iload 4, 2) := by decide +kernel
theorem dX2_of_35 : decode cX2_of 35 = .ok (.invokevirtual 19, 3) := by decide +kernel
theorem dX2_of_38 : decode cX2_of 38 = .ok (.aload_n 0, 1) := by decide +kernel
theorem dX2_of_39 : decode cX2_of 39 = .ok (.iload_n 3, 1) := by decide +kernel
theorem dX2_of_40 : decode cX2_of 40 = .ok (.iload 4, 2) := by decide +kernel
theorem dX2_of_42 : decode cX2_of 42 = .ok (.iconst 1, 1) := by decide +kernel
theorem dX2_of_43 : decode cX2_of 43 = .ok (.isub, 1) := by decide +kernel
theorem dX2_of_44 : decode cX2_of 44 = .ok (.invokevirtual 19, 3) := by decide +kernel
theorem dX2_of_47 : decode cX2_of 47 = .ok (.ladd, 1) := by decide +kernel
theorem dX2_of_48 : decode cX2_of 48 = .ok (.lstore 5, 2) := by decide +kernel
theorem dX2_of_50 : decode cX2_of 50 = .ok (.aload_n 0, 1) := by decide +kernel
theorem dX2_of_51 : decode cX2_of 51 = .ok (.iload_n 3, 1) := by decide +kernel
theorem dX2_of_52 : decode cX2_of 52 = .ok (.iconst 2, 1) := by decide +kernel
theorem dX2_of_53 : decode cX2_of 53 = .ok (.isub, 1) := by decide +kernel
theorem dX2_of_54 : decode cX2_of 54 = .ok (.iload 4, 2) := by decide +kernel
theorem dX2_of_56 : decode cX2_of 56 = .ok (.invokevirtual 19, 3) := by decide +kernel
theorem dX2_of_59 : decode cX2_of 59 = .ok (.aload_n 0, 1) := by decide +kernel
theorem dX2_of_60 : decode cX2_of 60 = .ok (.iload_n 3, 1) := by decide +kernel
theorem dX2_of_61 : decode cX2_of 61 = .ok (.iload 4, 2) := by decide +kernel
theorem dX2_of_63 : decode cX2_of 63 = .ok (.iconst 2, 1) := by decide +kernel
theorem dX2_of_64 : decode cX2_of 64 = .ok (.isub, 1) := by decide +kernel
theorem dX2_of_65 : decode cX2_of 65 = .ok (.invokevirtual 19, 3) := by decide +kernel
theorem dX2_of_68 : decode cX2_of 68 = .ok (.ladd, 1) := by decide +kernel
theorem dX2_of_69 : decode cX2_of 69 = .ok (.lstore 7, 2) := by decide +kernel
theorem dX2_of_71 : decode cX2_of 71 = .ok (.aload_n 0, 1) := by decide +kernel
theorem dX2_of_72 : decode cX2_of 72 = .ok (.getfield 11, 3) := by decide +kernel
theorem dX2_of_75 : decode cX2_of 75 = .ok (.iload_n 3, 1) := by decide +kernel
theorem dX2_of_76 : decode cX2_of 76 = .ok (.bipush 26, 2) := by decide +kernel
theorem dX2_of_78 : decode cX2_of 78 = .ok (.imul, 1) := by decide +kernel
theorem dX2_of_79 : decode cX2_of 79 = .ok (.iload 4, 2) := by decide +kernel
theorem dX2_of_81 : decode cX2_of 81 = .ok (.iadd, 1) := by decide +kernel
theorem dX2_of_82 : decode cX2_of 82 = .ok (.bipush 100, 2) := by decide +kernel
theorem dX2_of_84 : decode cX2_of 84 = .ok (.aload_n 0, 1) := by decide +kernel
theorem dX2_of_85 : decode cX2_of 85 = .ok (.getfield 15, 3) := by decide +kernel
theorem dX2_of_88 : decode cX2_of 88 = .ok (.isub, 1) := by decide +kernel
theorem dX2_of_89 : decode cX2_of 89 = .ok (.i2l, 1) := by decide +kernel
theorem dX2_of_90 : decode cX2_of 90 = .ok (.lload 5, 2) := by decide +kernel
theorem dX2_of_92 : decode cX2_of 92 = .ok (.lmul, 1) := by decide +kernel
theorem dX2_of_93 : decode cX2_of 93 = .ok (.aload_n 0, 1) := by decide +kernel
theorem dX2_of_94 : decode cX2_of 94 = .ok (.getfield 15, 3) := by decide +kernel
theorem dX2_of_97 : decode cX2_of 97 = .ok (.i2l, 1) := by decide +kernel
theorem dX2_of_98 : decode cX2_of 98 = .ok (.lload 7, 2) := by decide +kernel
theorem dX2_of_100 : decode cX2_of 100 = .ok (.lmul, 1) := by decide +kernel
theorem dX2_of_101 : decode cX2_of 101 = .ok (.ladd, 1) := by decide +kernel
theorem dX2_of_102 : decode cX2_of 102 = .ok (.ldc2_w 23, 3) := by decide +kernel
theorem dX2_of_105 : decode cX2_of 105 = .ok (.ldiv, 1) := by decide +kernel
theorem dX2_of_106 : decode cX2_of 106 = .ok (.lastore, 1) := by decide +kernel
theorem dX2_of_107 : decode cX2_of 107 = .ok (.iinc 4 1, 3) := by decide +kernel
theorem dX2_of_110 : decode cX2_of 110 = .ok (.goto (-94), 3) := by decide +kernel
theorem dX2_of_113 : decode cX2_of 113 = .ok (.iinc 3 1, 3) := by decide +kernel
theorem dX2_of_116 : decode cX2_of 116 = .ok (.goto (-114), 3) := by decide +kernel
theorem dX2_of_119 : decode cX2_of 119 = .ok (.aload_n 0, 1) := by decide +kernel
theorem dX2_of_120 : decode cX2_of 120 = .ok (.iload_n 1, 1) := by decide +kernel
theorem dX2_of_121 : decode cX2_of 121 = .ok (.iload_n 2, 1) := by decide +kernel
theorem dX2_of_122 : decode cX2_of 122 = .ok (.invokevirtual 19, 3) := by decide +kernel
theorem dX2_of_125 : decode cX2_of 125 = .ok (.lreturn, 1) := by decide +kernel
theorem dX2_at_0 : decode cX2_at 0 = .ok (.iload_n 1, 1) := by decide +kernel
theorem dX2_at_1 : decode cX2_at 1 = .ok (.ifCond .gt 7, 3) := by decide +kernel
theorem dX2_at_4 : decode cX2_at 4 = .ok (.ldc2_w 25, 3) := by decide +kernel
theorem dX2_at_7 : decode cX2_at 7 = .ok (.lreturn, 1) := by decide +kernel
theorem dX2_at_8 : decode cX2_at 8 = .ok (.iload_n 2, 1) := by decide +kernel
theorem dX2_at_9 : decode cX2_at 9 = .ok (.ifCond .le 15, 3) := by decide +kernel
theorem dX2_at_12 : decode cX2_at 12 = .ok (.iload_n 1, 1) := by decide +kernel
theorem dX2_at_13 : decode cX2_at 13 = .ok (.bipush 26, 2) := by decide +kernel
theorem dX2_at_15 : decode cX2_at 15 = .ok (.if_icmp .ge 9, 3) := by decide +kernel
theorem dX2_at_18 : decode cX2_at 18 = .ok (.iload_n 2, 1) := by decide +kernel
theorem dX2_at_19 : decode cX2_at 19 = .ok (.bipush 26, 2) := by decide +kernel
theorem dX2_at_21 : decode cX2_at 21 = .ok (.if_icmp .lt 5, 3) := by decide +kernel
theorem dX2_at_24 : decode cX2_at 24 = .ok (.lconst 0, 1) := by decide +kernel
theorem dX2_at_25 : decode cX2_at 25 = .ok (.lreturn, 1) := by decide +kernel
theorem dX2_at_26 : decode cX2_at 26 = .ok (.aload_n 0, 1) := by decide +kernel
theorem dX2_at_27 : decode cX2_at 27 = .ok (.getfield 11, 3) := by decide +kernel
theorem dX2_at_30 : decode cX2_at 30 = .ok (.iload_n 1, 1) := by decide +kernel
theorem dX2_at_31 : decode cX2_at 31 = .ok (.bipush 26, 2) := by decide +kernel
theorem dX2_at_33 : decode cX2_at 33 = .ok (.imul, 1) := by decide +kernel
theorem dX2_at_34 : decode cX2_at 34 = .ok (.iload_n 2, 1) := by decide +kernel
theorem dX2_at_35 : decode cX2_at 35 = .ok (.iadd, 1) := by decide +kernel
theorem dX2_at_36 : decode cX2_at 36 = .ok (.laload, 1) := by decide +kernel
theorem dX2_at_37 : decode cX2_at 37 = .ok (.lreturn, 1) := by decide +kernel
theorem dX3_init_0 : decode cX3_init 0 = .ok (.aload_n 0, 1) := by decide +kernel
theorem dX3_init_1 : decode cX3_init 1 = .ok (.invokespecial 3, 3) := by decide +kernel
theorem dX3_init_4 : decode cX3_init 4 = .ok (.aload_n 0, 1) := by decide +kernel
theorem dX3_init_5 : decode cX3_init 5 = .ok (.sipush 512, 3) := by decide +kernel
theorem dX3_init_8 : decode cX3_init 8 = .ok (.newarray .int, 2) := by decide +kernel
theorem dX3_init_10 : decode cX3_init 10 = .ok (.putfield 9, 3) := by decide +kernel
theorem dX3_init_13 : decode cX3_init 13 = .ok (.aload_n 0, 1) := by decide +kernel
theorem dX3_init_14 : decode cX3_init 14 = .ok (.sipush 512, 3) := by decide +kernel
theorem dX3_init_17 : decode cX3_init 17 = .ok (.newarray .int, 2) := by decide +kernel
theorem dX3_init_19 : decode cX3_init 19 = .ok (.putfield 15, 3) := by decide +kernel
theorem dX3_init_22 : decode cX3_init 22 = .ok (.aload_n 0, 1) := by decide +kernel
theorem dX3_init_23 : decode cX3_init 23 = .ok (.sipush 512, 3) := by decide +kernel
theorem dX3_init_26 : decode cX3_init 26 = .ok (.newarray .int, 2) := by decide +kernel
theorem dX3_init_28 : decode cX3_init 28 = .ok (.putfield 18, 3) := by decide +kernel
theorem dX3_init_31 : decode cX3_init 31 = .ok (.aload_n 0, 1) := by decide +kernel
theorem dX3_init_32 : decode cX3_init 32 = .ok (.iconst 0, 1) := by decide +kernel
theorem dX3_init_33 : decode cX3_init 33 = .ok (.putfield 21, 3) := by decide +kernel
theorem dX3_init_36 : decode cX3_init 36 = .ok (.aload_n 0, 1) := by decide +kernel
theorem dX3_init_37 : decode cX3_init 37 = .ok (.bipush 32, 2) := by decide +kernel
theorem dX3_init_39 : decode cX3_init 39 = .ok (.putfield 25, 3) := by decide +kernel
theorem dX3_init_42 : decode cX3_init 42 = .ok (.aload_n 0, 1) := by decide +kernel
theorem dX3_init_43 : decode cX3_init 43 = .ok (.iconst 0, 1) := by decide +kernel
theorem dX3_init_44 : decode cX3_init 44 = .ok (.putfield 29, 3) := by decide +kernel
theorem dX3_init_47 : decode cX3_init 47 = .ok (.return_, 1) := by decide +kernel
theorem dX3_clear_0 : decode cX3_clear 0 = .ok (.aload_n 0, 1) := by decide +kernel
theorem dX3_clear_1 : decode cX3_clear 1 = .ok (.iconst 0, 1) := by decide +kernel
theorem dX3_clear_2 : decode cX3_clear 2 = .ok (.putfield 21, 3) := by decide +kernel
theorem dX3_clear_5 : decode cX3_clear 5 = .ok (.aload_n 0, 1) := by decide +kernel
theorem dX3_clear_6 : decode cX3_clear 6 = .ok (.iload_n 1, 1) := by decide +kernel
theorem dX3_clear_7 : decode cX3_clear 7 = .ok (.putfield 25, 3) := by decide +kernel
theorem dX3_clear_10 : decode cX3_clear 10 = .ok (.aload_n 0, 1) := by decide +kernel
theorem dX3_clear_11 : decode cX3_clear 11 = .ok (.iload_n 2, 1) := by decide +kernel
theorem dX3_clear_12 : decode cX3_clear 12 = .ok (.putfield 29, 3) := by decide +kernel
theorem dX3_clear_15 : decode cX3_clear 15 = .ok (.return_, 1) := by decide +kernel
theorem dX3_add_0 : decode cX3_add 0 = .ok (.aload_n 0, 1) := by decide +kernel
theorem dX3_add_1 : decode cX3_add 1 = .ok (.getfield 21, 3) := by decide +kernel
theorem dX3_add_4 : decode cX3_add 4 = .ok (.ifCond .lt 53, 3) := by decide +kernel
theorem dX3_add_7 : decode cX3_add 7 = .ok (.aload_n 0, 1) := by decide +kernel
theorem dX3_add_8 : decode cX3_add 8 = .ok (.getfield 21, 3) := by decide +kernel
theorem dX3_add_11 : decode cX3_add 11 = .ok (.sipush 512, 3) := by decide +kernel
theorem dX3_add_14 : decode cX3_add 14 = .ok (.if_icmp .ge 43, 3) := by decide +kernel
theorem dX3_add_17 : decode cX3_add 17 = .ok (.aload_n 0, 1) := by decide +kernel
theorem dX3_add_18 : decode cX3_add 18 = .ok (.getfield 9, 3) := by decide +kernel
theorem dX3_add_21 : decode cX3_add 21 = .ok (.aload_n 0, 1) := by decide +kernel
theorem dX3_add_22 : decode cX3_add 22 = .ok (.getfield 21, 3) := by decide +kernel
theorem dX3_add_25 : decode cX3_add 25 = .ok (.iload_n 1, 1) := by decide +kernel
theorem dX3_add_26 : decode cX3_add 26 = .ok (.iastore, 1) := by decide +kernel
theorem dX3_add_27 : decode cX3_add 27 = .ok (.aload_n 0, 1) := by decide +kernel
theorem dX3_add_28 : decode cX3_add 28 = .ok (.getfield 15, 3) := by decide +kernel
theorem dX3_add_31 : decode cX3_add 31 = .ok (.aload_n 0, 1) := by decide +kernel
theorem dX3_add_32 : decode cX3_add 32 = .ok (.getfield 21, 3) := by decide +kernel
theorem dX3_add_35 : decode cX3_add 35 = .ok (.iload_n 2, 1) := by decide +kernel
theorem dX3_add_36 : decode cX3_add 36 = .ok (.iastore, 1) := by decide +kernel
theorem dX3_add_37 : decode cX3_add 37 = .ok (.aload_n 0, 1) := by decide +kernel
theorem dX3_add_38 : decode cX3_add 38 = .ok (.getfield 18, 3) := by decide +kernel
theorem dX3_add_41 : decode cX3_add 41 = .ok (.aload_n 0, 1) := by decide +kernel
theorem dX3_add_42 : decode cX3_add 42 = .ok (.getfield 21, 3) := by decide +kernel
theorem dX3_add_45 : decode cX3_add 45 = .ok (.iload_n 3, 1) := by decide +kernel
theorem dX3_add_46 : decode cX3_add 46 = .ok (.iastore, 1) := by decide +kernel
theorem dX3_add_47 : decode cX3_add 47 = .ok (.aload_n 0, 1) := by decide +kernel
theorem dX3_add_48 : decode cX3_add 48 = .ok (.dup, 1) := by decide +kernel
theorem dX3_add_49 : decode cX3_add 49 = .ok (.getfield 21, 3) := by decide +kernel
theorem dX3_add_52 : decode cX3_add 52 = .ok (.iconst 1, 1) := by decide +kernel
theorem dX3_add_53 : decode cX3_add 53 = .ok (.iadd, 1) := by decide +kernel
theorem dX3_add_54 : decode cX3_add 54 = .ok (.putfield 21, 3) := by decide +kernel
theorem dX3_add_57 : decode cX3_add 57 = .ok (.return_, 1) := by decide +kernel
theorem dX3_turns_0 : decode cX3_turns 0 = .ok (.aload_n 0, 1) := by decide +kernel
theorem dX3_turns_1 : decode cX3_turns 1 = .ok (.getfield 21, 3) := by decide +kernel
theorem dX3_turns_4 : decode cX3_turns 4 = .ok (.ireturn, 1) := by decide +kernel
theorem dX3_variant_0 : decode cX3_variant 0 = .ok (.aload_n 0, 1) := by decide +kernel
theorem dX3_variant_1 : decode cX3_variant 1 = .ok (.getfield 25, 3) := by decide +kernel
theorem dX3_variant_4 : decode cX3_variant 4 = .ok (.ireturn, 1) := by decide +kernel
theorem dX3_diceAt_0 : decode cX3_diceAt 0 = .ok (.iload_n 1, 1) := by decide +kernel
theorem dX3_diceAt_1 : decode cX3_diceAt 1 = .ok (.ifCond .lt 19, 3) := by decide +kernel
theorem dX3_diceAt_4 : decode cX3_diceAt 4 = .ok (.iload_n 1, 1) := by decide +kernel
theorem dX3_diceAt_5 : decode cX3_diceAt 5 = .ok (.sipush 512, 3) := by decide +kernel
theorem dX3_diceAt_8 : decode cX3_diceAt 8 = .ok (.if_icmp .ge 12, 3) := by decide +kernel
theorem dX3_diceAt_11 : decode cX3_diceAt 11 = .ok (.aload_n 0, 1) := by decide +kernel
theorem dX3_diceAt_12 : decode cX3_diceAt 12 = .ok (.getfield 9, 3) := by decide +kernel
theorem dX3_diceAt_15 : decode cX3_diceAt 15 = .ok (.iload_n 1, 1) := by decide +kernel
theorem dX3_diceAt_16 : decode cX3_diceAt 16 = .ok (.iaload, 1) := by decide +kernel
theorem dX3_diceAt_17 : decode cX3_diceAt 17 = .ok (.goto 4, 3) := by decide +kernel
theorem dX3_diceAt_20 : decode cX3_diceAt 20 = .ok (.iconst 0, 1) := by decide +kernel
theorem dX3_diceAt_21 : decode cX3_diceAt 21 = .ok (.ireturn, 1) := by decide +kernel
theorem dX3_numberAt_0 : decode cX3_numberAt 0 = .ok (.iload_n 1, 1) := by decide +kernel
theorem dX3_numberAt_1 : decode cX3_numberAt 1 = .ok (.ifCond .lt 19, 3) := by decide +kernel
theorem dX3_numberAt_4 : decode cX3_numberAt 4 = .ok (.iload_n 1, 1) := by decide +kernel
theorem dX3_numberAt_5 : decode cX3_numberAt 5 = .ok (.sipush 512, 3) := by decide +kernel
theorem dX3_numberAt_8 : decode cX3_numberAt 8 = .ok (.if_icmp .ge 12, 3) := by decide +kernel
theorem dX3_numberAt_11 : decode cX3_numberAt 11 = .ok (.aload_n 0, 1) := by decide +kernel
theorem dX3_numberAt_12 : decode cX3_numberAt 12 = .ok (.getfield 15, 3) := by decide +kernel
theorem dX3_numberAt_15 : decode cX3_numberAt 15 = .ok (.iload_n 1, 1) := by decide +kernel
theorem dX3_numberAt_16 : decode cX3_numberAt 16 = .ok (.iaload, 1) := by decide +kernel
theorem dX3_numberAt_17 : decode cX3_numberAt 17 = .ok (.goto 4, 3) := by decide +kernel
theorem dX3_numberAt_20 : decode cX3_numberAt 20 = .ok (.iconst 0, 1) := by decide +kernel
theorem dX3_numberAt_21 : decode cX3_numberAt 21 = .ok (.ireturn, 1) := by decide +kernel
set_option maxRecDepth 20000 in
theorem ggX3_replay_X9_layoutOf : GoodIn wsX3_replay wsX9_layoutOf := goodIn_r _ [7, 8, 9, 10, 11] (by decide +kernel) (by decide +kernel)
set_option maxRecDepth 20000 in
theorem gX3_replay_X9_layoutOf_n32 : GoodIn wsX3_replay (wsX9_layoutOf) := ggX3_replay_X9_layoutOf
set_option maxRecDepth 20000 in
theorem ggX3_replay_X0_layOut : GoodIn wsX3_replay wsX0_layOut := goodIn_r _ [16, 17, 18, 19, 20, 21, 22, 23, 24, 15, 25, 54] (by decide +kernel) (by decide +kernel)
set_option maxRecDepth 20000 in
theorem gX3_replay_X0_layOut : GoodIn wsX3_replay (wsV RX3 36 RX0 yX0_layOut wsX0_layOut) := goodIn_app (goodIn_of _ (by decide +kernel)) ggX3_replay_X0_layOut
set_option maxRecDepth 20000 in
theorem ggX3_replay_X0_carry : GoodIn wsX3_replay wsX0_carry := goodIn_r _ [29, 30, 6, 31, 32, 33, 34, 35, 36, 37, 38, 15, 39, 40, 41, 42, 43, 22, 23, 24, 25, 17, 44, 45, 46, 47, 54] (by decide +kernel) (by decide +kernel)
set_option maxRecDepth 20000 in
theorem gX3_replay_X0_carry : GoodIn wsX3_replay (wsV RX3 42 RX0 yX0_carry wsX0_carry) := goodIn_app (goodIn_of _ (by decide +kernel)) ggX3_replay_X0_carry
theorem dX3_replay_0 : decode cX3_replay 0 = .ok (.aload_n 1, 1) := by decide +kernel
theorem dX3_replay_1 : decode cX3_replay 1 = .ok (.aload_n 0, 1) := by decide +kernel
theorem dX3_replay_2 : decode cX3_replay 2 = .ok (.getfield 25, 3) := by decide +kernel
theorem dX3_replay_5 : decode cX3_replay 5 = .ok (.invokestatic 32, 3) := by decide +kernel
theorem dX3_replay_8 : decode cX3_replay 8 = .ok (.invokevirtual 36, 3) := by decide +kernel
theorem dX3_replay_11 : decode cX3_replay 11 = .ok (.aload_n 0, 1) := by decide +kernel
theorem dX3_replay_12 : decode cX3_replay 12 = .ok (.getfield 29, 3) := by decide +kernel
theorem dX3_replay_15 : decode cX3_replay 15 = .ok (.istore_n 2, 1) := by decide +kernel
theorem dX3_replay_16 : decode cX3_replay 16 = .ok (.iconst 0, 1) := by decide +kernel
theorem dX3_replay_17 : decode cX3_replay 17 = .ok (.istore_n 3, 1) := by decide +kernel
theorem dX3_replay_18 : decode cX3_replay 18 = .ok (.iload_n 3, 1) := by decide +kernel
theorem dX3_replay_19 : decode cX3_replay 19 = .ok (.aload_n 0, 1) := by decide +kernel
theorem dX3_replay_20 : decode cX3_replay 20 = .ok (.getfield 21, 3) := by decide +kernel
theorem dX3_replay_23 : decode cX3_replay 23 = .ok (.if_icmp .ge 32, 3) := by decide +kernel
theorem dX3_replay_26 : decode cX3_replay 26 = .ok (.iload_n 3, 1) := by decide +kernel
theorem dX3_replay_27 : decode cX3_replay 27 = .ok (.sipush 512, 3) := by decide +kernel
theorem dX3_replay_30 : decode cX3_replay 30 = .ok (.if_icmp .ge 25, 3) := by decide +kernel
theorem dX3_replay_33 : decode cX3_replay 33 = .ok (.aload_n 1, 1) := by decide +kernel
theorem dX3_replay_34 : decode cX3_replay 34 = .ok (.iload_n 2, 1) := by decide +kernel
theorem dX3_replay_35 : decode cX3_replay 35 = .ok (.aload_n 0, 1) := by decide +kernel
theorem dX3_replay_36 : decode cX3_replay 36 = .ok (.getfield 18, 3) := by decide +kernel
theorem dX3_replay_39 : decode cX3_replay 39 = .ok (.iload_n 3, 1) := by decide +kernel
theorem dX3_replay_40 : decode cX3_replay 40 = .ok (.iaload, 1) := by decide +kernel
theorem dX3_replay_41 : decode cX3_replay 41 = .ok (.invokevirtual 42, 3) := by decide +kernel
theorem dX3_replay_44 : decode cX3_replay 44 = .ok (.pop, 1) := by decide +kernel
theorem dX3_replay_45 : decode cX3_replay 45 = .ok (.iconst 1, 1) := by decide +kernel
theorem dX3_replay_46 : decode cX3_replay 46 = .ok (.iload_n 2, 1) := by decide +kernel
theorem dX3_replay_47 : decode cX3_replay 47 = .ok (.isub, 1) := by decide +kernel
theorem dX3_replay_48 : decode cX3_replay 48 = .ok (.istore_n 2, 1) := by decide +kernel
theorem dX3_replay_49 : decode cX3_replay 49 = .ok (.iinc 3 1, 3) := by decide +kernel
theorem dX3_replay_52 : decode cX3_replay 52 = .ok (.goto (-34), 3) := by decide +kernel
theorem dX3_replay_55 : decode cX3_replay 55 = .ok (.return_, 1) := by decide +kernel
theorem dX4_init_0 : decode cX4_init 0 = .ok (.aload_n 0, 1) := by decide +kernel
theorem dX4_init_1 : decode cX4_init 1 = .ok (.invokespecial 1, 3) := by decide +kernel
theorem dX4_init_4 : decode cX4_init 4 = .ok (.aload_n 0, 1) := by decide +kernel
theorem dX4_init_5 : decode cX4_init 5 = .ok (.iconst 0, 1) := by decide +kernel
theorem dX4_init_6 : decode cX4_init 6 = .ok (.putfield 7, 3) := by decide +kernel
theorem dX4_init_9 : decode cX4_init 9 = .ok (.aload_n 0, 1) := by decide +kernel
theorem dX4_init_10 : decode cX4_init 10 = .ok (.bipush 32, 2) := by decide +kernel
theorem dX4_init_12 : decode cX4_init 12 = .ok (.putfield 13, 3) := by decide +kernel
theorem dX4_init_15 : decode cX4_init 15 = .ok (.aload_n 0, 1) := by decide +kernel
theorem dX4_init_16 : decode cX4_init 16 = .ok (.iconst 0, 1) := by decide +kernel
theorem dX4_init_17 : decode cX4_init 17 = .ok (.putfield 17, 3) := by decide +kernel
theorem dX4_init_20 : decode cX4_init 20 = .ok (.aload_n 0, 1) := by decide +kernel
theorem dX4_init_21 : decode cX4_init 21 = .ok (.iconst 0, 1) := by decide +kernel
theorem dX4_init_22 : decode cX4_init 22 = .ok (.putfield 21, 3) := by decide +kernel
theorem dX4_init_25 : decode cX4_init 25 = .ok (.aload_n 0, 1) := by decide +kernel
theorem dX4_init_26 : decode cX4_init 26 = .ok (.iconst 0, 1) := by decide +kernel
theorem dX4_init_27 : decode cX4_init 27 = .ok (.putfield 24, 3) := by decide +kernel
theorem dX4_init_30 : decode cX4_init 30 = .ok (.aload_n 0, 1) := by decide +kernel
theorem dX4_init_31 : decode cX4_init 31 = .ok (.iconst 0, 1) := by decide +kernel
theorem dX4_init_32 : decode cX4_init 32 = .ok (.putfield 27, 3) := by decide +kernel
theorem dX4_init_35 : decode cX4_init 35 = .ok (.aload_n 0, 1) := by decide +kernel
theorem dX4_init_36 : decode cX4_init 36 = .ok (.iconst 0, 1) := by decide +kernel
theorem dX4_init_37 : decode cX4_init 37 = .ok (.putfield 30, 3) := by decide +kernel
theorem dX4_init_40 : decode cX4_init 40 = .ok (.return_, 1) := by decide +kernel
theorem dX4_open_0 : decode cX4_open 0 = .ok (.aload_n 0, 1) := by decide +kernel
theorem dX4_open_1 : decode cX4_open 1 = .ok (.iconst 1, 1) := by decide +kernel
theorem dX4_open_2 : decode cX4_open 2 = .ok (.putfield 7, 3) := by decide +kernel
theorem dX4_open_5 : decode cX4_open 5 = .ok (.aload_n 0, 1) := by decide +kernel
theorem dX4_open_6 : decode cX4_open 6 = .ok (.iload_n 1, 1) := by decide +kernel
theorem dX4_open_7 : decode cX4_open 7 = .ok (.putfield 13, 3) := by decide +kernel
theorem dX4_open_10 : decode cX4_open 10 = .ok (.aload_n 0, 1) := by decide +kernel
theorem dX4_open_11 : decode cX4_open 11 = .ok (.iload_n 2, 1) := by decide +kernel
theorem dX4_open_12 : decode cX4_open 12 = .ok (.putfield 17, 3) := by decide +kernel
theorem dX4_open_15 : decode cX4_open 15 = .ok (.aload_n 0, 1) := by decide +kernel
theorem dX4_open_16 : decode cX4_open 16 = .ok (.iload_n 3, 1) := by decide +kernel
theorem dX4_open_17 : decode cX4_open 17 = .ok (.putfield 21, 3) := by decide +kernel
theorem dX4_open_20 : decode cX4_open 20 = .ok (.aload_n 0, 1) := by decide +kernel
theorem dX4_open_21 : decode cX4_open 21 = .ok (.iconst 0, 1) := by decide +kernel
theorem dX4_open_22 : decode cX4_open 22 = .ok (.putfield 24, 3) := by decide +kernel
theorem dX4_open_25 : decode cX4_open 25 = .ok (.aload_n 0, 1) := by decide +kernel
theorem dX4_open_26 : decode cX4_open 26 = .ok (.iconst 0, 1) := by decide +kernel
theorem dX4_open_27 : decode cX4_open 27 = .ok (.putfield 27, 3) := by decide +kernel
theorem dX4_open_30 : decode cX4_open 30 = .ok (.aload_n 0, 1) := by decide +kernel
theorem dX4_open_31 : decode cX4_open 31 = .ok (.iconst 0, 1) := by decide +kernel
theorem dX4_open_32 : decode cX4_open 32 = .ok (.putfield 30, 3) := by decide +kernel
theorem dX4_open_35 : decode cX4_open 35 = .ok (.return_, 1) := by decide +kernel
theorem dX4_isOpen_0 : decode cX4_isOpen 0 = .ok (.aload_n 0, 1) := by decide +kernel
theorem dX4_isOpen_1 : decode cX4_isOpen 1 = .ok (.getfield 7, 3) := by decide +kernel
theorem dX4_isOpen_4 : decode cX4_isOpen 4 = .ok (.ireturn, 1) := by decide +kernel
theorem dX4_variant_0 : decode cX4_variant 0 = .ok (.aload_n 0, 1) := by decide +kernel
theorem dX4_variant_1 : decode cX4_variant 1 = .ok (.getfield 13, 3) := by decide +kernel
theorem dX4_variant_4 : decode cX4_variant 4 = .ok (.ireturn, 1) := by decide +kernel
theorem dX4_isForMoney_0 : decode cX4_isForMoney 0 = .ok (.aload_n 0, 1) := by decide +kernel
theorem dX4_isForMoney_1 : decode cX4_isForMoney 1 = .ok (.getfield 7, 3) := by decide +kernel
theorem dX4_isForMoney_4 : decode cX4_isForMoney 4 = .ok (.ifCond .eq 14, 3) := by decide +kernel
theorem dX4_isForMoney_7 : decode cX4_isForMoney 7 = .ok (.aload_n 0, 1) := by decide +kernel
theorem dX4_isForMoney_8 : decode cX4_isForMoney 8 = .ok (.getfield 17, 3) := by decide +kernel
theorem dX4_isForMoney_11 : decode cX4_isForMoney 11 = .ok (.ifCond .ne 7, 3) := by decide +kernel
theorem dX4_isForMoney_14 : decode cX4_isForMoney 14 = .ok (.iconst 1, 1) := by decide +kernel
theorem dX4_isForMoney_15 : decode cX4_isForMoney 15 = .ok (.goto 4, 3) := by decide +kernel
theorem dX4_isForMoney_18 : decode cX4_isForMoney 18 = .ok (.iconst 0, 1) := by decide +kernel
theorem dX4_isForMoney_19 : decode cX4_isForMoney 19 = .ok (.ireturn, 1) := by decide +kernel
set_option maxRecDepth 20000 in
theorem ggX4_isJacoby_X4_isForMoney : GoodIn wsX4_isJacoby wsX4_isForMoney := goodIn_r _ [6, 7, 8, 9, 10, 11, 12, 13, 14, 15] (by decide +kernel) (by decide +kernel)
set_option maxRecDepth 20000 in
theorem gX4_isJacoby_X4_isForMoney : GoodIn wsX4_isJacoby (wsV RX4 33 RX4 yX4_isForMoney wsX4_isForMoney) := goodIn_app (goodIn_of _ (by decide +kernel)) ggX4_isJacoby_X4_isForMoney
theorem dX4_isJacoby_0 : decode cX4_isJacoby 0 = .ok (.aload_n 0, 1) := by decide +kernel
theorem dX4_isJacoby_1 : decode cX4_isJacoby 1 = .ok (.invokevirtual 33, 3) := by decide +kernel
theorem dX4_isJacoby_4 : decode cX4_isJacoby 4 = .ok (.ifCond .eq 14, 3) := by decide +kernel
theorem dX4_isJacoby_7 : decode cX4_isJacoby 7 = .ok (.aload_n 0, 1) := by decide +kernel
theorem dX4_isJacoby_8 : decode cX4_isJacoby 8 = .ok (.getfield 21, 3) := by decide +kernel
theorem dX4_isJacoby_11 : decode cX4_isJacoby 11 = .ok (.ifCond .eq 7, 3) := by decide +kernel
theorem dX4_isJacoby_14 : decode cX4_isJacoby 14 = .ok (.iconst 1, 1) := by decide +kernel
theorem dX4_isJacoby_15 : decode cX4_isJacoby 15 = .ok (.goto 4, 3) := by decide +kernel
theorem dX4_isJacoby_18 : decode cX4_isJacoby 18 = .ok (.iconst 0, 1) := by decide +kernel
theorem dX4_isJacoby_19 : decode cX4_isJacoby 19 = .ok (.ireturn, 1) := by decide +kernel
theorem dX4_isCrawford_0 : decode cX4_isCrawford 0 = .ok (.aload_n 0, 1) := by decide +kernel
theorem dX4_isCrawford_1 : decode cX4_isCrawford 1 = .ok (.getfield 24, 3) := by decide +kernel
theorem dX4_isCrawford_4 : decode cX4_isCrawford 4 = .ok (.iconst 1, 1) := by decide +kernel
theorem dX4_isCrawford_5 : decode cX4_isCrawford 5 = .ok (.if_icmp .ne 7, 3) := by decide +kernel
theorem dX4_isCrawford_8 : decode cX4_isCrawford 8 = .ok (.iconst 1, 1) := by decide +kernel
theorem dX4_isCrawford_9 : decode cX4_isCrawford 9 = .ok (.goto 4, 3) := by decide +kernel
theorem dX4_isCrawford_12 : decode cX4_isCrawford 12 = .ok (.iconst 0, 1) := by decide +kernel
theorem dX4_isCrawford_13 : decode cX4_isCrawford 13 = .ok (.ireturn, 1) := by decide +kernel
theorem dX4_isDecided_0 : decode cX4_isDecided 0 = .ok (.aload_n 0, 1) := by decide +kernel
theorem dX4_isDecided_1 : decode cX4_isDecided 1 = .ok (.getfield 17, 3) := by decide +kernel
theorem dX4_isDecided_4 : decode cX4_isDecided 4 = .ok (.ifCond .le 25, 3) := by decide +kernel
theorem dX4_isDecided_7 : decode cX4_isDecided 7 = .ok (.aload_n 0, 1) := by decide +kernel
theorem dX4_isDecided_8 : decode cX4_isDecided 8 = .ok (.getfield 27, 3) := by decide +kernel
theorem dX4_isDecided_11 : decode cX4_isDecided 11 = .ok (.aload_n 0, 1) := by decide +kernel
theorem dX4_isDecided_12 : decode cX4_isDecided 12 = .ok (.getfield 30, 3) := by decide +kernel
theorem dX4_isDecided_15 : decode cX4_isDecided 15 = .ok (.invokestatic 37, 3) := by decide +kernel
theorem dX4_isDecided_18 : decode cX4_isDecided 18 = .ok (.aload_n 0, 1) := by decide +kernel
theorem dX4_isDecided_19 : decode cX4_isDecided 19 = .ok (.getfield 17, 3) := by decide +kernel
theorem dX4_isDecided_22 : decode cX4_isDecided 22 = .ok (.if_icmp .lt 7, 3) := by decide +kernel
theorem dX4_isDecided_25 : decode cX4_isDecided 25 = .ok (.iconst 1, 1) := by decide +kernel
theorem dX4_isDecided_26 : decode cX4_isDecided 26 = .ok (.goto 4, 3) := by decide +kernel
theorem dX4_isDecided_29 : decode cX4_isDecided 29 = .ok (.iconst 0, 1) := by decide +kernel
theorem dX4_isDecided_30 : decode cX4_isDecided 30 = .ok (.ireturn, 1) := by decide +kernel
theorem dX4_pointsOf_0 : decode cX4_pointsOf 0 = .ok (.iload_n 1, 1) := by decide +kernel
theorem dX4_pointsOf_1 : decode cX4_pointsOf 1 = .ok (.ifCond .ne 10, 3) := by decide +kernel
theorem dX4_pointsOf_4 : decode cX4_pointsOf 4 = .ok (.aload_n 0, 1) := by decide +kernel
theorem dX4_pointsOf_5 : decode cX4_pointsOf 5 = .ok (.getfield 27, 3) := by decide +kernel
theorem dX4_pointsOf_8 : decode cX4_pointsOf 8 = .ok (.goto 7, 3) := by decide +kernel
theorem dX4_pointsOf_11 : decode cX4_pointsOf 11 = .ok (.aload_n 0, 1) := by decide +kernel
theorem dX4_pointsOf_12 : decode cX4_pointsOf 12 = .ok (.getfield 30, 3) := by decide +kernel
theorem dX4_pointsOf_15 : decode cX4_pointsOf 15 = .ok (.ireturn, 1) := by decide +kernel
set_option maxRecDepth 20000 in
theorem ggX4_addPoints_X4_pointsOf : GoodIn wsX4_addPoints wsX4_pointsOf := goodIn_r _ [9, 1, 2, 10, 11, 12, 13, 14, 15, 16] (by decide +kernel) (by decide +kernel)
set_option maxRecDepth 20000 in
theorem gX4_addPoints_X4_pointsOf : GoodIn wsX4_addPoints (wsV RX4 43 RX4 yX4_pointsOf wsX4_pointsOf) := goodIn_app (goodIn_of _ (by decide +kernel)) ggX4_addPoints_X4_pointsOf
theorem dX4_addPoints_0 : decode cX4_addPoints 0 = .ok (.iload_n 1, 1) := by decide +kernel
theorem dX4_addPoints_1 : decode cX4_addPoints 1 = .ok (.ifCond .ne 16, 3) := by decide +kernel
theorem dX4_addPoints_4 : decode cX4_addPoints 4 = .ok (.aload_n 0, 1) := by decide +kernel
theorem dX4_addPoints_5 : decode cX4_addPoints 5 = .ok (.dup, 1) := by decide +kernel
theorem dX4_addPoints_6 : decode cX4_addPoints 6 = .ok (.getfield 27, 3) := by decide +kernel
theorem dX4_addPoints_9 : decode cX4_addPoints 9 = .ok (.iload_n 2, 1) := by decide +kernel
theorem dX4_addPoints_10 : decode cX4_addPoints 10 = .ok (.iadd, 1) := by decide +kernel
theorem dX4_addPoints_11 : decode cX4_addPoints 11 = .ok (.putfield 27, 3) := by decide +kernel
theorem dX4_addPoints_14 : decode cX4_addPoints 14 = .ok (.goto 13, 3) := by decide +kernel
theorem dX4_addPoints_17 : decode cX4_addPoints 17 = .ok (.aload_n 0, 1) := by decide +kernel
theorem dX4_addPoints_18 : decode cX4_addPoints 18 = .ok (.dup, 1) := by decide +kernel
theorem dX4_addPoints_19 : decode cX4_addPoints 19 = .ok (.getfield 30, 3) := by decide +kernel
theorem dX4_addPoints_22 : decode cX4_addPoints 22 = .ok (.iload_n 2, 1) := by decide +kernel
theorem dX4_addPoints_23 : decode cX4_addPoints 23 = .ok (.iadd, 1) := by decide +kernel
theorem dX4_addPoints_24 : decode cX4_addPoints 24 = .ok (.putfield 30, 3) := by decide +kernel
theorem dX4_addPoints_27 : decode cX4_addPoints 27 = .ok (.aload_n 0, 1) := by decide +kernel
theorem dX4_addPoints_28 : decode cX4_addPoints 28 = .ok (.getfield 24, 3) := by decide +kernel
theorem dX4_addPoints_31 : decode cX4_addPoints 31 = .ok (.iconst 1, 1) := by decide +kernel
theorem dX4_addPoints_32 : decode cX4_addPoints 32 = .ok (.if_icmp .ne 11, 3) := by decide +kernel
theorem dX4_addPoints_35 : decode cX4_addPoints 35 = .ok (.aload_n 0, 1) := by decide +kernel
theorem dX4_addPoints_36 : decode cX4_addPoints 36 = .ok (.iconst 2, 1) := by decide +kernel
theorem dX4_addPoints_37 : decode cX4_addPoints 37 = .ok (.putfield 24, 3) := by decide +kernel
theorem dX4_addPoints_40 : decode cX4_addPoints 40 = .ok (.goto 36, 3) := by decide +kernel
theorem dX4_addPoints_43 : decode cX4_addPoints 43 = .ok (.aload_n 0, 1) := by decide +kernel
theorem dX4_addPoints_44 : decode cX4_addPoints 44 = .ok (.getfield 24, 3) := by decide +kernel
theorem dX4_addPoints_47 : decode cX4_addPoints 47 = .ok (.ifCond .ne 29, 3) := by decide +kernel
theorem dX4_addPoints_50 : decode cX4_addPoints 50 = .ok (.aload_n 0, 1) := by decide +kernel
theorem dX4_addPoints_51 : decode cX4_addPoints 51 = .ok (.getfield 17, 3) := by decide +kernel
theorem dX4_addPoints_54 : decode cX4_addPoints 54 = .ok (.ifCond .le 22, 3) := by decide +kernel
theorem dX4_addPoints_57 : decode cX4_addPoints 57 = .ok (.aload_n 0, 1) := by decide +kernel
theorem dX4_addPoints_58 : decode cX4_addPoints 58 = .ok (.iload_n 1, 1) := by decide +kernel
theorem dX4_addPoints_59 : decode cX4_addPoints 59 = .ok (.invokevirtual 43, 3) := by decide +kernel
theorem dX4_addPoints_62 : decode cX4_addPoints 62 = .ok (.aload_n 0, 1) := by decide +kernel
theorem dX4_addPoints_63 : decode cX4_addPoints 63 = .ok (.getfield 17, 3) := by decide +kernel
theorem dX4_addPoints_66 : decode cX4_addPoints 66 = .ok (.iconst 1, 1) := by decide +kernel
theorem dX4_addPoints_67 : decode cX4_addPoints 67 = .ok (.isub, 1) := by decide +kernel
theorem dX4_addPoints_68 : decode cX4_addPoints 68 = .ok (.if_icmp .ne 8, 3) := by decide +kernel
theorem dX4_addPoints_71 : decode cX4_addPoints 71 = .ok (.aload_n 0, 1) := by decide +kernel
theorem dX4_addPoints_72 : decode cX4_addPoints 72 = .ok (.iconst 1, 1) := by decide +kernel
theorem dX4_addPoints_73 : decode cX4_addPoints 73 = .ok (.putfield 24, 3) := by decide +kernel
theorem dX4_addPoints_76 : decode cX4_addPoints 76 = .ok (.return_, 1) := by decide +kernel
set_option maxRecDepth 20000 in
theorem ggX5_init_X0_init : GoodIn wsX5_init wsX0_init := goodIn_r _ [21, 22, 2, 3, 8, 23, 24] (by decide +kernel) (by decide +kernel)
set_option maxRecDepth 20000 in
theorem gX5_init_X0_init_n11 : GoodIn wsX5_init (wsX0_init) := ggX5_init_X0_init
theorem dX5_init_0 : decode cX5_init 0 = .ok (.aload_n 0, 1) := by decide +kernel
theorem dX5_init_1 : decode cX5_init 1 = .ok (.invokespecial 3, 3) := by decide +kernel
theorem dX5_init_4 : decode cX5_init 4 = .ok (.aload_n 0, 1) := by decide +kernel
theorem dX5_init_5 : decode cX5_init 5 = .ok (.new 9, 3) := by decide +kernel
theorem dX5_init_8 : decode cX5_init 8 = .ok (.dup, 1) := by decide +kernel
theorem dX5_init_9 : decode cX5_init 9 = .ok (.invokespecial 11, 3) := by decide +kernel
theorem dX5_init_12 : decode cX5_init 12 = .ok (.putfield 12, 3) := by decide +kernel
theorem dX5_init_15 : decode cX5_init 15 = .ok (.aload_n 0, 1) := by decide +kernel
theorem dX5_init_16 : decode cX5_init 16 = .ok (.sipush 3060, 3) := by decide +kernel
theorem dX5_init_19 : decode cX5_init 19 = .ok (.newarray .int, 2) := by decide +kernel
theorem dX5_init_21 : decode cX5_init 21 = .ok (.putfield 18, 3) := by decide +kernel
theorem dX5_init_24 : decode cX5_init 24 = .ok (.aload_n 0, 1) := by decide +kernel
theorem dX5_init_25 : decode cX5_init 25 = .ok (.sipush 3060, 3) := by decide +kernel
theorem dX5_init_28 : decode cX5_init 28 = .ok (.newarray .int, 2) := by decide +kernel
theorem dX5_init_30 : decode cX5_init 30 = .ok (.putfield 22, 3) := by decide +kernel
theorem dX5_init_33 : decode cX5_init 33 = .ok (.aload_n 0, 1) := by decide +kernel
theorem dX5_init_34 : decode cX5_init 34 = .ok (.sipush 450, 3) := by decide +kernel
theorem dX5_init_37 : decode cX5_init 37 = .ok (.newarray .long, 2) := by decide +kernel
theorem dX5_init_39 : decode cX5_init 39 = .ok (.putfield 25, 3) := by decide +kernel
theorem dX5_init_42 : decode cX5_init 42 = .ok (.aload_n 0, 1) := by decide +kernel
theorem dX5_init_43 : decode cX5_init 43 = .ok (.sipush 450, 3) := by decide +kernel
theorem dX5_init_46 : decode cX5_init 46 = .ok (.newarray .int, 2) := by decide +kernel
theorem dX5_init_48 : decode cX5_init 48 = .ok (.putfield 29, 3) := by decide +kernel
theorem dX5_init_51 : decode cX5_init 51 = .ok (.aload_n 0, 1) := by decide +kernel
theorem dX5_init_52 : decode cX5_init 52 = .ok (.bipush 26, 2) := by decide +kernel
theorem dX5_init_54 : decode cX5_init 54 = .ok (.newarray .long, 2) := by decide +kernel
theorem dX5_init_56 : decode cX5_init 56 = .ok (.putfield 32, 3) := by decide +kernel
theorem dX5_init_59 : decode cX5_init 59 = .ok (.aload_n 0, 1) := by decide +kernel
theorem dX5_init_60 : decode cX5_init 60 = .ok (.iconst 0, 1) := by decide +kernel
theorem dX5_init_61 : decode cX5_init 61 = .ok (.putfield 35, 3) := by decide +kernel
theorem dX5_init_64 : decode cX5_init 64 = .ok (.aload_n 0, 1) := by decide +kernel
theorem dX5_init_65 : decode cX5_init 65 = .ok (.iconst 0, 1) := by decide +kernel
theorem dX5_init_66 : decode cX5_init 66 = .ok (.putfield 39, 3) := by decide +kernel
theorem dX5_init_69 : decode cX5_init 69 = .ok (.aload_n 0, 1) := by decide +kernel
theorem dX5_init_70 : decode cX5_init 70 = .ok (.iconst 0, 1) := by decide +kernel
theorem dX5_init_71 : decode cX5_init 71 = .ok (.putfield 42, 3) := by decide +kernel
theorem dX5_init_74 : decode cX5_init 74 = .ok (.aload_n 0, 1) := by decide +kernel
theorem dX5_init_75 : decode cX5_init 75 = .ok (.iconst 0, 1) := by decide +kernel
theorem dX5_init_76 : decode cX5_init 76 = .ok (.putfield 45, 3) := by decide +kernel
theorem dX5_init_79 : decode cX5_init 79 = .ok (.lconst 1, 1) := by decide +kernel
theorem dX5_init_80 : decode cX5_init 80 = .ok (.lstore_n 1, 1) := by decide +kernel
theorem dX5_init_81 : decode cX5_init 81 = .ok (.iconst 0, 1) := by decide +kernel
theorem dX5_init_82 : decode cX5_init 82 = .ok (.istore_n 3, 1) := by decide +kernel
theorem dX5_init_83 : decode cX5_init 83 = .ok (.iload_n 3, 1) := by decide +kernel
theorem dX5_init_84 : decode cX5_init 84 = .ok (.bipush 26, 2) := by decide +kernel
theorem dX5_init_86 : decode cX5_init 86 = .ok (.if_icmp .ge 22, 3) := by decide +kernel
theorem dX5_init_89 : decode cX5_init 89 = .ok (.aload_n 0, 1) := by decide +kernel
theorem dX5_init_90 : decode cX5_init 90 = .ok (.getfield 32, 3) := by decide +kernel
theorem dX5_init_93 : decode cX5_init 93 = .ok (.iload_n 3, 1) := by decide +kernel
theorem dX5_init_94 : decode cX5_init 94 = .ok (.lload_n 1, 1) := by decide +kernel
theorem dX5_init_95 : decode cX5_init 95 = .ok (.lastore, 1) := by decide +kernel
theorem dX5_init_96 : decode cX5_init 96 = .ok (.ldc2_w 48, 3) := by decide +kernel
theorem dX5_init_99 : decode cX5_init 99 = .ok (.lload_n 1, 1) := by decide +kernel
theorem dX5_init_100 : decode cX5_init 100 = .ok (.lmul, 1) := by decide +kernel
theorem dX5_init_101 : decode cX5_init 101 = .ok (.lstore_n 1, 1) := by decide +kernel
theorem dX5_init_102 : decode cX5_init 102 = .ok (.iinc 3 1, 3) := by decide +kernel
theorem dX5_init_105 : decode cX5_init 105 = .ok (.goto (-22), 3) := by decide +kernel
theorem dX5_init_108 : decode cX5_init 108 = .ok (.return_, 1) := by decide +kernel
theorem dX5_count_0 : decode cX5_count 0 = .ok (.aload_n 0, 1) := by decide +kernel
theorem dX5_count_1 : decode cX5_count 1 = .ok (.getfield 39, 3) := by decide +kernel
theorem dX5_count_4 : decode cX5_count 4 = .ok (.ireturn, 1) := by decide +kernel
theorem dX5_length_0 : decode cX5_length 0 = .ok (.aload_n 0, 1) := by decide +kernel
theorem dX5_length_1 : decode cX5_length 1 = .ok (.getfield 42, 3) := by decide +kernel
theorem dX5_length_4 : decode cX5_length 4 = .ok (.ireturn, 1) := by decide +kernel
theorem dX5_rowAt_0 : decode cX5_rowAt 0 = .ok (.iload_n 1, 1) := by decide +kernel
theorem dX5_rowAt_1 : decode cX5_rowAt 1 = .ok (.ifCond .lt 19, 3) := by decide +kernel
theorem dX5_rowAt_4 : decode cX5_rowAt 4 = .ok (.iload_n 1, 1) := by decide +kernel
theorem dX5_rowAt_5 : decode cX5_rowAt 5 = .ok (.sipush 3060, 3) := by decide +kernel
theorem dX5_rowAt_8 : decode cX5_rowAt 8 = .ok (.if_icmp .ge 12, 3) := by decide +kernel
theorem dX5_rowAt_11 : decode cX5_rowAt 11 = .ok (.aload_n 0, 1) := by decide +kernel
theorem dX5_rowAt_12 : decode cX5_rowAt 12 = .ok (.getfield 18, 3) := by decide +kernel
theorem dX5_rowAt_15 : decode cX5_rowAt 15 = .ok (.iload_n 1, 1) := by decide +kernel
theorem dX5_rowAt_16 : decode cX5_rowAt 16 = .ok (.iaload, 1) := by decide +kernel
theorem dX5_rowAt_17 : decode cX5_rowAt 17 = .ok (.goto 4, 3) := by decide +kernel
theorem dX5_rowAt_20 : decode cX5_rowAt 20 = .ok (.iconst 0, 1) := by decide +kernel
theorem dX5_rowAt_21 : decode cX5_rowAt 21 = .ok (.ireturn, 1) := by decide +kernel
theorem dX5_worthAt_0 : decode cX5_worthAt 0 = .ok (.iload_n 1, 1) := by decide +kernel
theorem dX5_worthAt_1 : decode cX5_worthAt 1 = .ok (.ifCond .lt 19, 3) := by decide +kernel
theorem dX5_worthAt_4 : decode cX5_worthAt 4 = .ok (.iload_n 1, 1) := by decide +kernel
theorem dX5_worthAt_5 : decode cX5_worthAt 5 = .ok (.sipush 3060, 3) := by decide +kernel
theorem dX5_worthAt_8 : decode cX5_worthAt 8 = .ok (.if_icmp .ge 12, 3) := by decide +kernel
theorem dX5_worthAt_11 : decode cX5_worthAt 11 = .ok (.aload_n 0, 1) := by decide +kernel
theorem dX5_worthAt_12 : decode cX5_worthAt 12 = .ok (.getfield 22, 3) := by decide +kernel
theorem dX5_worthAt_15 : decode cX5_worthAt 15 = .ok (.iload_n 1, 1) := by decide +kernel
theorem dX5_worthAt_16 : decode cX5_worthAt 16 = .ok (.iaload, 1) := by decide +kernel
theorem dX5_worthAt_17 : decode cX5_worthAt 17 = .ok (.goto 4, 3) := by decide +kernel
theorem dX5_worthAt_20 : decode cX5_worthAt 20 = .ok (.iconst 0, 1) := by decide +kernel
theorem dX5_worthAt_21 : decode cX5_worthAt 21 = .ok (.ireturn, 1) := by decide +kernel
theorem dX5_numberOfGreatest_0 : decode cX5_numberOfGreatest 0 = .ok (.aload_n 0, 1) := by decide +kernel
theorem dX5_numberOfGreatest_1 : decode cX5_numberOfGreatest 1 = .ok (.getfield 45, 3) := by decide +kernel
theorem dX5_numberOfGreatest_4 : decode cX5_numberOfGreatest 4 = .ok (.ireturn, 1) := by decide +kernel
set_option maxRecDepth 20000 in
theorem ggX5_greatestWorth_X5_worthAt : GoodIn wsX5_greatestWorth wsX5_worthAt := goodIn_r _ [6, 7, 8, 9, 10, 11, 12, 13, 14, 15, 16, 17] (by decide +kernel) (by decide +kernel)
set_option maxRecDepth 20000 in
theorem gX5_greatestWorth_X5_worthAt : GoodIn wsX5_greatestWorth (wsV RX5 50 RX5 yX5_worthAt wsX5_worthAt) := goodIn_app (goodIn_of _ (by decide +kernel)) ggX5_greatestWorth_X5_worthAt
theorem dX5_greatestWorth_0 : decode cX5_greatestWorth 0 = .ok (.aload_n 0, 1) := by decide +kernel
theorem dX5_greatestWorth_1 : decode cX5_greatestWorth 1 = .ok (.aload_n 0, 1) := by decide +kernel
theorem dX5_greatestWorth_2 : decode cX5_greatestWorth 2 = .ok (.getfield 45, 3) := by decide +kernel
theorem dX5_greatestWorth_5 : decode cX5_greatestWorth 5 = .ok (.invokevirtual 50, 3) := by decide +kernel
theorem dX5_greatestWorth_8 : decode cX5_greatestWorth 8 = .ok (.ireturn, 1) := by decide +kernel
set_option maxRecDepth 20000 in
theorem ggX5_errorOf_X5_greatestWorth : GoodIn wsX5_errorOf wsX5_greatestWorth := goodIn_r _ [5, 6, 7, 8, 9, 4, 10, 11, 12, 13, 14, 15, 16, 17, 18, 19, 20, 21] (by decide +kernel) (by decide +kernel)
set_option maxRecDepth 20000 in
theorem gX5_errorOf_X5_greatestWorth : GoodIn wsX5_errorOf (wsV RX5 54 RX5 yX5_greatestWorth wsX5_greatestWorth) := goodIn_app (goodIn_of _ (by decide +kernel)) ggX5_errorOf_X5_greatestWorth
set_option maxRecDepth 20000 in
theorem ggX5_errorOf_X5_worthAt : GoodIn wsX5_errorOf wsX5_worthAt := goodIn_r _ [10, 11, 12, 13, 14, 15, 16, 17, 18, 19, 20, 21] (by decide +kernel) (by decide +kernel)
set_option maxRecDepth 20000 in
theorem gX5_errorOf_X5_worthAt : GoodIn wsX5_errorOf (wsV RX5 50 RX5 yX5_worthAt wsX5_worthAt) := goodIn_app (goodIn_of _ (by decide +kernel)) ggX5_errorOf_X5_worthAt
theorem dX5_errorOf_0 : decode cX5_errorOf 0 = .ok (.aload_n 0, 1) := by decide +kernel
theorem dX5_errorOf_1 : decode cX5_errorOf 1 = .ok (.invokevirtual 54, 3) := by decide +kernel
theorem dX5_errorOf_4 : decode cX5_errorOf 4 = .ok (.aload_n 0, 1) := by decide +kernel
theorem dX5_errorOf_5 : decode cX5_errorOf 5 = .ok (.iload_n 1, 1) := by decide +kernel
theorem dX5_errorOf_6 : decode cX5_errorOf 6 = .ok (.invokevirtual 50, 3) := by decide +kernel
theorem dX5_errorOf_9 : decode cX5_errorOf 9 = .ok (.isub, 1) := by decide +kernel
theorem dX5_errorOf_10 : decode cX5_errorOf 10 = .ok (.ireturn, 1) := by decide +kernel
set_option maxRecDepth 20000 in
theorem ggX5_collect_X0_become : GoodIn wsX5_collect wsX0_become := goodIn_r _ [7, 8, 112] (by decide +kernel) (by decide +kernel)
set_option maxRecDepth 20000 in
theorem gX5_collect_X0_become : GoodIn wsX5_collect (wsV RX5 58 RX0 yX0_become wsX0_become) := goodIn_app (goodIn_of _ (by decide +kernel)) ggX5_collect_X0_become
set_option maxRecDepth 20000 in
theorem ggX5_collect_X5_clear : GoodIn wsX5_collect wsX5_clear := goodIn_r _ [13, 14, 15, 16, 102, 103, 104, 105, 106, 107, 108, 109, 110, 111] (by decide +kernel) (by decide +kernel)
set_option maxRecDepth 20000 in
theorem gX5_collect_X5_clear : GoodIn wsX5_collect (wsV RX5 62 RX5 yX5_clear wsX5_clear) := goodIn_app (goodIn_of _ (by decide +kernel)) ggX5_collect_X5_clear
set_option maxRecDepth 20000 in
theorem ggX5_collect_X5_collectAlike : GoodIn wsX5_collect wsX5_collectAlike := goodIn_r _ [19, 1, 2, 14, 20, 21, 22, 6, 23, 24, 25, 26, 27, 8, 28, 29, 30, 31, 32, 33, 34, 35, 36, 37, 38, 39, 40, 41, 42, 43, 44, 45, 46, 47, 48, 17, 18, 12, 49, 50, 51, 52, 9, 10, 11, 13, 15, 16, 53, 54, 55, 56, 57, 58, 59, 60, 61, 62, 63, 64, 65, 66, 67, 68, 69, 70, 102, 103, 104, 105, 106, 107, 108, 109, 110, 111, 112] (by decide +kernel) (by decide +kernel)
set_option maxRecDepth 20000 in
theorem gX5_collect_X5_collectAlike : GoodIn wsX5_collect (va_wsS RX5 66 yX5_collectAlike wsX5_collectAlike) := goodIn_app (goodIn_of _ (by decide +kernel)) ggX5_collect_X5_collectAlike
set_option maxRecDepth 20000 in
theorem ggX5_collect_X5_collectUnlike : GoodIn wsX5_collect wsX5_collectUnlike := goodIn_r _ [74, 14, 15, 75, 76, 77, 12, 78, 1, 2, 20, 21, 22, 6, 23, 24, 25, 26, 27, 8, 28, 29, 30, 31, 32, 33, 34, 35, 36, 37, 38, 39, 40, 41, 42, 43, 79, 80, 81, 82, 83, 84, 85, 86, 87, 88, 89, 90, 91, 92, 93, 94, 95, 96, 97, 44, 45, 46, 47, 48, 53, 54, 55, 56, 57, 58, 16, 59, 60, 61, 62, 63, 64, 65, 66, 67, 68, 69, 70, 49, 50, 51, 52, 98, 99, 100, 101, 102, 103, 104, 105, 106, 107, 108, 109, 110, 111, 112] (by decide +kernel) (by decide +kernel)
set_option maxRecDepth 20000 in
theorem gX5_collect_X5_collectUnlike : GoodIn wsX5_collect (wsV RX5 70 RX5 yX5_collectUnlike wsX5_collectUnlike) := goodIn_app (goodIn_of _ (by decide +kernel)) ggX5_collect_X5_collectUnlike
theorem dX5_collect_0 : decode cX5_collect 0 = .ok (.aload_n 0, 1) := by decide +kernel
theorem dX5_collect_1 : decode cX5_collect 1 = .ok (.getfield 12, 3) := by decide +kernel
theorem dX5_collect_4 : decode cX5_collect 4 = .ok (.aload_n 1, 1) := by decide +kernel
theorem dX5_collect_5 : decode cX5_collect 5 = .ok (.invokevirtual 58, 3) := by decide +kernel
theorem dX5_collect_8 : decode cX5_collect 8 = .ok (.aload_n 0, 1) := by decide +kernel
theorem dX5_collect_9 : decode cX5_collect 9 = .ok (.iload_n 2, 1) := by decide +kernel
theorem dX5_collect_10 : decode cX5_collect 10 = .ok (.putfield 35, 3) := by decide +kernel
theorem dX5_collect_13 : decode cX5_collect 13 = .ok (.aload_n 0, 1) := by decide +kernel
theorem dX5_collect_14 : decode cX5_collect 14 = .ok (.iconst 0, 1) := by decide +kernel
theorem dX5_collect_15 : decode cX5_collect 15 = .ok (.invokevirtual 62, 3) := by decide +kernel
theorem dX5_collect_18 : decode cX5_collect 18 = .ok (.iload_n 3, 1) := by decide +kernel
theorem dX5_collect_19 : decode cX5_collect 19 = .ok (.iload 4, 2) := by decide +kernel
theorem dX5_collect_21 : decode cX5_collect 21 = .ok (.if_icmp .ne 15, 3) := by decide +kernel
theorem dX5_collect_24 : decode cX5_collect 24 = .ok (.aload_n 0, 1) := by decide +kernel
theorem dX5_collect_25 : decode cX5_collect 25 = .ok (.iload_n 3, 1) := by decide +kernel
theorem dX5_collect_26 : decode cX5_collect 26 = .ok (.iconst 0, 1) := by decide +kernel
theorem dX5_collect_27 : decode cX5_collect 27 = .ok (.bipush 25, 2) := by decide +kernel
theorem dX5_collect_29 : decode cX5_collect 29 = .ok (.iconst 0, 1) := by decide +kernel
theorem dX5_collect_30 : decode cX5_collect 30 = .ok (.invokestatic 66, 3) := by decide +kernel
theorem dX5_collect_33 : decode cX5_collect 33 = .ok (.goto 10, 3) := by decide +kernel
theorem dX5_collect_36 : decode cX5_collect 36 = .ok (.aload_n 0, 1) := by decide +kernel
theorem dX5_collect_37 : decode cX5_collect 37 = .ok (.iload_n 3, 1) := by decide +kernel
theorem dX5_collect_38 : decode cX5_collect 38 = .ok (.iload 4, 2) := by decide +kernel
theorem dX5_collect_40 : decode cX5_collect 40 = .ok (.invokevirtual 70, 3) := by decide +kernel
theorem dX5_collect_43 : decode cX5_collect 43 = .ok (.return_, 1) := by decide +kernel
theorem dX5_clear_0 : decode cX5_clear 0 = .ok (.aload_n 0, 1) := by decide +kernel
theorem dX5_clear_1 : decode cX5_clear 1 = .ok (.iload_n 1, 1) := by decide +kernel
theorem dX5_clear_2 : decode cX5_clear 2 = .ok (.putfield 42, 3) := by decide +kernel
theorem dX5_clear_5 : decode cX5_clear 5 = .ok (.aload_n 0, 1) := by decide +kernel
theorem dX5_clear_6 : decode cX5_clear 6 = .ok (.iconst 0, 1) := by decide +kernel
theorem dX5_clear_7 : decode cX5_clear 7 = .ok (.putfield 39, 3) := by decide +kernel
theorem dX5_clear_10 : decode cX5_clear 10 = .ok (.aload_n 0, 1) := by decide +kernel
theorem dX5_clear_11 : decode cX5_clear 11 = .ok (.iconst 0, 1) := by decide +kernel
theorem dX5_clear_12 : decode cX5_clear 12 = .ok (.putfield 45, 3) := by decide +kernel
theorem dX5_clear_15 : decode cX5_clear 15 = .ok (.return_, 1) := by decide +kernel
set_option maxRecDepth 20000 in
theorem ggX5_addRow_X0_worthFor : GoodIn wsX5_addRow wsX0_worthFor := goodIn_r _ [11, 12, 32] (by decide +kernel) (by decide +kernel)
set_option maxRecDepth 20000 in
theorem gX5_addRow_X0_worthFor : GoodIn wsX5_addRow (wsV RX5 74 RX0 yX0_worthFor wsX0_worthFor) := goodIn_app (goodIn_of _ (by decide +kernel)) ggX5_addRow_X0_worthFor
set_option maxRecDepth 20000 in
theorem ggX5_addRow_X5_greatestWorth : GoodIn wsX5_addRow wsX5_greatestWorth := goodIn_r _ [17, 6, 18, 19, 20, 16, 21, 3, 22, 23, 24, 25, 26, 27, 28, 29, 30, 31] (by decide +kernel) (by decide +kernel)
set_option maxRecDepth 20000 in
theorem gX5_addRow_X5_greatestWorth : GoodIn wsX5_addRow (wsV RX5 54 RX5 yX5_greatestWorth wsX5_greatestWorth) := goodIn_app (goodIn_of _ (by decide +kernel)) ggX5_addRow_X5_greatestWorth
theorem dX5_addRow_0 : decode cX5_addRow 0 = .ok (.aload_n 0, 1) := by decide +kernel
theorem dX5_addRow_1 : decode cX5_addRow 1 = .ok (.getfield 39, 3) := by decide +kernel
theorem dX5_addRow_4 : decode cX5_addRow 4 = .ok (.ifCond .lt 13, 3) := by decide +kernel
theorem dX5_addRow_7 : decode cX5_addRow 7 = .ok (.aload_n 0, 1) := by decide +kernel
theorem dX5_addRow_8 : decode cX5_addRow 8 = .ok (.getfield 39, 3) := by decide +kernel
theorem dX5_addRow_11 : decode cX5_addRow 11 = .ok (.sipush 3060, 3) := by decide +kernel
theorem dX5_addRow_14 : decode cX5_addRow 14 = .ok (.if_icmp .lt 4, 3) := by decide +kernel
theorem dX5_addRow_17 : decode cX5_addRow 17 = .ok (.return_, 1) := by decide +kernel
theorem dX5_addRow_18 : decode cX5_addRow 18 = .ok (.aload_n 0, 1) := by decide +kernel
theorem dX5_addRow_19 : decode cX5_addRow 19 = .ok (.getfield 18, 3) := by decide +kernel
theorem dX5_addRow_22 : decode cX5_addRow 22 = .ok (.aload_n 0, 1) := by decide +kernel
theorem dX5_addRow_23 : decode cX5_addRow 23 = .ok (.getfield 39, 3) := by decide +kernel
theorem dX5_addRow_26 : decode cX5_addRow 26 = .ok (.iload_n 1, 1) := by decide +kernel
theorem dX5_addRow_27 : decode cX5_addRow 27 = .ok (.iastore, 1) := by decide +kernel
theorem dX5_addRow_28 : decode cX5_addRow 28 = .ok (.aload_n 0, 1) := by decide +kernel
theorem dX5_addRow_29 : decode cX5_addRow 29 = .ok (.getfield 22, 3) := by decide +kernel
theorem dX5_addRow_32 : decode cX5_addRow 32 = .ok (.aload_n 0, 1) := by decide +kernel
theorem dX5_addRow_33 : decode cX5_addRow 33 = .ok (.getfield 39, 3) := by decide +kernel
theorem dX5_addRow_36 : decode cX5_addRow 36 = .ok (.aload_n 0, 1) := by decide +kernel
theorem dX5_addRow_37 : decode cX5_addRow 37 = .ok (.getfield 12, 3) := by decide +kernel
theorem dX5_addRow_40 : decode cX5_addRow 40 = .ok (.aload_n 0, 1) := by decide +kernel
theorem dX5_addRow_41 : decode cX5_addRow 41 = .ok (.getfield 35, 3) := by decide +kernel
theorem dX5_addRow_44 : decode cX5_addRow 44 = .ok (.invokevirtual 74, 3) := by decide +kernel
theorem dX5_addRow_47 : decode cX5_addRow 47 = .ok (.iastore, 1) := by decide +kernel
theorem dX5_addRow_48 : decode cX5_addRow 48 = .ok (.aload_n 0, 1) := by decide +kernel
theorem dX5_addRow_49 : decode cX5_addRow 49 = .ok (.getfield 22, 3) := by decide +kernel
theorem dX5_addRow_52 : decode cX5_addRow 52 = .ok (.aload_n 0, 1) := by decide +kernel
theorem dX5_addRow_53 : decode cX5_addRow 53 = .ok (.getfield 39, 3) := by decide +kernel
theorem dX5_addRow_56 : decode cX5_addRow 56 = .ok (.iaload, 1) := by decide +kernel
theorem dX5_addRow_57 : decode cX5_addRow 57 = .ok (.aload_n 0, 1) := by decide +kernel
theorem dX5_addRow_58 : decode cX5_addRow 58 = .ok (.invokevirtual 54, 3) := by decide +kernel
theorem dX5_addRow_61 : decode cX5_addRow 61 = .ok (.if_icmp .le 11, 3) := by decide +kernel
theorem dX5_addRow_64 : decode cX5_addRow 64 = .ok (.aload_n 0, 1) := by decide +kernel
theorem dX5_addRow_65 : decode cX5_addRow 65 = .ok (.aload_n 0, 1) := by decide +kernel
theorem dX5_addRow_66 : decode cX5_addRow 66 = .ok (.getfield 39, 3) := by decide +kernel
theorem dX5_addRow_69 : decode cX5_addRow 69 = .ok (.putfield 45, 3) := by decide +kernel
theorem dX5_addRow_72 : decode cX5_addRow 72 = .ok (.aload_n 0, 1) := by decide +kernel
theorem dX5_addRow_73 : decode cX5_addRow 73 = .ok (.dup, 1) := by decide +kernel
theorem dX5_addRow_74 : decode cX5_addRow 74 = .ok (.getfield 39, 3) := by decide +kernel
theorem dX5_addRow_77 : decode cX5_addRow 77 = .ok (.iconst 1, 1) := by decide +kernel
theorem dX5_addRow_78 : decode cX5_addRow 78 = .ok (.iadd, 1) := by decide +kernel
theorem dX5_addRow_79 : decode cX5_addRow 79 = .ok (.putfield 39, 3) := by decide +kernel
theorem dX5_addRow_82 : decode cX5_addRow 82 = .ok (.return_, 1) := by decide +kernel
set_option maxRecDepth 20000 in
theorem ggX5_collectAlike_X0_canStep : GoodIn wsX5_collectAlike wsX0_canStep := goodIn_r _ [8, 9, 10, 11, 7, 12, 13, 14, 15, 16, 17, 76] (by decide +kernel) (by decide +kernel)
set_option maxRecDepth 20000 in
theorem gX5_collectAlike_X0_canStep : GoodIn wsX5_collectAlike (wsV RX5 77 RX0 yX0_canStep wsX0_canStep) := goodIn_app (goodIn_of _ (by decide +kernel)) ggX5_collectAlike_X0_canStep
set_option maxRecDepth 20000 in
theorem ggX5_collectAlike_X0_step : GoodIn wsX5_collectAlike wsX0_step := goodIn_r _ [21, 22, 23, 24, 25, 26, 27, 28, 7, 29, 13, 9, 10, 11, 12, 76] (by decide +kernel) (by decide +kernel)
set_option maxRecDepth 20000 in
theorem gX5_collectAlike_X0_step : GoodIn wsX5_collectAlike (wsV RX5 81 RX0 yX0_step wsX0_step) := goodIn_app (goodIn_of _ (by decide +kernel)) ggX5_collectAlike_X0_step
set_option maxRecDepth 20000 in
theorem ggX5_collectAlike_X9_codeOf : GoodIn wsX5_collectAlike wsX9_codeOf := goodIn_r _ [32] (by decide +kernel) (by decide +kernel)
set_option maxRecDepth 20000 in
theorem gX5_collectAlike_X9_codeOf_n84 : GoodIn wsX5_collectAlike (wsX9_codeOf) := ggX5_collectAlike_X9_codeOf
set_option maxRecDepth 20000 in
theorem ggX5_collectAlike_X9_withCode : GoodIn wsX5_collectAlike wsX9_withCode := goodIn_r _ [34] (by decide +kernel) (by decide +kernel)
set_option maxRecDepth 20000 in
theorem gX5_collectAlike_X9_withCode_n88 : GoodIn wsX5_collectAlike (wsX9_withCode) := ggX5_collectAlike_X9_withCode
set_option maxRecDepth 20000 in
theorem ggX5_collectAlike_X5_collectAlike : GoodIn wsX5_collectAlike wsX5_collectAlike := goodIn_r _ [0, 1, 2, 3, 4, 5, 6, 7, 8, 9, 10, 11, 12, 13, 14, 15, 16, 17, 18, 19, 20, 21, 22, 23, 24, 25, 26, 27, 28, 29, 30, 31, 32, 33, 34, 35, 36, 37, 38, 39, 40, 41, 42, 43, 44, 45, 46, 47, 48, 49, 50, 51, 52, 53, 54, 55, 56, 57, 58, 59, 60, 61, 62, 63, 64, 65, 66, 67, 68, 69, 70, 71, 72, 73, 74, 75, 76] (by decide +kernel) (by decide +kernel)
set_option maxRecDepth 20000 in
theorem gX5_collectAlike_X5_collectAlike : GoodIn wsX5_collectAlike (va_wsS RX5 66 yX5_collectAlike wsX5_collectAlike) := goodIn_app (goodIn_of _ (by decide +kernel)) ggX5_collectAlike_X5_collectAlike
set_option maxRecDepth 20000 in
theorem ggX5_collectAlike_X0_stepBack : GoodIn wsX5_collectAlike wsX0_stepBack := goodIn_r _ [41, 22, 23, 24, 25, 26, 27, 28, 7, 29, 13, 76] (by decide +kernel) (by decide +kernel)
set_option maxRecDepth 20000 in
theorem gX5_collectAlike_X0_stepBack : GoodIn wsX5_collectAlike (wsV RX5 92 RX0 yX0_stepBack wsX0_stepBack) := goodIn_app (goodIn_of _ (by decide +kernel)) ggX5_collectAlike_X0_stepBack
set_option maxRecDepth 20000 in
theorem ggX5_collectAlike_X5_clear : GoodIn wsX5_collectAlike wsX5_clear := goodIn_r _ [45, 3, 46, 47, 66, 67, 68, 69, 70, 71, 72, 73, 74, 75] (by decide +kernel) (by decide +kernel)
set_option maxRecDepth 20000 in
theorem gX5_collectAlike_X5_clear : GoodIn wsX5_collectAlike (wsV RX5 62 RX5 yX5_clear wsX5_clear) := goodIn_app (goodIn_of _ (by decide +kernel)) ggX5_collectAlike_X5_clear
set_option maxRecDepth 20000 in
theorem ggX5_collectAlike_X5_addRow : GoodIn wsX5_collectAlike wsX5_addRow := goodIn_r _ [51, 46, 52, 53, 1, 2, 47, 54, 55, 56, 7, 57, 13, 58, 59, 60, 37, 61, 62, 63, 64, 65, 66, 67, 68, 69, 70, 71, 72, 73, 74, 75, 76] (by decide +kernel) (by decide +kernel)
set_option maxRecDepth 20000 in
theorem gX5_collectAlike_X5_addRow : GoodIn wsX5_collectAlike (wsV RX5 96 RX5 yX5_addRow wsX5_addRow) := goodIn_app (goodIn_of _ (by decide +kernel)) ggX5_collectAlike_X5_addRow
theorem dX5_collectAlike_0 : decode cX5_collectAlike 0 = .ok (.iload_n 3, 1) := by decide +kernel
theorem dX5_collectAlike_1 : decode cX5_collectAlike 1 = .ok (.istore 5, 2) := by decide +kernel
theorem dX5_collectAlike_3 : decode cX5_collectAlike 3 = .ok (.iload 5, 2) := by decide +kernel
theorem dX5_collectAlike_5 : decode cX5_collectAlike 5 = .ok (.iconst 1, 1) := by decide +kernel
theorem dX5_collectAlike_6 : decode cX5_collectAlike 6 = .ok (.if_icmp .lt 85, 3) := by decide +kernel
theorem dX5_collectAlike_9 : decode cX5_collectAlike 9 = .ok (.iload_n 2, 1) := by decide +kernel
theorem dX5_collectAlike_10 : decode cX5_collectAlike 10 = .ok (.iconst 4, 1) := by decide +kernel
theorem dX5_collectAlike_11 : decode cX5_collectAlike 11 = .ok (.if_icmp .ge 80, 3) := by decide +kernel
theorem dX5_collectAlike_14 : decode cX5_collectAlike 14 = .ok (.aload_n 0, 1) := by decide +kernel
theorem dX5_collectAlike_15 : decode cX5_collectAlike 15 = .ok (.getfield 12, 3) := by decide +kernel
theorem dX5_collectAlike_18 : decode cX5_collectAlike 18 = .ok (.aload_n 0, 1) := by decide +kernel
theorem dX5_collectAlike_19 : decode cX5_collectAlike 19 = .ok (.getfield 35, 3) := by decide +kernel
theorem dX5_collectAlike_22 : decode cX5_collectAlike 22 = .ok (.iload 5, 2) := by decide +kernel
theorem dX5_collectAlike_24 : decode cX5_collectAlike 24 = .ok (.iload_n 1, 1) := by decide +kernel
theorem dX5_collectAlike_25 : decode cX5_collectAlike 25 = .ok (.invokevirtual 77, 3) := by decide +kernel
theorem dX5_collectAlike_28 : decode cX5_collectAlike 28 = .ok (.ifCond .eq 57, 3) := by decide +kernel
theorem dX5_collectAlike_31 : decode cX5_collectAlike 31 = .ok (.aload_n 0, 1) := by decide +kernel
theorem dX5_collectAlike_32 : decode cX5_collectAlike 32 = .ok (.getfield 12, 3) := by decide +kernel
theorem dX5_collectAlike_35 : decode cX5_collectAlike 35 = .ok (.aload_n 0, 1) := by decide +kernel
theorem dX5_collectAlike_36 : decode cX5_collectAlike 36 = .ok (.getfield 35, 3) := by decide +kernel
theorem dX5_collectAlike_39 : decode cX5_collectAlike 39 = .ok (.iload 5, 2) := by decide +kernel
theorem dX5_collectAlike_41 : decode cX5_collectAlike 41 = .ok (.iload_n 1, 1) := by decide +kernel
theorem dX5_collectAlike_42 : decode cX5_collectAlike 42 = .ok (.invokevirtual 81, 3) := by decide +kernel
theorem dX5_collectAlike_45 : decode cX5_collectAlike 45 = .ok (.istore 6, 2) := by decide +kernel
theorem dX5_collectAlike_47 : decode cX5_collectAlike 47 = .ok (.aload_n 0, 1) := by decide +kernel
theorem dX5_collectAlike_48 : decode cX5_collectAlike 48 = .ok (.iload_n 1, 1) := by decide +kernel
theorem dX5_collectAlike_49 : decode cX5_collectAlike 49 = .ok (.iload_n 2, 1) := by decide +kernel
theorem dX5_collectAlike_50 : decode cX5_collectAlike 50 = .ok (.iconst 1, 1) := by decide +kernel
theorem dX5_collectAlike_51 : decode cX5_collectAlike 51 = .ok (.iadd, 1) := by decide +kernel
theorem dX5_collectAlike_52 : decode cX5_collectAlike 52 = .ok (.iload 5, 2) := by decide +kernel
theorem dX5_collectAlike_54 : decode cX5_collectAlike 54 = .ok (.iload 4, 2) := by decide +kernel
theorem dX5_collectAlike_56 : decode cX5_collectAlike 56 = .ok (.iload_n 2, 1) := by decide +kernel
theorem dX5_collectAlike_57 : decode cX5_collectAlike 57 = .ok (.iload 5, 2) := by decide +kernel
theorem dX5_collectAlike_59 : decode cX5_collectAlike 59 = .ok (.iload_n 1, 1) := by decide +kernel
theorem dX5_collectAlike_60 : decode cX5_collectAlike 60 = .ok (.invokestatic 84, 3) := by decide +kernel
theorem dX5_collectAlike_63 : decode cX5_collectAlike 63 = .ok (.invokestatic 88, 3) := by decide +kernel
theorem dX5_collectAlike_66 : decode cX5_collectAlike 66 = .ok (.invokestatic 66, 3) := by decide +kernel
theorem dX5_collectAlike_69 : decode cX5_collectAlike 69 = .ok (.aload_n 0, 1) := by decide +kernel
theorem dX5_collectAlike_70 : decode cX5_collectAlike 70 = .ok (.getfield 12, 3) := by decide +kernel
theorem dX5_collectAlike_73 : decode cX5_collectAlike 73 = .ok (.aload_n 0, 1) := by decide +kernel
theorem dX5_collectAlike_74 : decode cX5_collectAlike 74 = .ok (.getfield 35, 3) := by decide +kernel
theorem dX5_collectAlike_77 : decode cX5_collectAlike 77 = .ok (.iload 5, 2) := by decide +kernel
theorem dX5_collectAlike_79 : decode cX5_collectAlike 79 = .ok (.iload_n 1, 1) := by decide +kernel
theorem dX5_collectAlike_80 : decode cX5_collectAlike 80 = .ok (.iload 6, 2) := by decide +kernel
theorem dX5_collectAlike_82 : decode cX5_collectAlike 82 = .ok (.invokevirtual 92, 3) := by decide +kernel
theorem dX5_collectAlike_85 : decode cX5_collectAlike 85 = .ok (.iinc 5 (-1), 3) := by decide +kernel
theorem dX5_collectAlike_88 : decode cX5_collectAlike 88 = .ok (.goto (-85), 3) := by decide +kernel
theorem dX5_collectAlike_91 : decode cX5_collectAlike 91 = .ok (.iload_n 2, 1) := by decide +kernel
theorem dX5_collectAlike_92 : decode cX5_collectAlike 92 = .ok (.aload_n 0, 1) := by decide +kernel
theorem dX5_collectAlike_93 : decode cX5_collectAlike 93 = .ok (.getfield 42, 3) := by decide +kernel
theorem dX5_collectAlike_96 : decode cX5_collectAlike 96 = .ok (.if_icmp .le 8, 3) := by decide +kernel
theorem dX5_collectAlike_99 : decode cX5_collectAlike 99 = .ok (.aload_n 0, 1) := by decide +kernel
theorem dX5_collectAlike_100 : decode cX5_collectAlike 100 = .ok (.iload_n 2, 1) := by decide +kernel
theorem dX5_collectAlike_101 : decode cX5_collectAlike 101 = .ok (.invokevirtual 62, 3) := by decide +kernel
theorem dX5_collectAlike_104 : decode cX5_collectAlike 104 = .ok (.iload_n 2, 1) := by decide +kernel
theorem dX5_collectAlike_105 : decode cX5_collectAlike 105 = .ok (.aload_n 0, 1) := by decide +kernel
theorem dX5_collectAlike_106 : decode cX5_collectAlike 106 = .ok (.getfield 42, 3) := by decide +kernel
theorem dX5_collectAlike_109 : decode cX5_collectAlike 109 = .ok (.if_icmp .ne 9, 3) := by decide +kernel
theorem dX5_collectAlike_112 : decode cX5_collectAlike 112 = .ok (.aload_n 0, 1) := by decide +kernel
theorem dX5_collectAlike_113 : decode cX5_collectAlike 113 = .ok (.iload 4, 2) := by decide +kernel
theorem dX5_collectAlike_115 : decode cX5_collectAlike 115 = .ok (.invokevirtual 96, 3) := by decide +kernel
theorem dX5_collectAlike_118 : decode cX5_collectAlike 118 = .ok (.return_, 1) := by decide +kernel
set_option maxRecDepth 20000 in
theorem ggX5_collectUnlike_X5_addPairs : GoodIn wsX5_collectUnlike wsX5_addPairs := goodIn_r _ [7, 8, 9, 10, 11, 12, 13, 14, 15, 16, 17, 18, 19, 20, 21, 22, 23, 24, 25, 26, 27, 28, 29, 30, 31, 32, 33, 34, 35, 36, 37, 38, 6, 39, 40, 41, 42, 43, 44, 45, 46, 47, 48, 49, 50, 51, 52, 2, 53, 54, 55, 56, 57, 58, 59, 60, 61, 62, 63, 64, 65, 66, 67, 68, 69, 70, 71, 72, 73, 74, 75, 76, 77, 78, 79, 80, 81, 82, 87, 88, 89, 90, 91, 92, 93, 94, 95, 96, 97] (by decide +kernel) (by decide +kernel)
set_option maxRecDepth 20000 in
theorem gX5_collectUnlike_X5_addPairs : GoodIn wsX5_collectUnlike (wsV RX5 99 RX5 yX5_addPairs wsX5_addPairs) := goodIn_app (goodIn_of _ (by decide +kernel)) ggX5_collectUnlike_X5_addPairs
set_option maxRecDepth 20000 in
theorem ggX5_collectUnlike_X5_addSingles : GoodIn wsX5_collectUnlike wsX5_addSingles := goodIn_r _ [86, 8, 9, 10, 11, 12, 13, 14, 15, 16, 17, 18, 19, 20, 21, 22, 23, 24, 25, 26, 27, 28, 29, 30, 31, 32, 33, 34, 35, 55, 56, 57, 60, 61, 62, 6, 63, 2, 64, 65, 66, 67, 68, 69, 70, 71, 72, 73, 74, 75, 76, 77, 78, 79, 80, 81, 82, 87, 88, 89, 90, 91, 92, 93, 94, 95, 96, 97] (by decide +kernel) (by decide +kernel)
set_option maxRecDepth 20000 in
theorem gX5_collectUnlike_X5_addSingles : GoodIn wsX5_collectUnlike (wsV RX5 102 RX5 yX5_addSingles wsX5_addSingles) := goodIn_app (goodIn_of _ (by decide +kernel)) ggX5_collectUnlike_X5_addSingles
set_option maxRecDepth 20000 in
theorem ggX5_collectUnlike_X5_addRow : GoodIn wsX5_collectUnlike wsX5_addRow := goodIn_r _ [63, 2, 64, 65, 8, 9, 66, 67, 68, 69, 13, 70, 19, 71, 72, 73, 6, 74, 75, 76, 77, 78, 87, 88, 89, 90, 91, 92, 93, 94, 95, 96, 97] (by decide +kernel) (by decide +kernel)
set_option maxRecDepth 20000 in
theorem gX5_collectUnlike_X5_addRow : GoodIn wsX5_collectUnlike (wsV RX5 96 RX5 yX5_addRow wsX5_addRow) := goodIn_app (goodIn_of _ (by decide +kernel)) ggX5_collectUnlike_X5_addRow
theorem dX5_collectUnlike_0 : decode cX5_collectUnlike 0 = .ok (.aload_n 0, 1) := by decide +kernel
theorem dX5_collectUnlike_1 : decode cX5_collectUnlike 1 = .ok (.iconst 2, 1) := by decide +kernel
theorem dX5_collectUnlike_2 : decode cX5_collectUnlike 2 = .ok (.putfield 42, 3) := by decide +kernel
theorem dX5_collectUnlike_5 : decode cX5_collectUnlike 5 = .ok (.aload_n 0, 1) := by decide +kernel
theorem dX5_collectUnlike_6 : decode cX5_collectUnlike 6 = .ok (.iload_n 1, 1) := by decide +kernel
theorem dX5_collectUnlike_7 : decode cX5_collectUnlike 7 = .ok (.iload_n 2, 1) := by decide +kernel
theorem dX5_collectUnlike_8 : decode cX5_collectUnlike 8 = .ok (.invokevirtual 99, 3) := by decide +kernel
theorem dX5_collectUnlike_11 : decode cX5_collectUnlike 11 = .ok (.aload_n 0, 1) := by decide +kernel
theorem dX5_collectUnlike_12 : decode cX5_collectUnlike 12 = .ok (.iload_n 2, 1) := by decide +kernel
theorem dX5_collectUnlike_13 : decode cX5_collectUnlike 13 = .ok (.iload_n 1, 1) := by decide +kernel
theorem dX5_collectUnlike_14 : decode cX5_collectUnlike 14 = .ok (.invokevirtual 99, 3) := by decide +kernel
theorem dX5_collectUnlike_17 : decode cX5_collectUnlike 17 = .ok (.aload_n 0, 1) := by decide +kernel
theorem dX5_collectUnlike_18 : decode cX5_collectUnlike 18 = .ok (.getfield 39, 3) := by decide +kernel
theorem dX5_collectUnlike_21 : decode cX5_collectUnlike 21 = .ok (.ifCond .ne 13, 3) := by decide +kernel
theorem dX5_collectUnlike_24 : decode cX5_collectUnlike 24 = .ok (.aload_n 0, 1) := by decide +kernel
theorem dX5_collectUnlike_25 : decode cX5_collectUnlike 25 = .ok (.iconst 1, 1) := by decide +kernel
theorem dX5_collectUnlike_26 : decode cX5_collectUnlike 26 = .ok (.putfield 42, 3) := by decide +kernel
theorem dX5_collectUnlike_29 : decode cX5_collectUnlike 29 = .ok (.aload_n 0, 1) := by decide +kernel
theorem dX5_collectUnlike_30 : decode cX5_collectUnlike 30 = .ok (.iload_n 1, 1) := by decide +kernel
theorem dX5_collectUnlike_31 : decode cX5_collectUnlike 31 = .ok (.invokevirtual 102, 3) := by decide +kernel
theorem dX5_collectUnlike_34 : decode cX5_collectUnlike 34 = .ok (.aload_n 0, 1) := by decide +kernel
theorem dX5_collectUnlike_35 : decode cX5_collectUnlike 35 = .ok (.getfield 39, 3) := by decide +kernel
theorem dX5_collectUnlike_38 : decode cX5_collectUnlike 38 = .ok (.ifCond .ne 8, 3) := by decide +kernel
theorem dX5_collectUnlike_41 : decode cX5_collectUnlike 41 = .ok (.aload_n 0, 1) := by decide +kernel
theorem dX5_collectUnlike_42 : decode cX5_collectUnlike 42 = .ok (.iload_n 2, 1) := by decide +kernel
theorem dX5_collectUnlike_43 : decode cX5_collectUnlike 43 = .ok (.invokevirtual 102, 3) := by decide +kernel
theorem dX5_collectUnlike_46 : decode cX5_collectUnlike 46 = .ok (.aload_n 0, 1) := by decide +kernel
theorem dX5_collectUnlike_47 : decode cX5_collectUnlike 47 = .ok (.getfield 39, 3) := by decide +kernel
theorem dX5_collectUnlike_50 : decode cX5_collectUnlike 50 = .ok (.ifCond .ne 13, 3) := by decide +kernel
theorem dX5_collectUnlike_53 : decode cX5_collectUnlike 53 = .ok (.aload_n 0, 1) := by decide +kernel
theorem dX5_collectUnlike_54 : decode cX5_collectUnlike 54 = .ok (.iconst 0, 1) := by decide +kernel
theorem dX5_collectUnlike_55 : decode cX5_collectUnlike 55 = .ok (.putfield 42, 3) := by decide +kernel
theorem dX5_collectUnlike_58 : decode cX5_collectUnlike 58 = .ok (.aload_n 0, 1) := by decide +kernel
theorem dX5_collectUnlike_59 : decode cX5_collectUnlike 59 = .ok (.iconst 0, 1) := by decide +kernel
theorem dX5_collectUnlike_60 : decode cX5_collectUnlike 60 = .ok (.invokevirtual 96, 3) := by decide +kernel
theorem dX5_collectUnlike_63 : decode cX5_collectUnlike 63 = .ok (.return_, 1) := by decide +kernel
set_option maxRecDepth 20000 in
theorem ggX5_addPairs_X0_canStep : GoodIn wsX5_addPairs wsX0_canStep := goodIn_r _ [7, 8, 9, 10, 6, 11, 12, 13, 14, 15, 16, 88] (by decide +kernel) (by decide +kernel)
set_option maxRecDepth 20000 in
theorem gX5_addPairs_X0_canStep : GoodIn wsX5_addPairs (wsV RX5 77 RX0 yX0_canStep wsX0_canStep) := goodIn_app (goodIn_of _ (by decide +kernel)) ggX5_addPairs_X0_canStep
set_option maxRecDepth 20000 in
theorem ggX5_addPairs_X0_step : GoodIn wsX5_addPairs wsX0_step := goodIn_r _ [20, 21, 22, 23, 24, 25, 26, 27, 6, 28, 12, 8, 9, 10, 11, 88] (by decide +kernel) (by decide +kernel)
set_option maxRecDepth 20000 in
theorem gX5_addPairs_X0_step : GoodIn wsX5_addPairs (wsV RX5 81 RX0 yX0_step wsX0_step) := goodIn_app (goodIn_of _ (by decide +kernel)) ggX5_addPairs_X0_step
set_option maxRecDepth 20000 in
theorem ggX5_addPairs_X5_addSeconds : GoodIn wsX5_addPairs wsX5_addSeconds := goodIn_r _ [33, 1, 2, 3, 4, 5, 6, 7, 8, 9, 10, 11, 12, 13, 14, 15, 16, 17, 18, 19, 20, 21, 22, 23, 24, 25, 26, 27, 28, 34, 35, 36, 32, 37, 38, 39, 40, 41, 42, 43, 44, 45, 46, 47, 48, 49, 50, 51, 52, 53, 54, 55, 56, 57, 58, 59, 60, 61, 62, 63, 64, 65, 66, 67, 68, 69, 70, 71, 72, 73, 74, 75, 76, 77, 78, 79, 80, 81, 82, 83, 84, 85, 86, 87, 88] (by decide +kernel) (by decide +kernel)
set_option maxRecDepth 20000 in
theorem gX5_addPairs_X5_addSeconds : GoodIn wsX5_addPairs (wsV RX5 105 RX5 yX5_addSeconds wsX5_addSeconds) := goodIn_app (goodIn_of _ (by decide +kernel)) ggX5_addPairs_X5_addSeconds
set_option maxRecDepth 20000 in
theorem ggX5_addPairs_X0_stepBack : GoodIn wsX5_addPairs wsX0_stepBack := goodIn_r _ [77, 21, 22, 23, 24, 25, 26, 27, 6, 28, 12, 88] (by decide +kernel) (by decide +kernel)
set_option maxRecDepth 20000 in
theorem gX5_addPairs_X0_stepBack : GoodIn wsX5_addPairs (wsV RX5 92 RX0 yX0_stepBack wsX0_stepBack) := goodIn_app (goodIn_of _ (by decide +kernel)) ggX5_addPairs_X0_stepBack
theorem dX5_addPairs_0 : decode cX5_addPairs 0 = .ok (.bipush 25, 2) := by decide +kernel
theorem dX5_addPairs_2 : decode cX5_addPairs 2 = .ok (.istore_n 3, 1) := by decide +kernel
theorem dX5_addPairs_3 : decode cX5_addPairs 3 = .ok (.iload_n 3, 1) := by decide +kernel
theorem dX5_addPairs_4 : decode cX5_addPairs 4 = .ok (.iconst 1, 1) := by decide +kernel
theorem dX5_addPairs_5 : decode cX5_addPairs 5 = .ok (.if_icmp .lt 64, 3) := by decide +kernel
theorem dX5_addPairs_8 : decode cX5_addPairs 8 = .ok (.aload_n 0, 1) := by decide +kernel
theorem dX5_addPairs_9 : decode cX5_addPairs 9 = .ok (.getfield 12, 3) := by decide +kernel
theorem dX5_addPairs_12 : decode cX5_addPairs 12 = .ok (.aload_n 0, 1) := by decide +kernel
theorem dX5_addPairs_13 : decode cX5_addPairs 13 = .ok (.getfield 35, 3) := by decide +kernel
theorem dX5_addPairs_16 : decode cX5_addPairs 16 = .ok (.iload_n 3, 1) := by decide +kernel
theorem dX5_addPairs_17 : decode cX5_addPairs 17 = .ok (.iload_n 1, 1) := by decide +kernel
theorem dX5_addPairs_18 : decode cX5_addPairs 18 = .ok (.invokevirtual 77, 3) := by decide +kernel
theorem dX5_addPairs_21 : decode cX5_addPairs 21 = .ok (.ifCond .eq 42, 3) := by decide +kernel
theorem dX5_addPairs_24 : decode cX5_addPairs 24 = .ok (.aload_n 0, 1) := by decide +kernel
theorem dX5_addPairs_25 : decode cX5_addPairs 25 = .ok (.getfield 12, 3) := by decide +kernel
theorem dX5_addPairs_28 : decode cX5_addPairs 28 = .ok (.aload_n 0, 1) := by decide +kernel
theorem dX5_addPairs_29 : decode cX5_addPairs 29 = .ok (.getfield 35, 3) := by decide +kernel
theorem dX5_addPairs_32 : decode cX5_addPairs 32 = .ok (.iload_n 3, 1) := by decide +kernel
theorem dX5_addPairs_33 : decode cX5_addPairs 33 = .ok (.iload_n 1, 1) := by decide +kernel
theorem dX5_addPairs_34 : decode cX5_addPairs 34 = .ok (.invokevirtual 81, 3) := by decide +kernel
theorem dX5_addPairs_37 : decode cX5_addPairs 37 = .ok (.istore 4, 2) := by decide +kernel
theorem dX5_addPairs_39 : decode cX5_addPairs 39 = .ok (.aload_n 0, 1) := by decide +kernel
theorem dX5_addPairs_40 : decode cX5_addPairs 40 = .ok (.iload_n 3, 1) := by decide +kernel
theorem dX5_addPairs_41 : decode cX5_addPairs 41 = .ok (.iload_n 1, 1) := by decide +kernel
theorem dX5_addPairs_42 : decode cX5_addPairs 42 = .ok (.iload 4, 2) := by decide +kernel
theorem dX5_addPairs_44 : decode cX5_addPairs 44 = .ok (.iload_n 2, 1) := by decide +kernel
theorem dX5_addPairs_45 : decode cX5_addPairs 45 = .ok (.invokevirtual 105, 3) := by decide +kernel
theorem dX5_addPairs_48 : decode cX5_addPairs 48 = .ok (.aload_n 0, 1) := by decide +kernel
theorem dX5_addPairs_49 : decode cX5_addPairs 49 = .ok (.getfield 12, 3) := by decide +kernel
theorem dX5_addPairs_52 : decode cX5_addPairs 52 = .ok (.aload_n 0, 1) := by decide +kernel
theorem dX5_addPairs_53 : decode cX5_addPairs 53 = .ok (.getfield 35, 3) := by decide +kernel
theorem dX5_addPairs_56 : decode cX5_addPairs 56 = .ok (.iload_n 3, 1) := by decide +kernel
theorem dX5_addPairs_57 : decode cX5_addPairs 57 = .ok (.iload_n 1, 1) := by decide +kernel
theorem dX5_addPairs_58 : decode cX5_addPairs 58 = .ok (.iload 4, 2) := by decide +kernel
theorem dX5_addPairs_60 : decode cX5_addPairs 60 = .ok (.invokevirtual 92, 3) := by decide +kernel
theorem dX5_addPairs_63 : decode cX5_addPairs 63 = .ok (.iinc 3 (-1), 3) := by decide +kernel
theorem dX5_addPairs_66 : decode cX5_addPairs 66 = .ok (.goto (-63), 3) := by decide +kernel
theorem dX5_addPairs_69 : decode cX5_addPairs 69 = .ok (.return_, 1) := by decide +kernel
set_option maxRecDepth 20000 in
theorem ggX5_addSeconds_X0_canStep : GoodIn wsX5_addSeconds wsX0_canStep := goodIn_r _ [7, 8, 9, 10, 6, 11, 12, 13, 14, 15, 16, 84] (by decide +kernel) (by decide +kernel)
set_option maxRecDepth 20000 in
theorem gX5_addSeconds_X0_canStep : GoodIn wsX5_addSeconds (wsV RX5 77 RX0 yX0_canStep wsX0_canStep) := goodIn_app (goodIn_of _ (by decide +kernel)) ggX5_addSeconds_X0_canStep
set_option maxRecDepth 20000 in
theorem ggX5_addSeconds_X0_step : GoodIn wsX5_addSeconds wsX0_step := goodIn_r _ [20, 21, 22, 23, 24, 25, 26, 27, 6, 28, 12, 8, 9, 10, 11, 84] (by decide +kernel) (by decide +kernel)
set_option maxRecDepth 20000 in
theorem gX5_addSeconds_X0_step : GoodIn wsX5_addSeconds (wsV RX5 81 RX0 yX0_step wsX0_step) := goodIn_app (goodIn_of _ (by decide +kernel)) ggX5_addSeconds_X0_step
set_option maxRecDepth 20000 in
theorem ggX5_addSeconds_X5_changeBy : GoodIn wsX5_addSeconds wsX5_changeBy := goodIn_r _ [33, 34, 22, 23, 24, 35, 74, 75, 76, 77, 78, 79, 80, 81, 82, 83] (by decide +kernel) (by decide +kernel)
set_option maxRecDepth 20000 in
theorem gX5_addSeconds_X5_changeBy : GoodIn wsX5_addSeconds (wsV RX5 109 RX5 yX5_changeBy wsX5_changeBy) := goodIn_app (goodIn_of _ (by decide +kernel)) ggX5_addSeconds_X5_changeBy
set_option maxRecDepth 20000 in
theorem ggX5_addSeconds_X5_hitPoint : GoodIn wsX5_addSeconds wsX5_hitPoint := goodIn_r _ [38] (by decide +kernel) (by decide +kernel)
set_option maxRecDepth 20000 in
theorem gX5_addSeconds_X5_hitPoint : GoodIn wsX5_addSeconds (va_wsS RX5 113 yX5_hitPoint wsX5_hitPoint) := goodIn_app (goodIn_of _ (by decide +kernel)) ggX5_addSeconds_X5_hitPoint
set_option maxRecDepth 20000 in
theorem ggX5_addSeconds_X5_isNew : GoodIn wsX5_addSeconds wsX5_isNew := goodIn_r _ [42, 43, 44, 45, 74, 75, 76, 77, 78, 79, 80, 81, 82, 83] (by decide +kernel) (by decide +kernel)
set_option maxRecDepth 20000 in
theorem gX5_addSeconds_X5_isNew : GoodIn wsX5_addSeconds (wsV RX5 117 RX5 yX5_isNew wsX5_isNew) := goodIn_app (goodIn_of _ (by decide +kernel)) ggX5_addSeconds_X5_isNew
set_option maxRecDepth 20000 in
theorem ggX5_addSeconds_X9_codeOf : GoodIn wsX5_addSeconds wsX9_codeOf := goodIn_r _ [48] (by decide +kernel) (by decide +kernel)
set_option maxRecDepth 20000 in
theorem gX5_addSeconds_X9_codeOf_n84 : GoodIn wsX5_addSeconds (wsX9_codeOf) := ggX5_addSeconds_X9_codeOf
set_option maxRecDepth 20000 in
theorem ggX5_addSeconds_X9_withCode : GoodIn wsX5_addSeconds wsX9_withCode := goodIn_r _ [50] (by decide +kernel) (by decide +kernel)
set_option maxRecDepth 20000 in
theorem gX5_addSeconds_X9_withCode_n88 : GoodIn wsX5_addSeconds (wsX9_withCode) := ggX5_addSeconds_X9_withCode
set_option maxRecDepth 20000 in
theorem ggX5_addSeconds_X5_addRow : GoodIn wsX5_addSeconds wsX5_addRow := goodIn_r _ [54, 43, 55, 56, 1, 2, 57, 58, 59, 60, 6, 61, 12, 62, 63, 64, 32, 65, 66, 67, 68, 69, 74, 75, 76, 77, 78, 79, 80, 81, 82, 83, 84] (by decide +kernel) (by decide +kernel)
set_option maxRecDepth 20000 in
theorem gX5_addSeconds_X5_addRow : GoodIn wsX5_addSeconds (wsV RX5 96 RX5 yX5_addRow wsX5_addRow) := goodIn_app (goodIn_of _ (by decide +kernel)) ggX5_addSeconds_X5_addRow
set_option maxRecDepth 20000 in
theorem ggX5_addSeconds_X0_stepBack : GoodIn wsX5_addSeconds wsX0_stepBack := goodIn_r _ [73, 21, 22, 23, 24, 25, 26, 27, 6, 28, 12, 84] (by decide +kernel) (by decide +kernel)
set_option maxRecDepth 20000 in
theorem gX5_addSeconds_X0_stepBack : GoodIn wsX5_addSeconds (wsV RX5 92 RX0 yX0_stepBack wsX0_stepBack) := goodIn_app (goodIn_of _ (by decide +kernel)) ggX5_addSeconds_X0_stepBack
theorem dX5_addSeconds_0 : decode cX5_addSeconds 0 = .ok (.bipush 25, 2) := by decide +kernel
theorem dX5_addSeconds_2 : decode cX5_addSeconds 2 = .ok (.istore 5, 2) := by decide +kernel
theorem dX5_addSeconds_4 : decode cX5_addSeconds 4 = .ok (.iload 5, 2) := by decide +kernel
theorem dX5_addSeconds_6 : decode cX5_addSeconds 6 = .ok (.iconst 1, 1) := by decide +kernel
theorem dX5_addSeconds_7 : decode cX5_addSeconds 7 = .ok (.if_icmp .lt 127, 3) := by decide +kernel
theorem dX5_addSeconds_10 : decode cX5_addSeconds 10 = .ok (.aload_n 0, 1) := by decide +kernel
theorem dX5_addSeconds_11 : decode cX5_addSeconds 11 = .ok (.getfield 12, 3) := by decide +kernel
theorem dX5_addSeconds_14 : decode cX5_addSeconds 14 = .ok (.aload_n 0, 1) := by decide +kernel
theorem dX5_addSeconds_15 : decode cX5_addSeconds 15 = .ok (.getfield 35, 3) := by decide +kernel
theorem dX5_addSeconds_18 : decode cX5_addSeconds 18 = .ok (.iload 5, 2) := by decide +kernel
theorem dX5_addSeconds_20 : decode cX5_addSeconds 20 = .ok (.iload 4, 2) := by decide +kernel
theorem dX5_addSeconds_22 : decode cX5_addSeconds 22 = .ok (.invokevirtual 77, 3) := by decide +kernel
theorem dX5_addSeconds_25 : decode cX5_addSeconds 25 = .ok (.ifCond .eq 103, 3) := by decide +kernel
theorem dX5_addSeconds_28 : decode cX5_addSeconds 28 = .ok (.aload_n 0, 1) := by decide +kernel
theorem dX5_addSeconds_29 : decode cX5_addSeconds 29 = .ok (.getfield 12, 3) := by decide +kernel
theorem dX5_addSeconds_32 : decode cX5_addSeconds 32 = .ok (.aload_n 0, 1) := by decide +kernel
theorem dX5_addSeconds_33 : decode cX5_addSeconds 33 = .ok (.getfield 35, 3) := by decide +kernel
theorem dX5_addSeconds_36 : decode cX5_addSeconds 36 = .ok (.iload 5, 2) := by decide +kernel
theorem dX5_addSeconds_38 : decode cX5_addSeconds 38 = .ok (.iload 4, 2) := by decide +kernel
theorem dX5_addSeconds_40 : decode cX5_addSeconds 40 = .ok (.invokevirtual 81, 3) := by decide +kernel
theorem dX5_addSeconds_43 : decode cX5_addSeconds 43 = .ok (.istore 6, 2) := by decide +kernel
theorem dX5_addSeconds_45 : decode cX5_addSeconds 45 = .ok (.aload_n 0, 1) := by decide +kernel
theorem dX5_addSeconds_46 : decode cX5_addSeconds 46 = .ok (.iload_n 1, 1) := by decide +kernel
theorem dX5_addSeconds_47 : decode cX5_addSeconds 47 = .ok (.iload_n 2, 1) := by decide +kernel
theorem dX5_addSeconds_48 : decode cX5_addSeconds 48 = .ok (.invokevirtual 109, 3) := by decide +kernel
theorem dX5_addSeconds_51 : decode cX5_addSeconds 51 = .ok (.aload_n 0, 1) := by decide +kernel
theorem dX5_addSeconds_52 : decode cX5_addSeconds 52 = .ok (.iload 5, 2) := by decide +kernel
theorem dX5_addSeconds_54 : decode cX5_addSeconds 54 = .ok (.iload 4, 2) := by decide +kernel
theorem dX5_addSeconds_56 : decode cX5_addSeconds 56 = .ok (.invokevirtual 109, 3) := by decide +kernel
theorem dX5_addSeconds_59 : decode cX5_addSeconds 59 = .ok (.ladd, 1) := by decide +kernel
theorem dX5_addSeconds_60 : decode cX5_addSeconds 60 = .ok (.lstore 7, 2) := by decide +kernel
theorem dX5_addSeconds_62 : decode cX5_addSeconds 62 = .ok (.iload_n 1, 1) := by decide +kernel
theorem dX5_addSeconds_63 : decode cX5_addSeconds 63 = .ok (.iload_n 2, 1) := by decide +kernel
theorem dX5_addSeconds_64 : decode cX5_addSeconds 64 = .ok (.iload_n 3, 1) := by decide +kernel
theorem dX5_addSeconds_65 : decode cX5_addSeconds 65 = .ok (.invokestatic 113, 3) := by decide +kernel
theorem dX5_addSeconds_68 : decode cX5_addSeconds 68 = .ok (.iload 5, 2) := by decide +kernel
theorem dX5_addSeconds_70 : decode cX5_addSeconds 70 = .ok (.iload 4, 2) := by decide +kernel
theorem dX5_addSeconds_72 : decode cX5_addSeconds 72 = .ok (.iload 6, 2) := by decide +kernel
theorem dX5_addSeconds_74 : decode cX5_addSeconds 74 = .ok (.invokestatic 113, 3) := by decide +kernel
theorem dX5_addSeconds_77 : decode cX5_addSeconds 77 = .ok (.ior, 1) := by decide +kernel
theorem dX5_addSeconds_78 : decode cX5_addSeconds 78 = .ok (.istore 9, 2) := by decide +kernel
theorem dX5_addSeconds_80 : decode cX5_addSeconds 80 = .ok (.aload_n 0, 1) := by decide +kernel
theorem dX5_addSeconds_81 : decode cX5_addSeconds 81 = .ok (.lload 7, 2) := by decide +kernel
theorem dX5_addSeconds_83 : decode cX5_addSeconds 83 = .ok (.iload 9, 2) := by decide +kernel
theorem dX5_addSeconds_85 : decode cX5_addSeconds 85 = .ok (.invokevirtual 117, 3) := by decide +kernel
theorem dX5_addSeconds_88 : decode cX5_addSeconds 88 = .ok (.ifCond .eq 23, 3) := by decide +kernel
theorem dX5_addSeconds_91 : decode cX5_addSeconds 91 = .ok (.aload_n 0, 1) := by decide +kernel
theorem dX5_addSeconds_92 : decode cX5_addSeconds 92 = .ok (.iload_n 1, 1) := by decide +kernel
theorem dX5_addSeconds_93 : decode cX5_addSeconds 93 = .ok (.iload_n 2, 1) := by decide +kernel
theorem dX5_addSeconds_94 : decode cX5_addSeconds 94 = .ok (.invokestatic 84, 3) := by decide +kernel
theorem dX5_addSeconds_97 : decode cX5_addSeconds 97 = .ok (.iconst 1, 1) := by decide +kernel
theorem dX5_addSeconds_98 : decode cX5_addSeconds 98 = .ok (.iload 5, 2) := by decide +kernel
theorem dX5_addSeconds_100 : decode cX5_addSeconds 100 = .ok (.iload 4, 2) := by decide +kernel
theorem dX5_addSeconds_102 : decode cX5_addSeconds 102 = .ok (.invokestatic 84, 3) := by decide +kernel
theorem dX5_addSeconds_105 : decode cX5_addSeconds 105 = .ok (.invokestatic 88, 3) := by decide +kernel
theorem dX5_addSeconds_108 : decode cX5_addSeconds 108 = .ok (.invokevirtual 96, 3) := by decide +kernel
theorem dX5_addSeconds_111 : decode cX5_addSeconds 111 = .ok (.aload_n 0, 1) := by decide +kernel
theorem dX5_addSeconds_112 : decode cX5_addSeconds 112 = .ok (.getfield 12, 3) := by decide +kernel
theorem dX5_addSeconds_115 : decode cX5_addSeconds 115 = .ok (.aload_n 0, 1) := by decide +kernel
theorem dX5_addSeconds_116 : decode cX5_addSeconds 116 = .ok (.getfield 35, 3) := by decide +kernel
theorem dX5_addSeconds_119 : decode cX5_addSeconds 119 = .ok (.iload 5, 2) := by decide +kernel
theorem dX5_addSeconds_121 : decode cX5_addSeconds 121 = .ok (.iload 4, 2) := by decide +kernel
theorem dX5_addSeconds_123 : decode cX5_addSeconds 123 = .ok (.iload 6, 2) := by decide +kernel
theorem dX5_addSeconds_125 : decode cX5_addSeconds 125 = .ok (.invokevirtual 92, 3) := by decide +kernel
theorem dX5_addSeconds_128 : decode cX5_addSeconds 128 = .ok (.iinc 5 (-1), 3) := by decide +kernel
theorem dX5_addSeconds_131 : decode cX5_addSeconds 131 = .ok (.goto (-127), 3) := by decide +kernel
theorem dX5_addSeconds_134 : decode cX5_addSeconds 134 = .ok (.return_, 1) := by decide +kernel
set_option maxRecDepth 20000 in
theorem ggX5_addSingles_X0_canStep : GoodIn wsX5_addSingles wsX0_canStep := goodIn_r _ [7, 8, 9, 10, 6, 11, 12, 13, 14, 15, 16, 67] (by decide +kernel) (by decide +kernel)
set_option maxRecDepth 20000 in
theorem gX5_addSingles_X0_canStep : GoodIn wsX5_addSingles (wsV RX5 77 RX0 yX0_canStep wsX0_canStep) := goodIn_app (goodIn_of _ (by decide +kernel)) ggX5_addSingles_X0_canStep
set_option maxRecDepth 20000 in
theorem ggX5_addSingles_X0_step : GoodIn wsX5_addSingles wsX0_step := goodIn_r _ [20, 21, 22, 23, 24, 25, 26, 27, 6, 28, 12, 8, 9, 10, 11, 67] (by decide +kernel) (by decide +kernel)
set_option maxRecDepth 20000 in
theorem gX5_addSingles_X0_step : GoodIn wsX5_addSingles (wsV RX5 81 RX0 yX0_step wsX0_step) := goodIn_app (goodIn_of _ (by decide +kernel)) ggX5_addSingles_X0_step
set_option maxRecDepth 20000 in
theorem ggX5_addSingles_X9_codeOf : GoodIn wsX5_addSingles wsX9_codeOf := goodIn_r _ [31] (by decide +kernel) (by decide +kernel)
set_option maxRecDepth 20000 in
theorem gX5_addSingles_X9_codeOf_n84 : GoodIn wsX5_addSingles (wsX9_codeOf) := ggX5_addSingles_X9_codeOf
set_option maxRecDepth 20000 in
theorem ggX5_addSingles_X5_addRow : GoodIn wsX5_addSingles wsX5_addRow := goodIn_r _ [36, 37, 38, 39, 1, 2, 40, 41, 42, 43, 6, 44, 12, 45, 46, 47, 35, 48, 49, 50, 51, 52, 57, 58, 59, 60, 61, 62, 63, 64, 65, 66, 67] (by decide +kernel) (by decide +kernel)
set_option maxRecDepth 20000 in
theorem gX5_addSingles_X5_addRow : GoodIn wsX5_addSingles (wsV RX5 96 RX5 yX5_addRow wsX5_addRow) := goodIn_app (goodIn_of _ (by decide +kernel)) ggX5_addSingles_X5_addRow
set_option maxRecDepth 20000 in
theorem ggX5_addSingles_X0_stepBack : GoodIn wsX5_addSingles wsX0_stepBack := goodIn_r _ [56, 21, 22, 23, 24, 25, 26, 27, 6, 28, 12, 67] (by decide +kernel) (by decide +kernel)
set_option maxRecDepth 20000 in
theorem gX5_addSingles_X0_stepBack : GoodIn wsX5_addSingles (wsV RX5 92 RX0 yX0_stepBack wsX0_stepBack) := goodIn_app (goodIn_of _ (by decide +kernel)) ggX5_addSingles_X0_stepBack
theorem dX5_addSingles_0 : decode cX5_addSingles 0 = .ok (.bipush 25, 2) := by decide +kernel
theorem dX5_addSingles_2 : decode cX5_addSingles 2 = .ok (.istore_n 2, 1) := by decide +kernel
theorem dX5_addSingles_3 : decode cX5_addSingles 3 = .ok (.iload_n 2, 1) := by decide +kernel
theorem dX5_addSingles_4 : decode cX5_addSingles 4 = .ok (.iconst 1, 1) := by decide +kernel
theorem dX5_addSingles_5 : decode cX5_addSingles 5 = .ok (.if_icmp .lt 62, 3) := by decide +kernel
theorem dX5_addSingles_8 : decode cX5_addSingles 8 = .ok (.aload_n 0, 1) := by decide +kernel
theorem dX5_addSingles_9 : decode cX5_addSingles 9 = .ok (.getfield 12, 3) := by decide +kernel
theorem dX5_addSingles_12 : decode cX5_addSingles 12 = .ok (.aload_n 0, 1) := by decide +kernel
theorem dX5_addSingles_13 : decode cX5_addSingles 13 = .ok (.getfield 35, 3) := by decide +kernel
theorem dX5_addSingles_16 : decode cX5_addSingles 16 = .ok (.iload_n 2, 1) := by decide +kernel
theorem dX5_addSingles_17 : decode cX5_addSingles 17 = .ok (.iload_n 1, 1) := by decide +kernel
theorem dX5_addSingles_18 : decode cX5_addSingles 18 = .ok (.invokevirtual 77, 3) := by decide +kernel
theorem dX5_addSingles_21 : decode cX5_addSingles 21 = .ok (.ifCond .eq 40, 3) := by decide +kernel
theorem dX5_addSingles_24 : decode cX5_addSingles 24 = .ok (.aload_n 0, 1) := by decide +kernel
theorem dX5_addSingles_25 : decode cX5_addSingles 25 = .ok (.getfield 12, 3) := by decide +kernel
theorem dX5_addSingles_28 : decode cX5_addSingles 28 = .ok (.aload_n 0, 1) := by decide +kernel
theorem dX5_addSingles_29 : decode cX5_addSingles 29 = .ok (.getfield 35, 3) := by decide +kernel
theorem dX5_addSingles_32 : decode cX5_addSingles 32 = .ok (.iload_n 2, 1) := by decide +kernel
theorem dX5_addSingles_33 : decode cX5_addSingles 33 = .ok (.iload_n 1, 1) := by decide +kernel
theorem dX5_addSingles_34 : decode cX5_addSingles 34 = .ok (.invokevirtual 81, 3) := by decide +kernel
theorem dX5_addSingles_37 : decode cX5_addSingles 37 = .ok (.istore_n 3, 1) := by decide +kernel
theorem dX5_addSingles_38 : decode cX5_addSingles 38 = .ok (.aload_n 0, 1) := by decide +kernel
theorem dX5_addSingles_39 : decode cX5_addSingles 39 = .ok (.iload_n 2, 1) := by decide +kernel
theorem dX5_addSingles_40 : decode cX5_addSingles 40 = .ok (.iload_n 1, 1) := by decide +kernel
theorem dX5_addSingles_41 : decode cX5_addSingles 41 = .ok (.invokestatic 84, 3) := by decide +kernel
theorem dX5_addSingles_44 : decode cX5_addSingles 44 = .ok (.invokevirtual 96, 3) := by decide +kernel
theorem dX5_addSingles_47 : decode cX5_addSingles 47 = .ok (.aload_n 0, 1) := by decide +kernel
theorem dX5_addSingles_48 : decode cX5_addSingles 48 = .ok (.getfield 12, 3) := by decide +kernel
theorem dX5_addSingles_51 : decode cX5_addSingles 51 = .ok (.aload_n 0, 1) := by decide +kernel
theorem dX5_addSingles_52 : decode cX5_addSingles 52 = .ok (.getfield 35, 3) := by decide +kernel
theorem dX5_addSingles_55 : decode cX5_addSingles 55 = .ok (.iload_n 2, 1) := by decide +kernel
theorem dX5_addSingles_56 : decode cX5_addSingles 56 = .ok (.iload_n 1, 1) := by decide +kernel
theorem dX5_addSingles_57 : decode cX5_addSingles 57 = .ok (.iload_n 3, 1) := by decide +kernel
theorem dX5_addSingles_58 : decode cX5_addSingles 58 = .ok (.invokevirtual 92, 3) := by decide +kernel
theorem dX5_addSingles_61 : decode cX5_addSingles 61 = .ok (.iinc 2 (-1), 3) := by decide +kernel
theorem dX5_addSingles_64 : decode cX5_addSingles 64 = .ok (.goto (-61), 3) := by decide +kernel
theorem dX5_addSingles_67 : decode cX5_addSingles 67 = .ok (.return_, 1) := by decide +kernel
theorem dX5_changeBy_0 : decode cX5_changeBy 0 = .ok (.iload_n 1, 1) := by decide +kernel
theorem dX5_changeBy_1 : decode cX5_changeBy 1 = .ok (.iload_n 2, 1) := by decide +kernel
theorem dX5_changeBy_2 : decode cX5_changeBy 2 = .ok (.isub, 1) := by decide +kernel
theorem dX5_changeBy_3 : decode cX5_changeBy 3 = .ok (.iconst 0, 1) := by decide +kernel
theorem dX5_changeBy_4 : decode cX5_changeBy 4 = .ok (.invokestatic 121, 3) := by decide +kernel
theorem dX5_changeBy_7 : decode cX5_changeBy 7 = .ok (.istore_n 3, 1) := by decide +kernel
theorem dX5_changeBy_8 : decode cX5_changeBy 8 = .ok (.iload_n 1, 1) := by decide +kernel
theorem dX5_changeBy_9 : decode cX5_changeBy 9 = .ok (.ifCond .lt 15, 3) := by decide +kernel
theorem dX5_changeBy_12 : decode cX5_changeBy 12 = .ok (.iload_n 1, 1) := by decide +kernel
theorem dX5_changeBy_13 : decode cX5_changeBy 13 = .ok (.bipush 26, 2) := by decide +kernel
theorem dX5_changeBy_15 : decode cX5_changeBy 15 = .ok (.if_icmp .ge 9, 3) := by decide +kernel
theorem dX5_changeBy_18 : decode cX5_changeBy 18 = .ok (.iload_n 3, 1) := by decide +kernel
theorem dX5_changeBy_19 : decode cX5_changeBy 19 = .ok (.bipush 26, 2) := by decide +kernel
theorem dX5_changeBy_21 : decode cX5_changeBy 21 = .ok (.if_icmp .lt 5, 3) := by decide +kernel
theorem dX5_changeBy_24 : decode cX5_changeBy 24 = .ok (.lconst 0, 1) := by decide +kernel
theorem dX5_changeBy_25 : decode cX5_changeBy 25 = .ok (.lreturn, 1) := by decide +kernel
theorem dX5_changeBy_26 : decode cX5_changeBy 26 = .ok (.aload_n 0, 1) := by decide +kernel
theorem dX5_changeBy_27 : decode cX5_changeBy 27 = .ok (.getfield 32, 3) := by decide +kernel
theorem dX5_changeBy_30 : decode cX5_changeBy 30 = .ok (.iload_n 3, 1) := by decide +kernel
theorem dX5_changeBy_31 : decode cX5_changeBy 31 = .ok (.laload, 1) := by decide +kernel
theorem dX5_changeBy_32 : decode cX5_changeBy 32 = .ok (.aload_n 0, 1) := by decide +kernel
theorem dX5_changeBy_33 : decode cX5_changeBy 33 = .ok (.getfield 32, 3) := by decide +kernel
theorem dX5_changeBy_36 : decode cX5_changeBy 36 = .ok (.iload_n 1, 1) := by decide +kernel
theorem dX5_changeBy_37 : decode cX5_changeBy 37 = .ok (.laload, 1) := by decide +kernel
theorem dX5_changeBy_38 : decode cX5_changeBy 38 = .ok (.lsub, 1) := by decide +kernel
theorem dX5_changeBy_39 : decode cX5_changeBy 39 = .ok (.lreturn, 1) := by decide +kernel
theorem dX5_hitPoint_0 : decode cX5_hitPoint 0 = .ok (.iload_n 2, 1) := by decide +kernel
theorem dX5_hitPoint_1 : decode cX5_hitPoint 1 = .ok (.ifCond .eq 11, 3) := by decide +kernel
theorem dX5_hitPoint_4 : decode cX5_hitPoint 4 = .ok (.iconst 1, 1) := by decide +kernel
theorem dX5_hitPoint_5 : decode cX5_hitPoint 5 = .ok (.iload_n 0, 1) := by decide +kernel
theorem dX5_hitPoint_6 : decode cX5_hitPoint 6 = .ok (.iload_n 1, 1) := by decide +kernel
theorem dX5_hitPoint_7 : decode cX5_hitPoint 7 = .ok (.isub, 1) := by decide +kernel
theorem dX5_hitPoint_8 : decode cX5_hitPoint 8 = .ok (.ishl, 1) := by decide +kernel
theorem dX5_hitPoint_9 : decode cX5_hitPoint 9 = .ok (.goto 4, 3) := by decide +kernel
theorem dX5_hitPoint_12 : decode cX5_hitPoint 12 = .ok (.iconst 0, 1) := by decide +kernel
theorem dX5_hitPoint_13 : decode cX5_hitPoint 13 = .ok (.ireturn, 1) := by decide +kernel
theorem dX5_isNew_0 : decode cX5_isNew 0 = .ok (.aload_n 0, 1) := by decide +kernel
theorem dX5_isNew_1 : decode cX5_isNew 1 = .ok (.getfield 39, 3) := by decide +kernel
theorem dX5_isNew_4 : decode cX5_isNew 4 = .ok (.ifCond .lt 13, 3) := by decide +kernel
theorem dX5_isNew_7 : decode cX5_isNew 7 = .ok (.aload_n 0, 1) := by decide +kernel
theorem dX5_isNew_8 : decode cX5_isNew 8 = .ok (.getfield 39, 3) := by decide +kernel
theorem dX5_isNew_11 : decode cX5_isNew 11 = .ok (.sipush 450, 3) := by decide +kernel
theorem dX5_isNew_14 : decode cX5_isNew 14 = .ok (.if_icmp .lt 5, 3) := by decide +kernel
theorem dX5_isNew_17 : decode cX5_isNew 17 = .ok (.iconst 0, 1) := by decide +kernel
theorem dX5_isNew_18 : decode cX5_isNew 18 = .ok (.ireturn, 1) := by decide +kernel
theorem dX5_isNew_19 : decode cX5_isNew 19 = .ok (.iconst 0, 1) := by decide +kernel
theorem dX5_isNew_20 : decode cX5_isNew 20 = .ok (.istore 4, 2) := by decide +kernel
theorem dX5_isNew_22 : decode cX5_isNew 22 = .ok (.iload 4, 2) := by decide +kernel
theorem dX5_isNew_24 : decode cX5_isNew 24 = .ok (.aload_n 0, 1) := by decide +kernel
theorem dX5_isNew_25 : decode cX5_isNew 25 = .ok (.getfield 39, 3) := by decide +kernel
theorem dX5_isNew_28 : decode cX5_isNew 28 = .ok (.if_icmp .ge 34, 3) := by decide +kernel
theorem dX5_isNew_31 : decode cX5_isNew 31 = .ok (.aload_n 0, 1) := by decide +kernel
theorem dX5_isNew_32 : decode cX5_isNew 32 = .ok (.getfield 25, 3) := by decide +kernel
theorem dX5_isNew_35 : decode cX5_isNew 35 = .ok (.iload 4, 2) := by decide +kernel
theorem dX5_isNew_37 : decode cX5_isNew 37 = .ok (.laload, 1) := by decide +kernel
theorem dX5_isNew_38 : decode cX5_isNew 38 = .ok (.lload_n 1, 1) := by decide +kernel
theorem dX5_isNew_39 : decode cX5_isNew 39 = .ok (.lcmp, 1) := by decide +kernel
theorem dX5_isNew_40 : decode cX5_isNew 40 = .ok (.ifCond .ne 16, 3) := by decide +kernel
theorem dX5_isNew_43 : decode cX5_isNew 43 = .ok (.aload_n 0, 1) := by decide +kernel
theorem dX5_isNew_44 : decode cX5_isNew 44 = .ok (.getfield 29, 3) := by decide +kernel
theorem dX5_isNew_47 : decode cX5_isNew 47 = .ok (.iload 4, 2) := by decide +kernel
theorem dX5_isNew_49 : decode cX5_isNew 49 = .ok (.iaload, 1) := by decide +kernel
theorem dX5_isNew_50 : decode cX5_isNew 50 = .ok (.iload_n 3, 1) := by decide +kernel
theorem dX5_isNew_51 : decode cX5_isNew 51 = .ok (.if_icmp .ne 5, 3) := by decide +kernel
theorem dX5_isNew_54 : decode cX5_isNew 54 = .ok (.iconst 0, 1) := by decide +kernel
theorem dX5_isNew_55 : decode cX5_isNew 55 = .ok (.ireturn, 1) := by decide +kernel
theorem dX5_isNew_56 : decode cX5_isNew 56 = .ok (.iinc 4 1, 3) := by decide +kernel
theorem dX5_isNew_59 : decode cX5_isNew 59 = .ok (.goto (-37), 3) := by decide +kernel
theorem dX5_isNew_62 : decode cX5_isNew 62 = .ok (.aload_n 0, 1) := by decide +kernel
theorem dX5_isNew_63 : decode cX5_isNew 63 = .ok (.getfield 25, 3) := by decide +kernel
theorem dX5_isNew_66 : decode cX5_isNew 66 = .ok (.aload_n 0, 1) := by decide +kernel
theorem dX5_isNew_67 : decode cX5_isNew 67 = .ok (.getfield 39, 3) := by decide +kernel
theorem dX5_isNew_70 : decode cX5_isNew 70 = .ok (.lload_n 1, 1) := by decide +kernel
theorem dX5_isNew_71 : decode cX5_isNew 71 = .ok (.lastore, 1) := by decide +kernel
theorem dX5_isNew_72 : decode cX5_isNew 72 = .ok (.aload_n 0, 1) := by decide +kernel
theorem dX5_isNew_73 : decode cX5_isNew 73 = .ok (.getfield 29, 3) := by decide +kernel
theorem dX5_isNew_76 : decode cX5_isNew 76 = .ok (.aload_n 0, 1) := by decide +kernel
theorem dX5_isNew_77 : decode cX5_isNew 77 = .ok (.getfield 39, 3) := by decide +kernel
theorem dX5_isNew_80 : decode cX5_isNew 80 = .ok (.iload_n 3, 1) := by decide +kernel
theorem dX5_isNew_81 : decode cX5_isNew 81 = .ok (.iastore, 1) := by decide +kernel
theorem dX5_isNew_82 : decode cX5_isNew 82 = .ok (.iconst 1, 1) := by decide +kernel
theorem dX5_isNew_83 : decode cX5_isNew 83 = .ok (.ireturn, 1) := by decide +kernel
theorem dX6_init_0 : decode cX6_init 0 = .ok (.aload_n 0, 1) := by decide +kernel
theorem dX6_init_1 : decode cX6_init 1 = .ok (.invokespecial 1, 3) := by decide +kernel
theorem dX6_init_4 : decode cX6_init 4 = .ok (.aload_n 0, 1) := by decide +kernel
theorem dX6_init_5 : decode cX6_init 5 = .ok (.iconst 0, 1) := by decide +kernel
theorem dX6_init_6 : decode cX6_init 6 = .ok (.putfield 7, 3) := by decide +kernel
theorem dX6_init_9 : decode cX6_init 9 = .ok (.aload_n 0, 1) := by decide +kernel
theorem dX6_init_10 : decode cX6_init 10 = .ok (.iconst 0, 1) := by decide +kernel
theorem dX6_init_11 : decode cX6_init 11 = .ok (.putfield 13, 3) := by decide +kernel
theorem dX6_init_14 : decode cX6_init 14 = .ok (.aload_n 0, 1) := by decide +kernel
theorem dX6_init_15 : decode cX6_init 15 = .ok (.iconst 0, 1) := by decide +kernel
theorem dX6_init_16 : decode cX6_init 16 = .ok (.putfield 16, 3) := by decide +kernel
theorem dX6_init_19 : decode cX6_init 19 = .ok (.aload_n 0, 1) := by decide +kernel
theorem dX6_init_20 : decode cX6_init 20 = .ok (.iconst 0, 1) := by decide +kernel
theorem dX6_init_21 : decode cX6_init 21 = .ok (.putfield 19, 3) := by decide +kernel
theorem dX6_init_24 : decode cX6_init 24 = .ok (.aload_n 0, 1) := by decide +kernel
theorem dX6_init_25 : decode cX6_init 25 = .ok (.iconst 0, 1) := by decide +kernel
theorem dX6_init_26 : decode cX6_init 26 = .ok (.putfield 22, 3) := by decide +kernel
theorem dX6_init_29 : decode cX6_init 29 = .ok (.return_, 1) := by decide +kernel
set_option maxRecDepth 20000 in
theorem ggX6_become_X6_takeBack : GoodIn wsX6_become wsX6_takeBack := goodIn_r _ [14, 15, 5, 9, 16, 17, 18, 19, 20, 21, 22] (by decide +kernel) (by decide +kernel)
set_option maxRecDepth 20000 in
theorem gX6_become_X6_takeBack : GoodIn wsX6_become (wsV RX6 34 RX6 yX6_takeBack wsX6_takeBack) := goodIn_app (goodIn_of _ (by decide +kernel)) ggX6_become_X6_takeBack
theorem dX6_become_0 : decode cX6_become 0 = .ok (.aload_n 0, 1) := by decide +kernel
theorem dX6_become_1 : decode cX6_become 1 = .ok (.iload_n 1, 1) := by decide +kernel
theorem dX6_become_2 : decode cX6_become 2 = .ok (.iload_n 2, 1) := by decide +kernel
theorem dX6_become_3 : decode cX6_become 3 = .ok (.invokestatic 25, 3) := by decide +kernel
theorem dX6_become_6 : decode cX6_become 6 = .ok (.putfield 7, 3) := by decide +kernel
theorem dX6_become_9 : decode cX6_become 9 = .ok (.aload_n 0, 1) := by decide +kernel
theorem dX6_become_10 : decode cX6_become 10 = .ok (.iload_n 1, 1) := by decide +kernel
theorem dX6_become_11 : decode cX6_become 11 = .ok (.iload_n 2, 1) := by decide +kernel
theorem dX6_become_12 : decode cX6_become 12 = .ok (.invokestatic 31, 3) := by decide +kernel
theorem dX6_become_15 : decode cX6_become 15 = .ok (.putfield 13, 3) := by decide +kernel
theorem dX6_become_18 : decode cX6_become 18 = .ok (.aload_n 0, 1) := by decide +kernel
theorem dX6_become_19 : decode cX6_become 19 = .ok (.invokevirtual 34, 3) := by decide +kernel
theorem dX6_become_22 : decode cX6_become 22 = .ok (.pop, 1) := by decide +kernel
theorem dX6_become_23 : decode cX6_become 23 = .ok (.return_, 1) := by decide +kernel
theorem dX6_greater_0 : decode cX6_greater 0 = .ok (.aload_n 0, 1) := by decide +kernel
theorem dX6_greater_1 : decode cX6_greater 1 = .ok (.getfield 7, 3) := by decide +kernel
theorem dX6_greater_4 : decode cX6_greater 4 = .ok (.ireturn, 1) := by decide +kernel
theorem dX6_lesser_0 : decode cX6_lesser 0 = .ok (.aload_n 0, 1) := by decide +kernel
theorem dX6_lesser_1 : decode cX6_lesser 1 = .ok (.getfield 13, 3) := by decide +kernel
theorem dX6_lesser_4 : decode cX6_lesser 4 = .ok (.ireturn, 1) := by decide +kernel
theorem dX6_asNumber_0 : decode cX6_asNumber 0 = .ok (.bipush 10, 2) := by decide +kernel
theorem dX6_asNumber_2 : decode cX6_asNumber 2 = .ok (.aload_n 0, 1) := by decide +kernel
theorem dX6_asNumber_3 : decode cX6_asNumber 3 = .ok (.getfield 7, 3) := by decide +kernel
theorem dX6_asNumber_6 : decode cX6_asNumber 6 = .ok (.imul, 1) := by decide +kernel
theorem dX6_asNumber_7 : decode cX6_asNumber 7 = .ok (.aload_n 0, 1) := by decide +kernel
theorem dX6_asNumber_8 : decode cX6_asNumber 8 = .ok (.getfield 13, 3) := by decide +kernel
theorem dX6_asNumber_11 : decode cX6_asNumber 11 = .ok (.iadd, 1) := by decide +kernel
theorem dX6_asNumber_12 : decode cX6_asNumber 12 = .ok (.ireturn, 1) := by decide +kernel
theorem dX6_isLeft_0 : decode cX6_isLeft 0 = .ok (.iload_n 1, 1) := by decide +kernel
theorem dX6_isLeft_1 : decode cX6_isLeft 1 = .ok (.aload_n 0, 1) := by decide +kernel
theorem dX6_isLeft_2 : decode cX6_isLeft 2 = .ok (.getfield 7, 3) := by decide +kernel
theorem dX6_isLeft_5 : decode cX6_isLeft 5 = .ok (.if_icmp .ne 10, 3) := by decide +kernel
theorem dX6_isLeft_8 : decode cX6_isLeft 8 = .ok (.aload_n 0, 1) := by decide +kernel
theorem dX6_isLeft_9 : decode cX6_isLeft 9 = .ok (.getfield 16, 3) := by decide +kernel
theorem dX6_isLeft_12 : decode cX6_isLeft 12 = .ok (.ifCond .gt 18, 3) := by decide +kernel
theorem dX6_isLeft_15 : decode cX6_isLeft 15 = .ok (.iload_n 1, 1) := by decide +kernel
theorem dX6_isLeft_16 : decode cX6_isLeft 16 = .ok (.aload_n 0, 1) := by decide +kernel
theorem dX6_isLeft_17 : decode cX6_isLeft 17 = .ok (.getfield 13, 3) := by decide +kernel
theorem dX6_isLeft_20 : decode cX6_isLeft 20 = .ok (.if_icmp .ne 14, 3) := by decide +kernel
theorem dX6_isLeft_23 : decode cX6_isLeft 23 = .ok (.aload_n 0, 1) := by decide +kernel
theorem dX6_isLeft_24 : decode cX6_isLeft 24 = .ok (.getfield 19, 3) := by decide +kernel
theorem dX6_isLeft_27 : decode cX6_isLeft 27 = .ok (.ifCond .le 7, 3) := by decide +kernel
theorem dX6_isLeft_30 : decode cX6_isLeft 30 = .ok (.iconst 1, 1) := by decide +kernel
theorem dX6_isLeft_31 : decode cX6_isLeft 31 = .ok (.goto 4, 3) := by decide +kernel
theorem dX6_isLeft_34 : decode cX6_isLeft 34 = .ok (.iconst 0, 1) := by decide +kernel
theorem dX6_isLeft_35 : decode cX6_isLeft 35 = .ok (.ireturn, 1) := by decide +kernel
theorem dX6_use_0 : decode cX6_use 0 = .ok (.iload_n 1, 1) := by decide +kernel
theorem dX6_use_1 : decode cX6_use 1 = .ok (.aload_n 0, 1) := by decide +kernel
theorem dX6_use_2 : decode cX6_use 2 = .ok (.getfield 7, 3) := by decide +kernel
theorem dX6_use_5 : decode cX6_use 5 = .ok (.if_icmp .ne 16, 3) := by decide +kernel
theorem dX6_use_8 : decode cX6_use 8 = .ok (.aload_n 0, 1) := by decide +kernel
theorem dX6_use_9 : decode cX6_use 9 = .ok (.dup, 1) := by decide +kernel
theorem dX6_use_10 : decode cX6_use 10 = .ok (.getfield 16, 3) := by decide +kernel
theorem dX6_use_13 : decode cX6_use 13 = .ok (.iconst 1, 1) := by decide +kernel
theorem dX6_use_14 : decode cX6_use 14 = .ok (.isub, 1) := by decide +kernel
theorem dX6_use_15 : decode cX6_use 15 = .ok (.putfield 16, 3) := by decide +kernel
theorem dX6_use_18 : decode cX6_use 18 = .ok (.goto 13, 3) := by decide +kernel
theorem dX6_use_21 : decode cX6_use 21 = .ok (.aload_n 0, 1) := by decide +kernel
theorem dX6_use_22 : decode cX6_use 22 = .ok (.dup, 1) := by decide +kernel
theorem dX6_use_23 : decode cX6_use 23 = .ok (.getfield 19, 3) := by decide +kernel
theorem dX6_use_26 : decode cX6_use 26 = .ok (.iconst 1, 1) := by decide +kernel
theorem dX6_use_27 : decode cX6_use 27 = .ok (.isub, 1) := by decide +kernel
theorem dX6_use_28 : decode cX6_use 28 = .ok (.putfield 19, 3) := by decide +kernel
theorem dX6_use_31 : decode cX6_use 31 = .ok (.aload_n 0, 1) := by decide +kernel
theorem dX6_use_32 : decode cX6_use 32 = .ok (.dup, 1) := by decide +kernel
theorem dX6_use_33 : decode cX6_use 33 = .ok (.getfield 22, 3) := by decide +kernel
theorem dX6_use_36 : decode cX6_use 36 = .ok (.iconst 1, 1) := by decide +kernel
theorem dX6_use_37 : decode cX6_use 37 = .ok (.iadd, 1) := by decide +kernel
theorem dX6_use_38 : decode cX6_use 38 = .ok (.putfield 22, 3) := by decide +kernel
theorem dX6_use_41 : decode cX6_use 41 = .ok (.return_, 1) := by decide +kernel
theorem dX6_takeBack_0 : decode cX6_takeBack 0 = .ok (.aload_n 0, 1) := by decide +kernel
theorem dX6_takeBack_1 : decode cX6_takeBack 1 = .ok (.getfield 22, 3) := by decide +kernel
theorem dX6_takeBack_4 : decode cX6_takeBack 4 = .ok (.istore_n 1, 1) := by decide +kernel
theorem dX6_takeBack_5 : decode cX6_takeBack 5 = .ok (.aload_n 0, 1) := by decide +kernel
theorem dX6_takeBack_6 : decode cX6_takeBack 6 = .ok (.aload_n 0, 1) := by decide +kernel
theorem dX6_takeBack_7 : decode cX6_takeBack 7 = .ok (.getfield 7, 3) := by decide +kernel
theorem dX6_takeBack_10 : decode cX6_takeBack 10 = .ok (.aload_n 0, 1) := by decide +kernel
theorem dX6_takeBack_11 : decode cX6_takeBack 11 = .ok (.getfield 13, 3) := by decide +kernel
theorem dX6_takeBack_14 : decode cX6_takeBack 14 = .ok (.if_icmp .ne 7, 3) := by decide +kernel
theorem dX6_takeBack_17 : decode cX6_takeBack 17 = .ok (.iconst 4, 1) := by decide +kernel
theorem dX6_takeBack_18 : decode cX6_takeBack 18 = .ok (.goto 4, 3) := by decide +kernel
theorem dX6_takeBack_21 : decode cX6_takeBack 21 = .ok (.iconst 1, 1) := by decide +kernel
theorem dX6_takeBack_22 : decode cX6_takeBack 22 = .ok (.putfield 16, 3) := by decide +kernel
theorem dX6_takeBack_25 : decode cX6_takeBack 25 = .ok (.aload_n 0, 1) := by decide +kernel
theorem dX6_takeBack_26 : decode cX6_takeBack 26 = .ok (.aload_n 0, 1) := by decide +kernel
theorem dX6_takeBack_27 : decode cX6_takeBack 27 = .ok (.getfield 7, 3) := by decide +kernel
theorem dX6_takeBack_30 : decode cX6_takeBack 30 = .ok (.aload_n 0, 1) := by decide +kernel
theorem dX6_takeBack_31 : decode cX6_takeBack 31 = .ok (.getfield 13, 3) := by decide +kernel
theorem dX6_takeBack_34 : decode cX6_takeBack 34 = .ok (.if_icmp .ne 7, 3) := by decide +kernel
theorem dX6_takeBack_37 : decode cX6_takeBack 37 = .ok (.iconst 0, 1) := by decide +kernel
theorem dX6_takeBack_38 : decode cX6_takeBack 38 = .ok (.goto 4, 3) := by decide +kernel
theorem dX6_takeBack_41 : decode cX6_takeBack 41 = .ok (.iconst 1, 1) := by decide +kernel
theorem dX6_takeBack_42 : decode cX6_takeBack 42 = .ok (.putfield 19, 3) := by decide +kernel
theorem dX6_takeBack_45 : decode cX6_takeBack 45 = .ok (.aload_n 0, 1) := by decide +kernel
theorem dX6_takeBack_46 : decode cX6_takeBack 46 = .ok (.iconst 0, 1) := by decide +kernel
theorem dX6_takeBack_47 : decode cX6_takeBack 47 = .ok (.putfield 22, 3) := by decide +kernel
theorem dX6_takeBack_50 : decode cX6_takeBack 50 = .ok (.iload_n 1, 1) := by decide +kernel
theorem dX6_takeBack_51 : decode cX6_takeBack 51 = .ok (.ireturn, 1) := by decide +kernel
theorem dX7_init_0 : decode cX7_init 0 = .ok (.aload_n 0, 1) := by decide +kernel
theorem dX7_init_1 : decode cX7_init 1 = .ok (.invokespecial 1, 3) := by decide +kernel
theorem dX7_init_4 : decode cX7_init 4 = .ok (.aload_n 0, 1) := by decide +kernel
theorem dX7_init_5 : decode cX7_init 5 = .ok (.bipush 6, 2) := by decide +kernel
theorem dX7_init_7 : decode cX7_init 7 = .ok (.newarray .int, 2) := by decide +kernel
theorem dX7_init_9 : decode cX7_init 9 = .ok (.putfield 9, 3) := by decide +kernel
theorem dX7_init_12 : decode cX7_init 12 = .ok (.aload_n 0, 1) := by decide +kernel
theorem dX7_init_13 : decode cX7_init 13 = .ok (.bipush 6, 2) := by decide +kernel
theorem dX7_init_15 : decode cX7_init 15 = .ok (.newarray .long, 2) := by decide +kernel
theorem dX7_init_17 : decode cX7_init 17 = .ok (.putfield 13, 3) := by decide +kernel
theorem dX7_init_20 : decode cX7_init 20 = .ok (.aload_n 0, 1) := by decide +kernel
theorem dX7_init_21 : decode cX7_init 21 = .ok (.iconst 0, 1) := by decide +kernel
theorem dX7_init_22 : decode cX7_init 22 = .ok (.putfield 17, 3) := by decide +kernel
theorem dX7_init_25 : decode cX7_init 25 = .ok (.return_, 1) := by decide +kernel
theorem dX7_size_0 : decode cX7_size 0 = .ok (.aload_n 0, 1) := by decide +kernel
theorem dX7_size_1 : decode cX7_size 1 = .ok (.getfield 17, 3) := by decide +kernel
theorem dX7_size_4 : decode cX7_size 4 = .ok (.ireturn, 1) := by decide +kernel
theorem dX7_invite_0 : decode cX7_invite 0 = .ok (.aload_n 0, 1) := by decide +kernel
theorem dX7_invite_1 : decode cX7_invite 1 = .ok (.iload_n 1, 1) := by decide +kernel
theorem dX7_invite_2 : decode cX7_invite 2 = .ok (.iconst 0, 1) := by decide +kernel
theorem dX7_invite_3 : decode cX7_invite 3 = .ok (.invokestatic 21, 3) := by decide +kernel
theorem dX7_invite_6 : decode cX7_invite 6 = .ok (.bipush 6, 2) := by decide +kernel
theorem dX7_invite_8 : decode cX7_invite 8 = .ok (.invokestatic 27, 3) := by decide +kernel
theorem dX7_invite_11 : decode cX7_invite 11 = .ok (.putfield 17, 3) := by decide +kernel
theorem dX7_invite_14 : decode cX7_invite 14 = .ok (.iconst 0, 1) := by decide +kernel
theorem dX7_invite_15 : decode cX7_invite 15 = .ok (.istore_n 2, 1) := by decide +kernel
theorem dX7_invite_16 : decode cX7_invite 16 = .ok (.iload_n 2, 1) := by decide +kernel
theorem dX7_invite_17 : decode cX7_invite 17 = .ok (.bipush 6, 2) := by decide +kernel
theorem dX7_invite_19 : decode cX7_invite 19 = .ok (.if_icmp .ge 23, 3) := by decide +kernel
theorem dX7_invite_22 : decode cX7_invite 22 = .ok (.aload_n 0, 1) := by decide +kernel
theorem dX7_invite_23 : decode cX7_invite 23 = .ok (.getfield 9, 3) := by decide +kernel
theorem dX7_invite_26 : decode cX7_invite 26 = .ok (.iload_n 2, 1) := by decide +kernel
theorem dX7_invite_27 : decode cX7_invite 27 = .ok (.iload_n 2, 1) := by decide +kernel
theorem dX7_invite_28 : decode cX7_invite 28 = .ok (.iastore, 1) := by decide +kernel
theorem dX7_invite_29 : decode cX7_invite 29 = .ok (.aload_n 0, 1) := by decide +kernel
theorem dX7_invite_30 : decode cX7_invite 30 = .ok (.getfield 13, 3) := by decide +kernel
theorem dX7_invite_33 : decode cX7_invite 33 = .ok (.iload_n 2, 1) := by decide +kernel
theorem dX7_invite_34 : decode cX7_invite 34 = .ok (.lconst 0, 1) := by decide +kernel
theorem dX7_invite_35 : decode cX7_invite 35 = .ok (.lastore, 1) := by decide +kernel
theorem dX7_invite_36 : decode cX7_invite 36 = .ok (.iinc 2 1, 3) := by decide +kernel
theorem dX7_invite_39 : decode cX7_invite 39 = .ok (.goto (-23), 3) := by decide +kernel
theorem dX7_invite_42 : decode cX7_invite 42 = .ok (.return_, 1) := by decide +kernel
theorem dX7_playerAt_0 : decode cX7_playerAt 0 = .ok (.iload_n 1, 1) := by decide +kernel
theorem dX7_playerAt_1 : decode cX7_playerAt 1 = .ok (.ifCond .lt 18, 3) := by decide +kernel
theorem dX7_playerAt_4 : decode cX7_playerAt 4 = .ok (.iload_n 1, 1) := by decide +kernel
theorem dX7_playerAt_5 : decode cX7_playerAt 5 = .ok (.bipush 6, 2) := by decide +kernel
theorem dX7_playerAt_7 : decode cX7_playerAt 7 = .ok (.if_icmp .ge 12, 3) := by decide +kernel
theorem dX7_playerAt_10 : decode cX7_playerAt 10 = .ok (.aload_n 0, 1) := by decide +kernel
theorem dX7_playerAt_11 : decode cX7_playerAt 11 = .ok (.getfield 9, 3) := by decide +kernel
theorem dX7_playerAt_14 : decode cX7_playerAt 14 = .ok (.iload_n 1, 1) := by decide +kernel
theorem dX7_playerAt_15 : decode cX7_playerAt 15 = .ok (.iaload, 1) := by decide +kernel
theorem dX7_playerAt_16 : decode cX7_playerAt 16 = .ok (.goto 4, 3) := by decide +kernel
theorem dX7_playerAt_19 : decode cX7_playerAt 19 = .ok (.iconst 0, 1) := by decide +kernel
theorem dX7_playerAt_20 : decode cX7_playerAt 20 = .ok (.ireturn, 1) := by decide +kernel
theorem dX7_balanceOf_0 : decode cX7_balanceOf 0 = .ok (.iload_n 1, 1) := by decide +kernel
theorem dX7_balanceOf_1 : decode cX7_balanceOf 1 = .ok (.ifCond .lt 18, 3) := by decide +kernel
theorem dX7_balanceOf_4 : decode cX7_balanceOf 4 = .ok (.iload_n 1, 1) := by decide +kernel
theorem dX7_balanceOf_5 : decode cX7_balanceOf 5 = .ok (.bipush 6, 2) := by decide +kernel
theorem dX7_balanceOf_7 : decode cX7_balanceOf 7 = .ok (.if_icmp .ge 12, 3) := by decide +kernel
theorem dX7_balanceOf_10 : decode cX7_balanceOf 10 = .ok (.aload_n 0, 1) := by decide +kernel
theorem dX7_balanceOf_11 : decode cX7_balanceOf 11 = .ok (.getfield 13, 3) := by decide +kernel
theorem dX7_balanceOf_14 : decode cX7_balanceOf 14 = .ok (.iload_n 1, 1) := by decide +kernel
theorem dX7_balanceOf_15 : decode cX7_balanceOf 15 = .ok (.laload, 1) := by decide +kernel
theorem dX7_balanceOf_16 : decode cX7_balanceOf 16 = .ok (.goto 4, 3) := by decide +kernel
theorem dX7_balanceOf_19 : decode cX7_balanceOf 19 = .ok (.lconst 0, 1) := by decide +kernel
theorem dX7_balanceOf_20 : decode cX7_balanceOf 20 = .ok (.lreturn, 1) := by decide +kernel
theorem dX7_sum_0 : decode cX7_sum 0 = .ok (.lconst 0, 1) := by decide +kernel
theorem dX7_sum_1 : decode cX7_sum 1 = .ok (.lstore_n 1, 1) := by decide +kernel
theorem dX7_sum_2 : decode cX7_sum 2 = .ok (.iconst 0, 1) := by decide +kernel
theorem dX7_sum_3 : decode cX7_sum 3 = .ok (.istore_n 3, 1) := by decide +kernel
theorem dX7_sum_4 : decode cX7_sum 4 = .ok (.iload_n 3, 1) := by decide +kernel
theorem dX7_sum_5 : decode cX7_sum 5 = .ok (.bipush 6, 2) := by decide +kernel
theorem dX7_sum_7 : decode cX7_sum 7 = .ok (.if_icmp .ge 18, 3) := by decide +kernel
theorem dX7_sum_10 : decode cX7_sum 10 = .ok (.lload_n 1, 1) := by decide +kernel
theorem dX7_sum_11 : decode cX7_sum 11 = .ok (.aload_n 0, 1) := by decide +kernel
theorem dX7_sum_12 : decode cX7_sum 12 = .ok (.getfield 13, 3) := by decide +kernel
theorem dX7_sum_15 : decode cX7_sum 15 = .ok (.iload_n 3, 1) := by decide +kernel
theorem dX7_sum_16 : decode cX7_sum 16 = .ok (.laload, 1) := by decide +kernel
theorem dX7_sum_17 : decode cX7_sum 17 = .ok (.ladd, 1) := by decide +kernel
theorem dX7_sum_18 : decode cX7_sum 18 = .ok (.lstore_n 1, 1) := by decide +kernel
theorem dX7_sum_19 : decode cX7_sum 19 = .ok (.iinc 3 1, 3) := by decide +kernel
theorem dX7_sum_22 : decode cX7_sum 22 = .ok (.goto (-18), 3) := by decide +kernel
theorem dX7_sum_25 : decode cX7_sum 25 = .ok (.lload_n 1, 1) := by decide +kernel
theorem dX7_sum_26 : decode cX7_sum 26 = .ok (.lreturn, 1) := by decide +kernel
set_option maxRecDepth 20000 in
theorem ggX7_settle_X7_playerAt : GoodIn wsX7_settle wsX7_playerAt := goodIn_r _ [6, 7, 17, 18, 19] (by decide +kernel) (by decide +kernel)
set_option maxRecDepth 20000 in
theorem gX7_settle_X7_playerAt : GoodIn wsX7_settle (wsV RX7 30 RX7 yX7_playerAt wsX7_playerAt) := goodIn_app (goodIn_of _ (by decide +kernel)) ggX7_settle_X7_playerAt
set_option maxRecDepth 20000 in
theorem ggX7_settle_X7_pay : GoodIn wsX7_settle wsX7_pay := goodIn_r _ [11, 12, 17, 18, 19] (by decide +kernel) (by decide +kernel)
set_option maxRecDepth 20000 in
theorem gX7_settle_X7_pay : GoodIn wsX7_settle (wsV RX7 34 RX7 yX7_pay wsX7_pay) := goodIn_app (goodIn_of _ (by decide +kernel)) ggX7_settle_X7_pay
set_option maxRecDepth 20000 in
theorem ggX7_settle_X7_moveUp : GoodIn wsX7_settle wsX7_moveUp := goodIn_r _ [16, 1, 7, 2, 3, 4, 5, 6, 17, 18, 19] (by decide +kernel) (by decide +kernel)
set_option maxRecDepth 20000 in
theorem gX7_settle_X7_moveUp : GoodIn wsX7_settle (wsV RX7 38 RX7 yX7_moveUp wsX7_moveUp) := goodIn_app (goodIn_of _ (by decide +kernel)) ggX7_settle_X7_moveUp
theorem dX7_settle_0 : decode cX7_settle 0 = .ok (.aload_n 0, 1) := by decide +kernel
theorem dX7_settle_1 : decode cX7_settle 1 = .ok (.getfield 17, 3) := by decide +kernel
theorem dX7_settle_4 : decode cX7_settle 4 = .ok (.iconst 3, 1) := by decide +kernel
theorem dX7_settle_5 : decode cX7_settle 5 = .ok (.if_icmp .ge 4, 3) := by decide +kernel
theorem dX7_settle_8 : decode cX7_settle 8 = .ok (.return_, 1) := by decide +kernel
theorem dX7_settle_9 : decode cX7_settle 9 = .ok (.iload_n 1, 1) := by decide +kernel
theorem dX7_settle_10 : decode cX7_settle 10 = .ok (.ifCond .eq 8, 3) := by decide +kernel
theorem dX7_settle_13 : decode cX7_settle 13 = .ok (.iload_n 2, 1) := by decide +kernel
theorem dX7_settle_14 : decode cX7_settle 14 = .ok (.i2l, 1) := by decide +kernel
theorem dX7_settle_15 : decode cX7_settle 15 = .ok (.goto 6, 3) := by decide +kernel
theorem dX7_settle_18 : decode cX7_settle 18 = .ok (.iload_n 2, 1) := by decide +kernel
theorem dX7_settle_19 : decode cX7_settle 19 = .ok (.ineg, 1) := by decide +kernel
theorem dX7_settle_20 : decode cX7_settle 20 = .ok (.i2l, 1) := by decide +kernel
theorem dX7_settle_21 : decode cX7_settle 21 = .ok (.lstore_n 3, 1) := by decide +kernel
theorem dX7_settle_22 : decode cX7_settle 22 = .ok (.iconst 1, 1) := by decide +kernel
theorem dX7_settle_23 : decode cX7_settle 23 = .ok (.istore 5, 2) := by decide +kernel
theorem dX7_settle_25 : decode cX7_settle 25 = .ok (.iload 5, 2) := by decide +kernel
theorem dX7_settle_27 : decode cX7_settle 27 = .ok (.aload_n 0, 1) := by decide +kernel
theorem dX7_settle_28 : decode cX7_settle 28 = .ok (.getfield 17, 3) := by decide +kernel
theorem dX7_settle_31 : decode cX7_settle 31 = .ok (.if_icmp .ge 25, 3) := by decide +kernel
theorem dX7_settle_34 : decode cX7_settle 34 = .ok (.aload_n 0, 1) := by decide +kernel
theorem dX7_settle_35 : decode cX7_settle 35 = .ok (.aload_n 0, 1) := by decide +kernel
theorem dX7_settle_36 : decode cX7_settle 36 = .ok (.iload 5, 2) := by decide +kernel
theorem dX7_settle_38 : decode cX7_settle 38 = .ok (.invokevirtual 30, 3) := by decide +kernel
theorem dX7_settle_41 : decode cX7_settle 41 = .ok (.aload_n 0, 1) := by decide +kernel
theorem dX7_settle_42 : decode cX7_settle 42 = .ok (.iconst 0, 1) := by decide +kernel
theorem dX7_settle_43 : decode cX7_settle 43 = .ok (.invokevirtual 30, 3) := by decide +kernel
theorem dX7_settle_46 : decode cX7_settle 46 = .ok (.lload_n 3, 1) := by decide +kernel
theorem dX7_settle_47 : decode cX7_settle 47 = .ok (.invokevirtual 34, 3) := by decide +kernel
theorem dX7_settle_50 : decode cX7_settle 50 = .ok (.iinc 5 1, 3) := by decide +kernel
theorem dX7_settle_53 : decode cX7_settle 53 = .ok (.goto (-28), 3) := by decide +kernel
theorem dX7_settle_56 : decode cX7_settle 56 = .ok (.aload_n 0, 1) := by decide +kernel
theorem dX7_settle_57 : decode cX7_settle 57 = .ok (.iload_n 1, 1) := by decide +kernel
theorem dX7_settle_58 : decode cX7_settle 58 = .ok (.ifCond .eq 7, 3) := by decide +kernel
theorem dX7_settle_61 : decode cX7_settle 61 = .ok (.iconst 1, 1) := by decide +kernel
theorem dX7_settle_62 : decode cX7_settle 62 = .ok (.goto 4, 3) := by decide +kernel
theorem dX7_settle_65 : decode cX7_settle 65 = .ok (.iconst 0, 1) := by decide +kernel
theorem dX7_settle_66 : decode cX7_settle 66 = .ok (.invokevirtual 38, 3) := by decide +kernel
theorem dX7_settle_69 : decode cX7_settle 69 = .ok (.return_, 1) := by decide +kernel
theorem dX7_pay_0 : decode cX7_pay 0 = .ok (.iload_n 1, 1) := by decide +kernel
theorem dX7_pay_1 : decode cX7_pay 1 = .ok (.ifCond .lt 39, 3) := by decide +kernel
theorem dX7_pay_4 : decode cX7_pay 4 = .ok (.iload_n 1, 1) := by decide +kernel
theorem dX7_pay_5 : decode cX7_pay 5 = .ok (.bipush 6, 2) := by decide +kernel
theorem dX7_pay_7 : decode cX7_pay 7 = .ok (.if_icmp .ge 33, 3) := by decide +kernel
theorem dX7_pay_10 : decode cX7_pay 10 = .ok (.iload_n 2, 1) := by decide +kernel
theorem dX7_pay_11 : decode cX7_pay 11 = .ok (.ifCond .lt 29, 3) := by decide +kernel
theorem dX7_pay_14 : decode cX7_pay 14 = .ok (.iload_n 2, 1) := by decide +kernel
theorem dX7_pay_15 : decode cX7_pay 15 = .ok (.bipush 6, 2) := by decide +kernel
theorem dX7_pay_17 : decode cX7_pay 17 = .ok (.if_icmp .ge 23, 3) := by decide +kernel
theorem dX7_pay_20 : decode cX7_pay 20 = .ok (.aload_n 0, 1) := by decide +kernel
theorem dX7_pay_21 : decode cX7_pay 21 = .ok (.getfield 13, 3) := by decide +kernel
theorem dX7_pay_24 : decode cX7_pay 24 = .ok (.iload_n 1, 1) := by decide +kernel
theorem dX7_pay_25 : decode cX7_pay 25 = .ok (.dup2, 1) := by decide +kernel
theorem dX7_pay_26 : decode cX7_pay 26 = .ok (.laload, 1) := by decide +kernel
theorem dX7_pay_27 : decode cX7_pay 27 = .ok (.lload_n 3, 1) := by decide +kernel
theorem dX7_pay_28 : decode cX7_pay 28 = .ok (.lsub, 1) := by decide +kernel
theorem dX7_pay_29 : decode cX7_pay 29 = .ok (.lastore, 1) := by decide +kernel
theorem dX7_pay_30 : decode cX7_pay 30 = .ok (.aload_n 0, 1) := by decide +kernel
theorem dX7_pay_31 : decode cX7_pay 31 = .ok (.getfield 13, 3) := by decide +kernel
theorem dX7_pay_34 : decode cX7_pay 34 = .ok (.iload_n 2, 1) := by decide +kernel
theorem dX7_pay_35 : decode cX7_pay 35 = .ok (.dup2, 1) := by decide +kernel
theorem dX7_pay_36 : decode cX7_pay 36 = .ok (.laload, 1) := by decide +kernel
theorem dX7_pay_37 : decode cX7_pay 37 = .ok (.lload_n 3, 1) := by decide +kernel
theorem dX7_pay_38 : decode cX7_pay 38 = .ok (.ladd, 1) := by decide +kernel
theorem dX7_pay_39 : decode cX7_pay 39 = .ok (.lastore, 1) := by decide +kernel
theorem dX7_pay_40 : decode cX7_pay 40 = .ok (.return_, 1) := by decide +kernel
set_option maxRecDepth 20000 in
theorem ggX7_moveUp_X7_playerAt : GoodIn wsX7_moveUp wsX7_playerAt := goodIn_r _ [7, 2, 8, 9, 10] (by decide +kernel) (by decide +kernel)
set_option maxRecDepth 20000 in
theorem gX7_moveUp_X7_playerAt : GoodIn wsX7_moveUp (wsV RX7 30 RX7 yX7_playerAt wsX7_playerAt) := goodIn_app (goodIn_of _ (by decide +kernel)) ggX7_moveUp_X7_playerAt
