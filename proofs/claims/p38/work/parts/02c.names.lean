theorem dX3_init_0 : decode cX3_init 0 = .ok (.aload_n 0, 1) := by decide +kernel
theorem dX3_init_1 : decode cX3_init 1 = .ok (.invokespecial 1, 3) := by decide +kernel
theorem dX3_init_4 : decode cX3_init 4 = .ok (.aload_n 0, 1) := by decide +kernel
theorem dX3_init_5 : decode cX3_init 5 = .ok (.bipush 6, 2) := by decide +kernel
theorem dX3_init_7 : decode cX3_init 7 = .ok (.newarray .int, 2) := by decide +kernel
theorem dX3_init_9 : decode cX3_init 9 = .ok (.putfield 7, 3) := by decide +kernel
theorem dX3_init_12 : decode cX3_init 12 = .ok (.aload_n 0, 1) := by decide +kernel
theorem dX3_init_13 : decode cX3_init 13 = .ok (.iconst 0, 1) := by decide +kernel
theorem dX3_init_14 : decode cX3_init 14 = .ok (.anewarray 13, 3) := by decide +kernel
theorem dX3_init_17 : decode cX3_init 17 = .ok (.putfield 14, 3) := by decide +kernel
theorem dX3_init_20 : decode cX3_init 20 = .ok (.return_, 1) := by decide +kernel
theorem dX3_with_0 : decode cX3_with 0 = .ok (.aload_n 0, 1) := by decide +kernel
theorem dX3_with_1 : decode cX3_with 1 = .ok (.arraylength, 1) := by decide +kernel
theorem dX3_with_2 : decode cX3_with 2 = .ok (.iconst 1, 1) := by decide +kernel
theorem dX3_with_3 : decode cX3_with 3 = .ok (.iadd, 1) := by decide +kernel
theorem dX3_with_4 : decode cX3_with 4 = .ok (.anewarray 13, 3) := by decide +kernel
theorem dX3_with_7 : decode cX3_with 7 = .ok (.astore_n 2, 1) := by decide +kernel
theorem dX3_with_8 : decode cX3_with 8 = .ok (.iconst 0, 1) := by decide +kernel
theorem dX3_with_9 : decode cX3_with 9 = .ok (.istore_n 3, 1) := by decide +kernel
theorem dX3_with_10 : decode cX3_with 10 = .ok (.iload_n 3, 1) := by decide +kernel
theorem dX3_with_11 : decode cX3_with 11 = .ok (.aload_n 0, 1) := by decide +kernel
theorem dX3_with_12 : decode cX3_with 12 = .ok (.arraylength, 1) := by decide +kernel
theorem dX3_with_13 : decode cX3_with 13 = .ok (.if_icmp .ge 15, 3) := by decide +kernel
theorem dX3_with_16 : decode cX3_with 16 = .ok (.aload_n 2, 1) := by decide +kernel
theorem dX3_with_17 : decode cX3_with 17 = .ok (.iload_n 3, 1) := by decide +kernel
theorem dX3_with_18 : decode cX3_with 18 = .ok (.aload_n 0, 1) := by decide +kernel
theorem dX3_with_19 : decode cX3_with 19 = .ok (.iload_n 3, 1) := by decide +kernel
theorem dX3_with_20 : decode cX3_with 20 = .ok (.aaload, 1) := by decide +kernel
theorem dX3_with_21 : decode cX3_with 21 = .ok (.aastore, 1) := by decide +kernel
theorem dX3_with_22 : decode cX3_with 22 = .ok (.iinc 3 1, 3) := by decide +kernel
theorem dX3_with_25 : decode cX3_with 25 = .ok (.goto (-15), 3) := by decide +kernel
theorem dX3_with_28 : decode cX3_with 28 = .ok (.aload_n 2, 1) := by decide +kernel
theorem dX3_with_29 : decode cX3_with 29 = .ok (.aload_n 0, 1) := by decide +kernel
theorem dX3_with_30 : decode cX3_with 30 = .ok (.arraylength, 1) := by decide +kernel
theorem dX3_with_31 : decode cX3_with 31 = .ok (.aload_n 1, 1) := by decide +kernel
theorem dX3_with_32 : decode cX3_with 32 = .ok (.aastore, 1) := by decide +kernel
theorem dX3_with_33 : decode cX3_with 33 = .ok (.aload_n 2, 1) := by decide +kernel
theorem dX3_with_34 : decode cX3_with 34 = .ok (.areturn, 1) := by decide +kernel
theorem dX3_at_0 : decode cX3_at 0 = .ok (.aload_n 1, 1) := by decide +kernel
theorem dX3_at_1 : decode cX3_at 1 = .ok (.iload_n 2, 1) := by decide +kernel
theorem dX3_at_2 : decode cX3_at 2 = .ok (.aload_n 1, 1) := by decide +kernel
theorem dX3_at_3 : decode cX3_at 3 = .ok (.arraylength, 1) := by decide +kernel
theorem dX3_at_4 : decode cX3_at 4 = .ok (.irem, 1) := by decide +kernel
theorem dX3_at_5 : decode cX3_at 5 = .ok (.aload_n 1, 1) := by decide +kernel
theorem dX3_at_6 : decode cX3_at 6 = .ok (.arraylength, 1) := by decide +kernel
theorem dX3_at_7 : decode cX3_at 7 = .ok (.iadd, 1) := by decide +kernel
theorem dX3_at_8 : decode cX3_at 8 = .ok (.aload_n 1, 1) := by decide +kernel
theorem dX3_at_9 : decode cX3_at 9 = .ok (.arraylength, 1) := by decide +kernel
theorem dX3_at_10 : decode cX3_at 10 = .ok (.irem, 1) := by decide +kernel
theorem dX3_at_11 : decode cX3_at 11 = .ok (.iaload, 1) := by decide +kernel
theorem dX3_at_12 : decode cX3_at 12 = .ok (.ireturn, 1) := by decide +kernel
set_option maxRecDepth 20000 in
theorem ggX3_bend_X3_at : GoodIn wsX3_bend wsX3_at := goodIn_r _ [5] (by decide +kernel) (by decide +kernel)
set_option maxRecDepth 20000 in
theorem gX3_bend_X3_at : GoodIn wsX3_bend (wsV RX3 18 RX3 yX3_at wsX3_at) := goodIn_app (goodIn_of _ (by decide +kernel)) ggX3_bend_X3_at
theorem dX3_bend_0 : decode cX3_bend 0 = .ok (.iconst 2, 1) := by decide +kernel
theorem dX3_bend_1 : decode cX3_bend 1 = .ok (.aload_n 1, 1) := by decide +kernel
theorem dX3_bend_2 : decode cX3_bend 2 = .ok (.iload_n 2, 1) := by decide +kernel
theorem dX3_bend_3 : decode cX3_bend 3 = .ok (.iaload, 1) := by decide +kernel
theorem dX3_bend_4 : decode cX3_bend 4 = .ok (.imul, 1) := by decide +kernel
theorem dX3_bend_5 : decode cX3_bend 5 = .ok (.aload_n 0, 1) := by decide +kernel
theorem dX3_bend_6 : decode cX3_bend 6 = .ok (.aload_n 1, 1) := by decide +kernel
theorem dX3_bend_7 : decode cX3_bend 7 = .ok (.iload_n 2, 1) := by decide +kernel
theorem dX3_bend_8 : decode cX3_bend 8 = .ok (.iconst 1, 1) := by decide +kernel
theorem dX3_bend_9 : decode cX3_bend 9 = .ok (.iadd, 1) := by decide +kernel
theorem dX3_bend_10 : decode cX3_bend 10 = .ok (.invokevirtual 18, 3) := by decide +kernel
theorem dX3_bend_13 : decode cX3_bend 13 = .ok (.isub, 1) := by decide +kernel
theorem dX3_bend_14 : decode cX3_bend 14 = .ok (.aload_n 0, 1) := by decide +kernel
theorem dX3_bend_15 : decode cX3_bend 15 = .ok (.aload_n 1, 1) := by decide +kernel
theorem dX3_bend_16 : decode cX3_bend 16 = .ok (.iload_n 2, 1) := by decide +kernel
theorem dX3_bend_17 : decode cX3_bend 17 = .ok (.iconst 1, 1) := by decide +kernel
theorem dX3_bend_18 : decode cX3_bend 18 = .ok (.isub, 1) := by decide +kernel
theorem dX3_bend_19 : decode cX3_bend 19 = .ok (.invokevirtual 18, 3) := by decide +kernel
theorem dX3_bend_22 : decode cX3_bend 22 = .ok (.isub, 1) := by decide +kernel
theorem dX3_bend_23 : decode cX3_bend 23 = .ok (.ireturn, 1) := by decide +kernel
theorem dX3_tipped_0 : decode cX3_tipped 0 = .ok (.aload_n 1, 1) := by decide +kernel
theorem dX3_tipped_1 : decode cX3_tipped 1 = .ok (.arraylength, 1) := by decide +kernel
theorem dX3_tipped_2 : decode cX3_tipped 2 = .ok (.istore 4, 2) := by decide +kernel
theorem dX3_tipped_4 : decode cX3_tipped 4 = .ok (.aload_n 1, 1) := by decide +kernel
theorem dX3_tipped_5 : decode cX3_tipped 5 = .ok (.invokevirtual 22, 3) := by decide +kernel
theorem dX3_tipped_8 : decode cX3_tipped 8 = .ok (.checkcast 13, 3) := by decide +kernel
theorem dX3_tipped_11 : decode cX3_tipped 11 = .ok (.astore 5, 2) := by decide +kernel
theorem dX3_tipped_13 : decode cX3_tipped 13 = .ok (.aload 5, 2) := by decide +kernel
theorem dX3_tipped_15 : decode cX3_tipped 15 = .ok (.iload_n 2, 1) := by decide +kernel
theorem dX3_tipped_16 : decode cX3_tipped 16 = .ok (.dup2, 1) := by decide +kernel
theorem dX3_tipped_17 : decode cX3_tipped 17 = .ok (.iaload, 1) := by decide +kernel
theorem dX3_tipped_18 : decode cX3_tipped 18 = .ok (.iconst 2, 1) := by decide +kernel
theorem dX3_tipped_19 : decode cX3_tipped 19 = .ok (.iload_n 3, 1) := by decide +kernel
theorem dX3_tipped_20 : decode cX3_tipped 20 = .ok (.imul, 1) := by decide +kernel
theorem dX3_tipped_21 : decode cX3_tipped 21 = .ok (.isub, 1) := by decide +kernel
theorem dX3_tipped_22 : decode cX3_tipped 22 = .ok (.iastore, 1) := by decide +kernel
theorem dX3_tipped_23 : decode cX3_tipped 23 = .ok (.aload 5, 2) := by decide +kernel
theorem dX3_tipped_25 : decode cX3_tipped 25 = .ok (.iload_n 2, 1) := by decide +kernel
theorem dX3_tipped_26 : decode cX3_tipped 26 = .ok (.iconst 1, 1) := by decide +kernel
theorem dX3_tipped_27 : decode cX3_tipped 27 = .ok (.iadd, 1) := by decide +kernel
theorem dX3_tipped_28 : decode cX3_tipped 28 = .ok (.iload 4, 2) := by decide +kernel
theorem dX3_tipped_30 : decode cX3_tipped 30 = .ok (.irem, 1) := by decide +kernel
theorem dX3_tipped_31 : decode cX3_tipped 31 = .ok (.dup2, 1) := by decide +kernel
theorem dX3_tipped_32 : decode cX3_tipped 32 = .ok (.iaload, 1) := by decide +kernel
theorem dX3_tipped_33 : decode cX3_tipped 33 = .ok (.iload_n 3, 1) := by decide +kernel
theorem dX3_tipped_34 : decode cX3_tipped 34 = .ok (.iadd, 1) := by decide +kernel
theorem dX3_tipped_35 : decode cX3_tipped 35 = .ok (.iastore, 1) := by decide +kernel
theorem dX3_tipped_36 : decode cX3_tipped 36 = .ok (.aload 5, 2) := by decide +kernel
theorem dX3_tipped_38 : decode cX3_tipped 38 = .ok (.iload_n 2, 1) := by decide +kernel
theorem dX3_tipped_39 : decode cX3_tipped 39 = .ok (.iload 4, 2) := by decide +kernel
theorem dX3_tipped_41 : decode cX3_tipped 41 = .ok (.iadd, 1) := by decide +kernel
theorem dX3_tipped_42 : decode cX3_tipped 42 = .ok (.iconst 1, 1) := by decide +kernel
theorem dX3_tipped_43 : decode cX3_tipped 43 = .ok (.isub, 1) := by decide +kernel
theorem dX3_tipped_44 : decode cX3_tipped 44 = .ok (.iload 4, 2) := by decide +kernel
theorem dX3_tipped_46 : decode cX3_tipped 46 = .ok (.irem, 1) := by decide +kernel
theorem dX3_tipped_47 : decode cX3_tipped 47 = .ok (.dup2, 1) := by decide +kernel
theorem dX3_tipped_48 : decode cX3_tipped 48 = .ok (.iaload, 1) := by decide +kernel
theorem dX3_tipped_49 : decode cX3_tipped 49 = .ok (.iload_n 3, 1) := by decide +kernel
theorem dX3_tipped_50 : decode cX3_tipped 50 = .ok (.iadd, 1) := by decide +kernel
theorem dX3_tipped_51 : decode cX3_tipped 51 = .ok (.iastore, 1) := by decide +kernel
theorem dX3_tipped_52 : decode cX3_tipped 52 = .ok (.aload 5, 2) := by decide +kernel
theorem dX3_tipped_54 : decode cX3_tipped 54 = .ok (.areturn, 1) := by decide +kernel
set_option maxRecDepth 20000 in
theorem ggX3_steep_X3_bend : GoodIn wsX3_steep wsX3_bend := goodIn_r _ [5, 6, 7, 8, 4, 9] (by decide +kernel) (by decide +kernel)
set_option maxRecDepth 20000 in
theorem gX3_steep_X3_bend : GoodIn wsX3_steep (wsV RX3 26 RX3 yX3_bend wsX3_bend) := goodIn_app (goodIn_of _ (by decide +kernel)) ggX3_steep_X3_bend
theorem dX3_steep_0 : decode cX3_steep 0 = .ok (.iconst 0, 1) := by decide +kernel
theorem dX3_steep_1 : decode cX3_steep 1 = .ok (.istore_n 2, 1) := by decide +kernel
theorem dX3_steep_2 : decode cX3_steep 2 = .ok (.iload_n 2, 1) := by decide +kernel
theorem dX3_steep_3 : decode cX3_steep 3 = .ok (.aload_n 1, 1) := by decide +kernel
theorem dX3_steep_4 : decode cX3_steep 4 = .ok (.arraylength, 1) := by decide +kernel
theorem dX3_steep_5 : decode cX3_steep 5 = .ok (.if_icmp .ge 21, 3) := by decide +kernel
theorem dX3_steep_8 : decode cX3_steep 8 = .ok (.aload_n 0, 1) := by decide +kernel
theorem dX3_steep_9 : decode cX3_steep 9 = .ok (.aload_n 1, 1) := by decide +kernel
theorem dX3_steep_10 : decode cX3_steep 10 = .ok (.iload_n 2, 1) := by decide +kernel
theorem dX3_steep_11 : decode cX3_steep 11 = .ok (.invokevirtual 26, 3) := by decide +kernel
theorem dX3_steep_14 : decode cX3_steep 14 = .ok (.iconst 3, 1) := by decide +kernel
theorem dX3_steep_15 : decode cX3_steep 15 = .ok (.if_icmp .le 5, 3) := by decide +kernel
theorem dX3_steep_18 : decode cX3_steep 18 = .ok (.iload_n 2, 1) := by decide +kernel
theorem dX3_steep_19 : decode cX3_steep 19 = .ok (.ireturn, 1) := by decide +kernel
theorem dX3_steep_20 : decode cX3_steep 20 = .ok (.iinc 2 1, 3) := by decide +kernel
theorem dX3_steep_23 : decode cX3_steep 23 = .ok (.goto (-21), 3) := by decide +kernel
theorem dX3_steep_26 : decode cX3_steep 26 = .ok (.iconst (-1), 1) := by decide +kernel
theorem dX3_steep_27 : decode cX3_steep 27 = .ok (.ireturn, 1) := by decide +kernel
theorem dX3_spread_0 : decode cX3_spread 0 = .ok (.ldc 31, 2) := by decide +kernel
theorem dX3_spread_2 : decode cX3_spread 2 = .ok (.istore_n 1, 1) := by decide +kernel
theorem dX3_spread_3 : decode cX3_spread 3 = .ok (.ldc 32, 2) := by decide +kernel
theorem dX3_spread_5 : decode cX3_spread 5 = .ok (.istore_n 2, 1) := by decide +kernel
theorem dX3_spread_6 : decode cX3_spread 6 = .ok (.aload_n 0, 1) := by decide +kernel
theorem dX3_spread_7 : decode cX3_spread 7 = .ok (.astore_n 3, 1) := by decide +kernel
theorem dX3_spread_8 : decode cX3_spread 8 = .ok (.aload_n 3, 1) := by decide +kernel
theorem dX3_spread_9 : decode cX3_spread 9 = .ok (.arraylength, 1) := by decide +kernel
theorem dX3_spread_10 : decode cX3_spread 10 = .ok (.istore 4, 2) := by decide +kernel
theorem dX3_spread_12 : decode cX3_spread 12 = .ok (.iconst 0, 1) := by decide +kernel
theorem dX3_spread_13 : decode cX3_spread 13 = .ok (.istore 5, 2) := by decide +kernel
theorem dX3_spread_15 : decode cX3_spread 15 = .ok (.iload 5, 2) := by decide +kernel
theorem dX3_spread_17 : decode cX3_spread 17 = .ok (.iload 4, 2) := by decide +kernel
theorem dX3_spread_19 : decode cX3_spread 19 = .ok (.if_icmp .ge 29, 3) := by decide +kernel
theorem dX3_spread_22 : decode cX3_spread 22 = .ok (.aload_n 3, 1) := by decide +kernel
theorem dX3_spread_23 : decode cX3_spread 23 = .ok (.iload 5, 2) := by decide +kernel
theorem dX3_spread_25 : decode cX3_spread 25 = .ok (.iaload, 1) := by decide +kernel
theorem dX3_spread_26 : decode cX3_spread 26 = .ok (.istore 6, 2) := by decide +kernel
theorem dX3_spread_28 : decode cX3_spread 28 = .ok (.iload_n 1, 1) := by decide +kernel
theorem dX3_spread_29 : decode cX3_spread 29 = .ok (.iload 6, 2) := by decide +kernel
theorem dX3_spread_31 : decode cX3_spread 31 = .ok (.invokestatic 33, 3) := by decide +kernel
theorem dX3_spread_34 : decode cX3_spread 34 = .ok (.istore_n 1, 1) := by decide +kernel
theorem dX3_spread_35 : decode cX3_spread 35 = .ok (.iload_n 2, 1) := by decide +kernel
theorem dX3_spread_36 : decode cX3_spread 36 = .ok (.iload 6, 2) := by decide +kernel
theorem dX3_spread_38 : decode cX3_spread 38 = .ok (.invokestatic 39, 3) := by decide +kernel
theorem dX3_spread_41 : decode cX3_spread 41 = .ok (.istore_n 2, 1) := by decide +kernel
theorem dX3_spread_42 : decode cX3_spread 42 = .ok (.iinc 5 1, 3) := by decide +kernel
theorem dX3_spread_45 : decode cX3_spread 45 = .ok (.goto (-30), 3) := by decide +kernel
theorem dX3_spread_48 : decode cX3_spread 48 = .ok (.iload_n 2, 1) := by decide +kernel
theorem dX3_spread_49 : decode cX3_spread 49 = .ok (.iload_n 1, 1) := by decide +kernel
theorem dX3_spread_50 : decode cX3_spread 50 = .ok (.isub, 1) := by decide +kernel
theorem dX3_spread_51 : decode cX3_spread 51 = .ok (.ireturn, 1) := by decide +kernel
theorem dX3_sum_0 : decode cX3_sum 0 = .ok (.iconst 0, 1) := by decide +kernel
theorem dX3_sum_1 : decode cX3_sum 1 = .ok (.istore_n 1, 1) := by decide +kernel
theorem dX3_sum_2 : decode cX3_sum 2 = .ok (.aload_n 0, 1) := by decide +kernel
theorem dX3_sum_3 : decode cX3_sum 3 = .ok (.astore_n 2, 1) := by decide +kernel
theorem dX3_sum_4 : decode cX3_sum 4 = .ok (.aload_n 2, 1) := by decide +kernel
theorem dX3_sum_5 : decode cX3_sum 5 = .ok (.arraylength, 1) := by decide +kernel
theorem dX3_sum_6 : decode cX3_sum 6 = .ok (.istore_n 3, 1) := by decide +kernel
theorem dX3_sum_7 : decode cX3_sum 7 = .ok (.iconst 0, 1) := by decide +kernel
theorem dX3_sum_8 : decode cX3_sum 8 = .ok (.istore 4, 2) := by decide +kernel
theorem dX3_sum_10 : decode cX3_sum 10 = .ok (.iload 4, 2) := by decide +kernel
theorem dX3_sum_12 : decode cX3_sum 12 = .ok (.iload_n 3, 1) := by decide +kernel
theorem dX3_sum_13 : decode cX3_sum 13 = .ok (.if_icmp .ge 20, 3) := by decide +kernel
theorem dX3_sum_16 : decode cX3_sum 16 = .ok (.aload_n 2, 1) := by decide +kernel
theorem dX3_sum_17 : decode cX3_sum 17 = .ok (.iload 4, 2) := by decide +kernel
theorem dX3_sum_19 : decode cX3_sum 19 = .ok (.iaload, 1) := by decide +kernel
theorem dX3_sum_20 : decode cX3_sum 20 = .ok (.istore 5, 2) := by decide +kernel
theorem dX3_sum_22 : decode cX3_sum 22 = .ok (.iload_n 1, 1) := by decide +kernel
theorem dX3_sum_23 : decode cX3_sum 23 = .ok (.iload 5, 2) := by decide +kernel
theorem dX3_sum_25 : decode cX3_sum 25 = .ok (.iadd, 1) := by decide +kernel
theorem dX3_sum_26 : decode cX3_sum 26 = .ok (.istore_n 1, 1) := by decide +kernel
theorem dX3_sum_27 : decode cX3_sum 27 = .ok (.iinc 4 1, 3) := by decide +kernel
theorem dX3_sum_30 : decode cX3_sum 30 = .ok (.goto (-20), 3) := by decide +kernel
theorem dX3_sum_33 : decode cX3_sum 33 = .ok (.iload_n 1, 1) := by decide +kernel
theorem dX3_sum_34 : decode cX3_sum 34 = .ok (.ireturn, 1) := by decide +kernel
theorem dX3_moment_0 : decode cX3_moment 0 = .ok (.iconst 0, 1) := by decide +kernel
theorem dX3_moment_1 : decode cX3_moment 1 = .ok (.istore_n 1, 1) := by decide +kernel
theorem dX3_moment_2 : decode cX3_moment 2 = .ok (.iconst 0, 1) := by decide +kernel
theorem dX3_moment_3 : decode cX3_moment 3 = .ok (.istore_n 2, 1) := by decide +kernel
theorem dX3_moment_4 : decode cX3_moment 4 = .ok (.iload_n 2, 1) := by decide +kernel
theorem dX3_moment_5 : decode cX3_moment 5 = .ok (.aload_n 0, 1) := by decide +kernel
theorem dX3_moment_6 : decode cX3_moment 6 = .ok (.arraylength, 1) := by decide +kernel
theorem dX3_moment_7 : decode cX3_moment 7 = .ok (.if_icmp .ge 17, 3) := by decide +kernel
theorem dX3_moment_10 : decode cX3_moment 10 = .ok (.iload_n 1, 1) := by decide +kernel
theorem dX3_moment_11 : decode cX3_moment 11 = .ok (.iload_n 2, 1) := by decide +kernel
theorem dX3_moment_12 : decode cX3_moment 12 = .ok (.aload_n 0, 1) := by decide +kernel
theorem dX3_moment_13 : decode cX3_moment 13 = .ok (.iload_n 2, 1) := by decide +kernel
theorem dX3_moment_14 : decode cX3_moment 14 = .ok (.iaload, 1) := by decide +kernel
theorem dX3_moment_15 : decode cX3_moment 15 = .ok (.imul, 1) := by decide +kernel
theorem dX3_moment_16 : decode cX3_moment 16 = .ok (.iadd, 1) := by decide +kernel
theorem dX3_moment_17 : decode cX3_moment 17 = .ok (.istore_n 1, 1) := by decide +kernel
theorem dX3_moment_18 : decode cX3_moment 18 = .ok (.iinc 2 1, 3) := by decide +kernel
theorem dX3_moment_21 : decode cX3_moment 21 = .ok (.goto (-17), 3) := by decide +kernel
theorem dX3_moment_24 : decode cX3_moment 24 = .ok (.iload_n 1, 1) := by decide +kernel
theorem dX3_moment_25 : decode cX3_moment 25 = .ok (.aload_n 0, 1) := by decide +kernel
theorem dX3_moment_26 : decode cX3_moment 26 = .ok (.arraylength, 1) := by decide +kernel
theorem dX3_moment_27 : decode cX3_moment 27 = .ok (.irem, 1) := by decide +kernel
theorem dX3_moment_28 : decode cX3_moment 28 = .ok (.aload_n 0, 1) := by decide +kernel
theorem dX3_moment_29 : decode cX3_moment 29 = .ok (.arraylength, 1) := by decide +kernel
theorem dX3_moment_30 : decode cX3_moment 30 = .ok (.iadd, 1) := by decide +kernel
theorem dX3_moment_31 : decode cX3_moment 31 = .ok (.aload_n 0, 1) := by decide +kernel
theorem dX3_moment_32 : decode cX3_moment 32 = .ok (.arraylength, 1) := by decide +kernel
theorem dX3_moment_33 : decode cX3_moment 33 = .ok (.irem, 1) := by decide +kernel
theorem dX3_moment_34 : decode cX3_moment 34 = .ok (.ireturn, 1) := by decide +kernel
set_option maxRecDepth 20000 in
theorem ggX3_tilt_X3_at : GoodIn wsX3_tilt wsX3_at := goodIn_r _ [6] (by decide +kernel) (by decide +kernel)
set_option maxRecDepth 20000 in
theorem gX3_tilt_X3_at : GoodIn wsX3_tilt (wsV RX3 18 RX3 yX3_at wsX3_at) := goodIn_app (goodIn_of _ (by decide +kernel)) ggX3_tilt_X3_at
theorem dX3_tilt_0 : decode cX3_tilt 0 = .ok (.iconst 0, 1) := by decide +kernel
theorem dX3_tilt_1 : decode cX3_tilt 1 = .ok (.istore_n 2, 1) := by decide +kernel
theorem dX3_tilt_2 : decode cX3_tilt 2 = .ok (.iconst 1, 1) := by decide +kernel
theorem dX3_tilt_3 : decode cX3_tilt 3 = .ok (.istore_n 3, 1) := by decide +kernel
theorem dX3_tilt_4 : decode cX3_tilt 4 = .ok (.iload_n 3, 1) := by decide +kernel
theorem dX3_tilt_5 : decode cX3_tilt 5 = .ok (.aload_n 0, 1) := by decide +kernel
theorem dX3_tilt_6 : decode cX3_tilt 6 = .ok (.getfield 7, 3) := by decide +kernel
theorem dX3_tilt_9 : decode cX3_tilt 9 = .ok (.arraylength, 1) := by decide +kernel
theorem dX3_tilt_10 : decode cX3_tilt 10 = .ok (.iconst 1, 1) := by decide +kernel
theorem dX3_tilt_11 : decode cX3_tilt 11 = .ok (.isub, 1) := by decide +kernel
theorem dX3_tilt_12 : decode cX3_tilt 12 = .ok (.iconst 2, 1) := by decide +kernel
theorem dX3_tilt_13 : decode cX3_tilt 13 = .ok (.idiv, 1) := by decide +kernel
theorem dX3_tilt_14 : decode cX3_tilt 14 = .ok (.if_icmp .gt 37, 3) := by decide +kernel
theorem dX3_tilt_17 : decode cX3_tilt 17 = .ok (.iload_n 2, 1) := by decide +kernel
theorem dX3_tilt_18 : decode cX3_tilt 18 = .ok (.aload_n 0, 1) := by decide +kernel
theorem dX3_tilt_19 : decode cX3_tilt 19 = .ok (.aload_n 0, 1) := by decide +kernel
theorem dX3_tilt_20 : decode cX3_tilt 20 = .ok (.getfield 7, 3) := by decide +kernel
theorem dX3_tilt_23 : decode cX3_tilt 23 = .ok (.iload_n 1, 1) := by decide +kernel
theorem dX3_tilt_24 : decode cX3_tilt 24 = .ok (.iload_n 3, 1) := by decide +kernel
theorem dX3_tilt_25 : decode cX3_tilt 25 = .ok (.iadd, 1) := by decide +kernel
theorem dX3_tilt_26 : decode cX3_tilt 26 = .ok (.invokevirtual 18, 3) := by decide +kernel
theorem dX3_tilt_29 : decode cX3_tilt 29 = .ok (.aload_n 0, 1) := by decide +kernel
theorem dX3_tilt_30 : decode cX3_tilt 30 = .ok (.aload_n 0, 1) := by decide +kernel
theorem dX3_tilt_31 : decode cX3_tilt 31 = .ok (.getfield 7, 3) := by decide +kernel
theorem dX3_tilt_34 : decode cX3_tilt 34 = .ok (.iload_n 1, 1) := by decide +kernel
theorem dX3_tilt_35 : decode cX3_tilt 35 = .ok (.iload_n 3, 1) := by decide +kernel
theorem dX3_tilt_36 : decode cX3_tilt 36 = .ok (.isub, 1) := by decide +kernel
theorem dX3_tilt_37 : decode cX3_tilt 37 = .ok (.invokevirtual 18, 3) := by decide +kernel
theorem dX3_tilt_40 : decode cX3_tilt 40 = .ok (.isub, 1) := by decide +kernel
theorem dX3_tilt_41 : decode cX3_tilt 41 = .ok (.iload_n 3, 1) := by decide +kernel
theorem dX3_tilt_42 : decode cX3_tilt 42 = .ok (.imul, 1) := by decide +kernel
theorem dX3_tilt_43 : decode cX3_tilt 43 = .ok (.iadd, 1) := by decide +kernel
theorem dX3_tilt_44 : decode cX3_tilt 44 = .ok (.istore_n 2, 1) := by decide +kernel
theorem dX3_tilt_45 : decode cX3_tilt 45 = .ok (.iinc 3 1, 3) := by decide +kernel
theorem dX3_tilt_48 : decode cX3_tilt 48 = .ok (.goto (-44), 3) := by decide +kernel
theorem dX3_tilt_51 : decode cX3_tilt 51 = .ok (.iload_n 2, 1) := by decide +kernel
theorem dX3_tilt_52 : decode cX3_tilt 52 = .ok (.ireturn, 1) := by decide +kernel
set_option maxRecDepth 20000 in
theorem ggX3_can_X3_sum : GoodIn wsX3_can wsX3_sum := goodIn_r _ [5] (by decide +kernel) (by decide +kernel)
set_option maxRecDepth 20000 in
theorem gX3_can_X3_sum : GoodIn wsX3_can (va_wsS RX3 42 yX3_sum wsX3_sum) := goodIn_app (goodIn_of _ (by decide +kernel)) ggX3_can_X3_sum
set_option maxRecDepth 20000 in
theorem ggX3_can_X3_moment : GoodIn wsX3_can wsX3_moment := goodIn_r _ [8] (by decide +kernel) (by decide +kernel)
set_option maxRecDepth 20000 in
theorem gX3_can_X3_moment : GoodIn wsX3_can (va_wsS RX3 46 yX3_moment wsX3_moment) := goodIn_app (goodIn_of _ (by decide +kernel)) ggX3_can_X3_moment
theorem dX3_can_0 : decode cX3_can 0 = .ok (.aload_n 1, 1) := by decide +kernel
theorem dX3_can_1 : decode cX3_can 1 = .ok (.invokestatic 42, 3) := by decide +kernel
theorem dX3_can_4 : decode cX3_can 4 = .ok (.aload_n 0, 1) := by decide +kernel
theorem dX3_can_5 : decode cX3_can 5 = .ok (.getfield 14, 3) := by decide +kernel
theorem dX3_can_8 : decode cX3_can 8 = .ok (.iload_n 2, 1) := by decide +kernel
theorem dX3_can_9 : decode cX3_can 9 = .ok (.aaload, 1) := by decide +kernel
theorem dX3_can_10 : decode cX3_can 10 = .ok (.invokestatic 42, 3) := by decide +kernel
theorem dX3_can_13 : decode cX3_can 13 = .ok (.if_icmp .ne 23, 3) := by decide +kernel
theorem dX3_can_16 : decode cX3_can 16 = .ok (.aload_n 1, 1) := by decide +kernel
theorem dX3_can_17 : decode cX3_can 17 = .ok (.invokestatic 46, 3) := by decide +kernel
theorem dX3_can_20 : decode cX3_can 20 = .ok (.aload_n 0, 1) := by decide +kernel
theorem dX3_can_21 : decode cX3_can 21 = .ok (.getfield 14, 3) := by decide +kernel
theorem dX3_can_24 : decode cX3_can 24 = .ok (.iload_n 2, 1) := by decide +kernel
theorem dX3_can_25 : decode cX3_can 25 = .ok (.aaload, 1) := by decide +kernel
theorem dX3_can_26 : decode cX3_can 26 = .ok (.invokestatic 46, 3) := by decide +kernel
theorem dX3_can_29 : decode cX3_can 29 = .ok (.if_icmp .ne 7, 3) := by decide +kernel
theorem dX3_can_32 : decode cX3_can 32 = .ok (.iconst 1, 1) := by decide +kernel
theorem dX3_can_33 : decode cX3_can 33 = .ok (.goto 4, 3) := by decide +kernel
theorem dX3_can_36 : decode cX3_can 36 = .ok (.iconst 0, 1) := by decide +kernel
theorem dX3_can_37 : decode cX3_can 37 = .ok (.ireturn, 1) := by decide +kernel
theorem dX3_tipsTo_0 : decode cX3_tipsTo 0 = .ok (.aload_n 0, 1) := by decide +kernel
theorem dX3_tipsTo_1 : decode cX3_tipsTo 1 = .ok (.getfield 7, 3) := by decide +kernel
theorem dX3_tipsTo_4 : decode cX3_tipsTo 4 = .ok (.arraylength, 1) := by decide +kernel
theorem dX3_tipsTo_5 : decode cX3_tipsTo 5 = .ok (.istore_n 2, 1) := by decide +kernel
theorem dX3_tipsTo_6 : decode cX3_tipsTo 6 = .ok (.iload_n 2, 1) := by decide +kernel
theorem dX3_tipsTo_7 : decode cX3_tipsTo 7 = .ok (.newarray .int, 2) := by decide +kernel
theorem dX3_tipsTo_9 : decode cX3_tipsTo 9 = .ok (.astore_n 3, 1) := by decide +kernel
theorem dX3_tipsTo_10 : decode cX3_tipsTo 10 = .ok (.iconst 0, 1) := by decide +kernel
theorem dX3_tipsTo_11 : decode cX3_tipsTo 11 = .ok (.istore 4, 2) := by decide +kernel
theorem dX3_tipsTo_13 : decode cX3_tipsTo 13 = .ok (.iconst 1, 1) := by decide +kernel
theorem dX3_tipsTo_14 : decode cX3_tipsTo 14 = .ok (.istore 5, 2) := by decide +kernel
theorem dX3_tipsTo_16 : decode cX3_tipsTo 16 = .ok (.iload 5, 2) := by decide +kernel
theorem dX3_tipsTo_18 : decode cX3_tipsTo 18 = .ok (.iload_n 2, 1) := by decide +kernel
theorem dX3_tipsTo_19 : decode cX3_tipsTo 19 = .ok (.if_icmp .ge 46, 3) := by decide +kernel
theorem dX3_tipsTo_22 : decode cX3_tipsTo 22 = .ok (.aload_n 3, 1) := by decide +kernel
theorem dX3_tipsTo_23 : decode cX3_tipsTo 23 = .ok (.iload 5, 2) := by decide +kernel
theorem dX3_tipsTo_25 : decode cX3_tipsTo 25 = .ok (.aload_n 3, 1) := by decide +kernel
theorem dX3_tipsTo_26 : decode cX3_tipsTo 26 = .ok (.iload 5, 2) := by decide +kernel
theorem dX3_tipsTo_28 : decode cX3_tipsTo 28 = .ok (.iconst 1, 1) := by decide +kernel
theorem dX3_tipsTo_29 : decode cX3_tipsTo 29 = .ok (.isub, 1) := by decide +kernel
theorem dX3_tipsTo_30 : decode cX3_tipsTo 30 = .ok (.iaload, 1) := by decide +kernel
theorem dX3_tipsTo_31 : decode cX3_tipsTo 31 = .ok (.aload_n 0, 1) := by decide +kernel
theorem dX3_tipsTo_32 : decode cX3_tipsTo 32 = .ok (.getfield 7, 3) := by decide +kernel
theorem dX3_tipsTo_35 : decode cX3_tipsTo 35 = .ok (.iload 5, 2) := by decide +kernel
theorem dX3_tipsTo_37 : decode cX3_tipsTo 37 = .ok (.iaload, 1) := by decide +kernel
theorem dX3_tipsTo_38 : decode cX3_tipsTo 38 = .ok (.iadd, 1) := by decide +kernel
theorem dX3_tipsTo_39 : decode cX3_tipsTo 39 = .ok (.aload_n 0, 1) := by decide +kernel
theorem dX3_tipsTo_40 : decode cX3_tipsTo 40 = .ok (.getfield 14, 3) := by decide +kernel
theorem dX3_tipsTo_43 : decode cX3_tipsTo 43 = .ok (.iload_n 1, 1) := by decide +kernel
theorem dX3_tipsTo_44 : decode cX3_tipsTo 44 = .ok (.aaload, 1) := by decide +kernel
theorem dX3_tipsTo_45 : decode cX3_tipsTo 45 = .ok (.iload 5, 2) := by decide +kernel
theorem dX3_tipsTo_47 : decode cX3_tipsTo 47 = .ok (.iaload, 1) := by decide +kernel
theorem dX3_tipsTo_48 : decode cX3_tipsTo 48 = .ok (.isub, 1) := by decide +kernel
theorem dX3_tipsTo_49 : decode cX3_tipsTo 49 = .ok (.iastore, 1) := by decide +kernel
theorem dX3_tipsTo_50 : decode cX3_tipsTo 50 = .ok (.iload 4, 2) := by decide +kernel
theorem dX3_tipsTo_52 : decode cX3_tipsTo 52 = .ok (.aload_n 3, 1) := by decide +kernel
theorem dX3_tipsTo_53 : decode cX3_tipsTo 53 = .ok (.iload 5, 2) := by decide +kernel
theorem dX3_tipsTo_55 : decode cX3_tipsTo 55 = .ok (.iaload, 1) := by decide +kernel
theorem dX3_tipsTo_56 : decode cX3_tipsTo 56 = .ok (.iadd, 1) := by decide +kernel
theorem dX3_tipsTo_57 : decode cX3_tipsTo 57 = .ok (.istore 4, 2) := by decide +kernel
theorem dX3_tipsTo_59 : decode cX3_tipsTo 59 = .ok (.iinc 5 1, 3) := by decide +kernel
theorem dX3_tipsTo_62 : decode cX3_tipsTo 62 = .ok (.goto (-46), 3) := by decide +kernel
theorem dX3_tipsTo_65 : decode cX3_tipsTo 65 = .ok (.iload_n 2, 1) := by decide +kernel
theorem dX3_tipsTo_66 : decode cX3_tipsTo 66 = .ok (.newarray .int, 2) := by decide +kernel
theorem dX3_tipsTo_68 : decode cX3_tipsTo 68 = .ok (.astore 5, 2) := by decide +kernel
theorem dX3_tipsTo_70 : decode cX3_tipsTo 70 = .ok (.iconst 1, 1) := by decide +kernel
theorem dX3_tipsTo_71 : decode cX3_tipsTo 71 = .ok (.istore 6, 2) := by decide +kernel
theorem dX3_tipsTo_73 : decode cX3_tipsTo 73 = .ok (.iload 6, 2) := by decide +kernel
theorem dX3_tipsTo_75 : decode cX3_tipsTo 75 = .ok (.iload_n 2, 1) := by decide +kernel
theorem dX3_tipsTo_76 : decode cX3_tipsTo 76 = .ok (.if_icmp .ge 33, 3) := by decide +kernel
theorem dX3_tipsTo_79 : decode cX3_tipsTo 79 = .ok (.aload 5, 2) := by decide +kernel
theorem dX3_tipsTo_81 : decode cX3_tipsTo 81 = .ok (.iload 6, 2) := by decide +kernel
theorem dX3_tipsTo_83 : decode cX3_tipsTo 83 = .ok (.aload 5, 2) := by decide +kernel
theorem dX3_tipsTo_85 : decode cX3_tipsTo 85 = .ok (.iload 6, 2) := by decide +kernel
theorem dX3_tipsTo_87 : decode cX3_tipsTo 87 = .ok (.iconst 1, 1) := by decide +kernel
theorem dX3_tipsTo_88 : decode cX3_tipsTo 88 = .ok (.isub, 1) := by decide +kernel
theorem dX3_tipsTo_89 : decode cX3_tipsTo 89 = .ok (.iaload, 1) := by decide +kernel
theorem dX3_tipsTo_90 : decode cX3_tipsTo 90 = .ok (.iload 4, 2) := by decide +kernel
theorem dX3_tipsTo_92 : decode cX3_tipsTo 92 = .ok (.iload_n 2, 1) := by decide +kernel
theorem dX3_tipsTo_93 : decode cX3_tipsTo 93 = .ok (.idiv, 1) := by decide +kernel
theorem dX3_tipsTo_94 : decode cX3_tipsTo 94 = .ok (.iadd, 1) := by decide +kernel
theorem dX3_tipsTo_95 : decode cX3_tipsTo 95 = .ok (.aload_n 3, 1) := by decide +kernel
theorem dX3_tipsTo_96 : decode cX3_tipsTo 96 = .ok (.iload 6, 2) := by decide +kernel
theorem dX3_tipsTo_98 : decode cX3_tipsTo 98 = .ok (.iconst 1, 1) := by decide +kernel
theorem dX3_tipsTo_99 : decode cX3_tipsTo 99 = .ok (.isub, 1) := by decide +kernel
theorem dX3_tipsTo_100 : decode cX3_tipsTo 100 = .ok (.iaload, 1) := by decide +kernel
theorem dX3_tipsTo_101 : decode cX3_tipsTo 101 = .ok (.isub, 1) := by decide +kernel
theorem dX3_tipsTo_102 : decode cX3_tipsTo 102 = .ok (.iastore, 1) := by decide +kernel
theorem dX3_tipsTo_103 : decode cX3_tipsTo 103 = .ok (.iinc 6 1, 3) := by decide +kernel
theorem dX3_tipsTo_106 : decode cX3_tipsTo 106 = .ok (.goto (-33), 3) := by decide +kernel
theorem dX3_tipsTo_109 : decode cX3_tipsTo 109 = .ok (.aload 5, 2) := by decide +kernel
theorem dX3_tipsTo_111 : decode cX3_tipsTo 111 = .ok (.areturn, 1) := by decide +kernel
set_option maxRecDepth 20000 in
theorem ggX3_fewest_X3_tipsTo : GoodIn wsX3_fewest wsX3_tipsTo := goodIn_r _ [9, 10, 11, 12, 13, 14, 15] (by decide +kernel) (by decide +kernel)
set_option maxRecDepth 20000 in
theorem gX3_fewest_X3_tipsTo : GoodIn wsX3_fewest (wsV RX3 49 RX3 yX3_tipsTo wsX3_tipsTo) := goodIn_app (goodIn_of _ (by decide +kernel)) ggX3_fewest_X3_tipsTo
theorem dX3_fewest_0 : decode cX3_fewest 0 = .ok (.aload_n 0, 1) := by decide +kernel
theorem dX3_fewest_1 : decode cX3_fewest 1 = .ok (.iload_n 1, 1) := by decide +kernel
theorem dX3_fewest_2 : decode cX3_fewest 2 = .ok (.invokevirtual 49, 3) := by decide +kernel
theorem dX3_fewest_5 : decode cX3_fewest 5 = .ok (.astore_n 2, 1) := by decide +kernel
theorem dX3_fewest_6 : decode cX3_fewest 6 = .ok (.aload_n 2, 1) := by decide +kernel
theorem dX3_fewest_7 : decode cX3_fewest 7 = .ok (.arraylength, 1) := by decide +kernel
theorem dX3_fewest_8 : decode cX3_fewest 8 = .ok (.istore_n 3, 1) := by decide +kernel
theorem dX3_fewest_9 : decode cX3_fewest 9 = .ok (.iconst 1, 1) := by decide +kernel
theorem dX3_fewest_10 : decode cX3_fewest 10 = .ok (.istore 4, 2) := by decide +kernel
theorem dX3_fewest_12 : decode cX3_fewest 12 = .ok (.iload 4, 2) := by decide +kernel
theorem dX3_fewest_14 : decode cX3_fewest 14 = .ok (.iload_n 3, 1) := by decide +kernel
theorem dX3_fewest_15 : decode cX3_fewest 15 = .ok (.if_icmp .ge 57, 3) := by decide +kernel
theorem dX3_fewest_18 : decode cX3_fewest 18 = .ok (.aload_n 2, 1) := by decide +kernel
theorem dX3_fewest_19 : decode cX3_fewest 19 = .ok (.iload 4, 2) := by decide +kernel
theorem dX3_fewest_21 : decode cX3_fewest 21 = .ok (.iaload, 1) := by decide +kernel
theorem dX3_fewest_22 : decode cX3_fewest 22 = .ok (.istore 5, 2) := by decide +kernel
theorem dX3_fewest_24 : decode cX3_fewest 24 = .ok (.iload 4, 2) := by decide +kernel
theorem dX3_fewest_26 : decode cX3_fewest 26 = .ok (.istore 6, 2) := by decide +kernel
theorem dX3_fewest_28 : decode cX3_fewest 28 = .ok (.iload 6, 2) := by decide +kernel
theorem dX3_fewest_30 : decode cX3_fewest 30 = .ok (.ifCond .le 30, 3) := by decide +kernel
theorem dX3_fewest_33 : decode cX3_fewest 33 = .ok (.aload_n 2, 1) := by decide +kernel
theorem dX3_fewest_34 : decode cX3_fewest 34 = .ok (.iload 6, 2) := by decide +kernel
theorem dX3_fewest_36 : decode cX3_fewest 36 = .ok (.iconst 1, 1) := by decide +kernel
theorem dX3_fewest_37 : decode cX3_fewest 37 = .ok (.isub, 1) := by decide +kernel
theorem dX3_fewest_38 : decode cX3_fewest 38 = .ok (.iaload, 1) := by decide +kernel
theorem dX3_fewest_39 : decode cX3_fewest 39 = .ok (.iload 5, 2) := by decide +kernel
theorem dX3_fewest_41 : decode cX3_fewest 41 = .ok (.if_icmp .le 19, 3) := by decide +kernel
theorem dX3_fewest_44 : decode cX3_fewest 44 = .ok (.aload_n 2, 1) := by decide +kernel
theorem dX3_fewest_45 : decode cX3_fewest 45 = .ok (.iload 6, 2) := by decide +kernel
theorem dX3_fewest_47 : decode cX3_fewest 47 = .ok (.aload_n 2, 1) := by decide +kernel
theorem dX3_fewest_48 : decode cX3_fewest 48 = .ok (.iload 6, 2) := by decide +kernel
theorem dX3_fewest_50 : decode cX3_fewest 50 = .ok (.iconst 1, 1) := by decide +kernel
theorem dX3_fewest_51 : decode cX3_fewest 51 = .ok (.isub, 1) := by decide +kernel
theorem dX3_fewest_52 : decode cX3_fewest 52 = .ok (.iaload, 1) := by decide +kernel
theorem dX3_fewest_53 : decode cX3_fewest 53 = .ok (.iastore, 1) := by decide +kernel
theorem dX3_fewest_54 : decode cX3_fewest 54 = .ok (.iinc 6 (-1), 3) := by decide +kernel
theorem dX3_fewest_57 : decode cX3_fewest 57 = .ok (.goto (-29), 3) := by decide +kernel
theorem dX3_fewest_60 : decode cX3_fewest 60 = .ok (.aload_n 2, 1) := by decide +kernel
theorem dX3_fewest_61 : decode cX3_fewest 61 = .ok (.iload 6, 2) := by decide +kernel
theorem dX3_fewest_63 : decode cX3_fewest 63 = .ok (.iload 5, 2) := by decide +kernel
theorem dX3_fewest_65 : decode cX3_fewest 65 = .ok (.iastore, 1) := by decide +kernel
theorem dX3_fewest_66 : decode cX3_fewest 66 = .ok (.iinc 4 1, 3) := by decide +kernel
theorem dX3_fewest_69 : decode cX3_fewest 69 = .ok (.goto (-57), 3) := by decide +kernel
theorem dX3_fewest_72 : decode cX3_fewest 72 = .ok (.iconst 0, 1) := by decide +kernel
theorem dX3_fewest_73 : decode cX3_fewest 73 = .ok (.istore 4, 2) := by decide +kernel
theorem dX3_fewest_75 : decode cX3_fewest 75 = .ok (.aload_n 2, 1) := by decide +kernel
theorem dX3_fewest_76 : decode cX3_fewest 76 = .ok (.astore 5, 2) := by decide +kernel
theorem dX3_fewest_78 : decode cX3_fewest 78 = .ok (.aload 5, 2) := by decide +kernel
theorem dX3_fewest_80 : decode cX3_fewest 80 = .ok (.arraylength, 1) := by decide +kernel
theorem dX3_fewest_81 : decode cX3_fewest 81 = .ok (.istore 6, 2) := by decide +kernel
theorem dX3_fewest_83 : decode cX3_fewest 83 = .ok (.iconst 0, 1) := by decide +kernel
theorem dX3_fewest_84 : decode cX3_fewest 84 = .ok (.istore 7, 2) := by decide +kernel
theorem dX3_fewest_86 : decode cX3_fewest 86 = .ok (.iload 7, 2) := by decide +kernel
theorem dX3_fewest_88 : decode cX3_fewest 88 = .ok (.iload 6, 2) := by decide +kernel
theorem dX3_fewest_90 : decode cX3_fewest 90 = .ok (.if_icmp .ge 32, 3) := by decide +kernel
theorem dX3_fewest_93 : decode cX3_fewest 93 = .ok (.aload 5, 2) := by decide +kernel
theorem dX3_fewest_95 : decode cX3_fewest 95 = .ok (.iload 7, 2) := by decide +kernel
theorem dX3_fewest_97 : decode cX3_fewest 97 = .ok (.iaload, 1) := by decide +kernel
theorem dX3_fewest_98 : decode cX3_fewest 98 = .ok (.istore 8, 2) := by decide +kernel
theorem dX3_fewest_100 : decode cX3_fewest 100 = .ok (.iload 4, 2) := by decide +kernel
theorem dX3_fewest_102 : decode cX3_fewest 102 = .ok (.iload 8, 2) := by decide +kernel
theorem dX3_fewest_104 : decode cX3_fewest 104 = .ok (.aload_n 2, 1) := by decide +kernel
theorem dX3_fewest_105 : decode cX3_fewest 105 = .ok (.iload_n 3, 1) := by decide +kernel
theorem dX3_fewest_106 : decode cX3_fewest 106 = .ok (.iconst 2, 1) := by decide +kernel
theorem dX3_fewest_107 : decode cX3_fewest 107 = .ok (.idiv, 1) := by decide +kernel
theorem dX3_fewest_108 : decode cX3_fewest 108 = .ok (.iaload, 1) := by decide +kernel
theorem dX3_fewest_109 : decode cX3_fewest 109 = .ok (.isub, 1) := by decide +kernel
theorem dX3_fewest_110 : decode cX3_fewest 110 = .ok (.invokestatic 53, 3) := by decide +kernel
theorem dX3_fewest_113 : decode cX3_fewest 113 = .ok (.iadd, 1) := by decide +kernel
theorem dX3_fewest_114 : decode cX3_fewest 114 = .ok (.istore 4, 2) := by decide +kernel
theorem dX3_fewest_116 : decode cX3_fewest 116 = .ok (.iinc 7 1, 3) := by decide +kernel
theorem dX3_fewest_119 : decode cX3_fewest 119 = .ok (.goto (-33), 3) := by decide +kernel
theorem dX3_fewest_122 : decode cX3_fewest 122 = .ok (.iload 4, 2) := by decide +kernel
theorem dX3_fewest_124 : decode cX3_fewest 124 = .ok (.ireturn, 1) := by decide +kernel
set_option maxRecDepth 20000 in
theorem ggX3_settle_X3_steep : GoodIn wsX3_settle wsX3_steep := goodIn_r _ [7, 8, 9, 10, 6, 11, 12, 13, 14, 15] (by decide +kernel) (by decide +kernel)
set_option maxRecDepth 20000 in
theorem gX3_settle_X3_steep : GoodIn wsX3_settle (wsV RX3 57 RX3 yX3_steep wsX3_steep) := goodIn_app (goodIn_of _ (by decide +kernel)) ggX3_settle_X3_steep
set_option maxRecDepth 20000 in
theorem ggX3_settle_X3_tipped : GoodIn wsX3_settle wsX3_tipped := goodIn_r _ [19, 20, 21, 22, 23, 24, 25] (by decide +kernel) (by decide +kernel)
set_option maxRecDepth 20000 in
theorem gX3_settle_X3_tipped : GoodIn wsX3_settle (wsV RX3 60 RX3 yX3_tipped wsX3_tipped) := goodIn_app (goodIn_of _ (by decide +kernel)) ggX3_settle_X3_tipped
theorem dX3_settle_0 : decode cX3_settle 0 = .ok (.iconst 0, 1) := by decide +kernel
theorem dX3_settle_1 : decode cX3_settle 1 = .ok (.istore_n 2, 1) := by decide +kernel
theorem dX3_settle_2 : decode cX3_settle 2 = .ok (.iconst 0, 1) := by decide +kernel
theorem dX3_settle_3 : decode cX3_settle 3 = .ok (.istore_n 3, 1) := by decide +kernel
theorem dX3_settle_4 : decode cX3_settle 4 = .ok (.iload_n 3, 1) := by decide +kernel
theorem dX3_settle_5 : decode cX3_settle 5 = .ok (.iload_n 1, 1) := by decide +kernel
theorem dX3_settle_6 : decode cX3_settle 6 = .ok (.if_icmp .ge 44, 3) := by decide +kernel
theorem dX3_settle_9 : decode cX3_settle 9 = .ok (.aload_n 0, 1) := by decide +kernel
theorem dX3_settle_10 : decode cX3_settle 10 = .ok (.aload_n 0, 1) := by decide +kernel
theorem dX3_settle_11 : decode cX3_settle 11 = .ok (.getfield 7, 3) := by decide +kernel
theorem dX3_settle_14 : decode cX3_settle 14 = .ok (.invokevirtual 57, 3) := by decide +kernel
theorem dX3_settle_17 : decode cX3_settle 17 = .ok (.ifCond .lt 33, 3) := by decide +kernel
theorem dX3_settle_20 : decode cX3_settle 20 = .ok (.aload_n 0, 1) := by decide +kernel
theorem dX3_settle_21 : decode cX3_settle 21 = .ok (.aload_n 0, 1) := by decide +kernel
theorem dX3_settle_22 : decode cX3_settle 22 = .ok (.aload_n 0, 1) := by decide +kernel
theorem dX3_settle_23 : decode cX3_settle 23 = .ok (.getfield 7, 3) := by decide +kernel
theorem dX3_settle_26 : decode cX3_settle 26 = .ok (.aload_n 0, 1) := by decide +kernel
theorem dX3_settle_27 : decode cX3_settle 27 = .ok (.aload_n 0, 1) := by decide +kernel
theorem dX3_settle_28 : decode cX3_settle 28 = .ok (.getfield 7, 3) := by decide +kernel
theorem dX3_settle_31 : decode cX3_settle 31 = .ok (.invokevirtual 57, 3) := by decide +kernel
theorem dX3_settle_34 : decode cX3_settle 34 = .ok (.iconst 1, 1) := by decide +kernel
theorem dX3_settle_35 : decode cX3_settle 35 = .ok (.invokevirtual 60, 3) := by decide +kernel
theorem dX3_settle_38 : decode cX3_settle 38 = .ok (.putfield 7, 3) := by decide +kernel
theorem dX3_settle_41 : decode cX3_settle 41 = .ok (.iinc 2 1, 3) := by decide +kernel
theorem dX3_settle_44 : decode cX3_settle 44 = .ok (.iinc 3 1, 3) := by decide +kernel
theorem dX3_settle_47 : decode cX3_settle 47 = .ok (.goto (-43), 3) := by decide +kernel
theorem dX3_settle_50 : decode cX3_settle 50 = .ok (.aload_n 0, 1) := by decide +kernel
theorem dX3_settle_51 : decode cX3_settle 51 = .ok (.dup, 1) := by decide +kernel
theorem dX3_settle_52 : decode cX3_settle 52 = .ok (.getfield 64, 3) := by decide +kernel
theorem dX3_settle_55 : decode cX3_settle 55 = .ok (.iload_n 2, 1) := by decide +kernel
theorem dX3_settle_56 : decode cX3_settle 56 = .ok (.iadd, 1) := by decide +kernel
theorem dX3_settle_57 : decode cX3_settle 57 = .ok (.putfield 64, 3) := by decide +kernel
theorem dX3_settle_60 : decode cX3_settle 60 = .ok (.iload_n 2, 1) := by decide +kernel
theorem dX3_settle_61 : decode cX3_settle 61 = .ok (.ireturn, 1) := by decide +kernel
set_option maxRecDepth 20000 in
theorem ggX3_isSame_X3_tilt : GoodIn wsX3_isSame wsX3_tilt := goodIn_r _ [12, 1, 13, 14, 15, 11, 16, 199, 200, 201] (by decide +kernel) (by decide +kernel)
set_option maxRecDepth 20000 in
theorem gX3_isSame_X3_tilt : GoodIn wsX3_isSame (wsV RX3 68 RX3 yX3_tilt wsX3_tilt) := goodIn_app (goodIn_of _ (by decide +kernel)) ggX3_isSame_X3_tilt
set_option maxRecDepth 20000 in
theorem ggX3_isSame_X3_bend : GoodIn wsX3_isSame wsX3_bend := goodIn_r _ [20, 13, 14, 15, 11, 16] (by decide +kernel) (by decide +kernel)
set_option maxRecDepth 20000 in
theorem gX3_isSame_X3_bend : GoodIn wsX3_isSame (wsV RX3 26 RX3 yX3_bend wsX3_bend) := goodIn_app (goodIn_of _ (by decide +kernel)) ggX3_isSame_X3_bend
set_option maxRecDepth 20000 in
theorem ggX3_isSame_X2_numberAt : GoodIn wsX3_isSame wsX2_numberAt := goodIn_ca (goodIn_r _ [25, 26, 27, 28, 29, 24, 30, 31, 32, 33, 34, 35, 36, 37, 38, 39, 40, 41, 42, 43, 202, 203, 204, 205, 206, 207, 208, 209] (by decide +kernel) (by decide +kernel)) (goodIn_sub (fun _ h => List.mem_cons_of_mem _ (List.mem_append_right _ h)) (by decide +kernel))
set_option maxRecDepth 20000 in
theorem gX3_isSame_X2_numberAt : GoodIn wsX3_isSame (wsV RX3 71 RX2 yX2_numberAt wsX2_numberAt) := goodIn_app (goodIn_of _ (by decide +kernel)) ggX3_isSame_X2_numberAt
set_option maxRecDepth 20000 in
theorem ggX3_isSame_X2_isSteep : GoodIn wsX3_isSame wsX2_isSteep := goodIn_ca (goodIn_r _ [47, 26, 27, 28, 29, 24, 30, 31, 32, 33, 34, 35, 36, 37, 38, 48, 49, 50, 51, 52, 40, 41, 42, 43, 53, 54, 55, 56, 202, 203, 204, 205, 206, 207, 208, 209] (by decide +kernel) (by decide +kernel)) (goodIn_sub (fun _ h => List.mem_cons_of_mem _ (List.mem_append_right _ h)) (by decide +kernel))
set_option maxRecDepth 20000 in
theorem gX3_isSame_X2_isSteep : GoodIn wsX3_isSame (wsV RX3 76 RX2 yX2_isSteep wsX2_isSteep) := goodIn_app (goodIn_of _ (by decide +kernel)) ggX3_isSame_X2_isSteep
set_option maxRecDepth 20000 in
theorem ggX3_isSame_X2_tilt : GoodIn wsX3_isSame wsX2_tilt := goodIn_ca (goodIn_r _ [60, 26, 27, 28, 29, 24, 30, 31, 32, 33, 34, 35, 36, 37, 38, 61, 62, 63, 64, 53, 54, 55, 56, 52, 40, 41, 42, 43, 202, 203, 204, 205, 206, 207, 208, 209] (by decide +kernel) (by decide +kernel)) (goodIn_sub (fun _ h => List.mem_cons_of_mem _ (List.mem_append_right _ h)) (by decide +kernel))
set_option maxRecDepth 20000 in
theorem gX3_isSame_X2_tilt : GoodIn wsX3_isSame (wsV RX3 80 RX2 yX2_tilt wsX2_tilt) := goodIn_app (goodIn_of _ (by decide +kernel)) ggX3_isSame_X2_tilt
set_option maxRecDepth 20000 in
theorem ggX3_isSame_X2_numberIn : GoodIn wsX3_isSame wsX2_numberIn := goodIn_ca (goodIn_r _ [68, 69, 70, 71, 24, 72, 31, 32, 73, 74, 27, 28, 29, 30, 26, 33, 34, 35, 36, 37, 38, 39, 40, 41, 42, 43, 202, 203, 204, 205, 206, 207, 208, 209] (by decide +kernel) (by decide +kernel)) (goodIn_sub (fun _ h => List.mem_cons_of_mem _ (List.mem_append_right _ h)) (by decide +kernel))
set_option maxRecDepth 20000 in
theorem gX3_isSame_X2_numberIn : GoodIn wsX3_isSame (wsV RX3 81 RX2 yX2_numberIn wsX2_numberIn) := goodIn_app (goodIn_of _ (by decide +kernel)) ggX3_isSame_X2_numberIn
set_option maxRecDepth 20000 in
theorem ggX3_isSame_X3_can : GoodIn wsX3_isSame wsX3_can := goodIn_r _ [78, 6, 79, 80, 11, 81, 82, 83, 84, 199, 200, 201] (by decide +kernel) (by decide +kernel)
set_option maxRecDepth 20000 in
theorem gX3_isSame_X3_can : GoodIn wsX3_isSame (wsV RX3 84 RX3 yX3_can wsX3_can) := goodIn_app (goodIn_of _ (by decide +kernel)) ggX3_isSame_X3_can
set_option maxRecDepth 20000 in
theorem ggX3_isSame_X2_differences : GoodIn wsX3_isSame wsX2_differences := goodIn_ca (goodIn_r _ [88, 26, 69, 70, 71, 24, 72, 31, 32, 73, 74, 89, 90, 91, 36, 92, 38, 52, 40, 41, 42, 43, 202, 203, 204, 205, 206, 207, 208, 209] (by decide +kernel) (by decide +kernel)) (goodIn_sub (fun _ h => List.mem_cons_of_mem _ (List.mem_append_right _ h)) (by decide +kernel))
set_option maxRecDepth 20000 in
theorem gX3_isSame_X2_differences : GoodIn wsX3_isSame (wsV RX3 88 RX2 yX2_differences wsX2_differences) := goodIn_app (goodIn_of _ (by decide +kernel)) ggX3_isSame_X2_differences
set_option maxRecDepth 20000 in
theorem ggX3_isSame_X2_canReach : GoodIn wsX3_isSame wsX2_canReach := goodIn_ca (goodIn_r _ [96, 26, 69, 70, 71, 24, 72, 31, 32, 73, 74, 97, 98, 99, 36, 100, 101, 102, 103, 104, 38, 52, 40, 41, 42, 43, 105, 106, 107, 108, 109, 110, 111, 112, 202, 203, 204, 205, 206, 207, 208, 209] (by decide +kernel) (by decide +kernel)) (goodIn_sub (fun _ h => List.mem_cons_of_mem _ (List.mem_append_right _ h)) (by decide +kernel))
set_option maxRecDepth 20000 in
theorem gX3_isSame_X2_canReach : GoodIn wsX3_isSame (wsV RX3 91 RX2 yX2_canReach wsX2_canReach) := goodIn_app (goodIn_of _ (by decide +kernel)) ggX3_isSame_X2_canReach
set_option maxRecDepth 20000 in
theorem ggX3_isSame_X2_places : GoodIn wsX3_isSame wsX2_places := goodIn_r _ [116, 26, 33, 34, 35, 36, 37, 38, 202, 203, 204, 205, 206, 207, 208, 209] (by decide +kernel) (by decide +kernel)
set_option maxRecDepth 20000 in
theorem gX3_isSame_X2_places : GoodIn wsX3_isSame (wsV RX3 94 RX2 yX2_places wsX2_places) := goodIn_app (goodIn_of _ (by decide +kernel)) ggX3_isSame_X2_places
set_option maxRecDepth 20000 in
theorem ggX3_isSame_X2_targets : GoodIn wsX3_isSame wsX2_targets := goodIn_r _ [120, 73, 202, 203, 204, 205, 206, 207] (by decide +kernel) (by decide +kernel)
set_option maxRecDepth 20000 in
theorem gX3_isSame_X2_targets : GoodIn wsX3_isSame (wsV RX3 98 RX2 yX2_targets wsX2_targets) := goodIn_app (goodIn_of _ (by decide +kernel)) ggX3_isSame_X2_targets
set_option maxRecDepth 20000 in
theorem ggX3_isSame_X2_tips : GoodIn wsX3_isSame wsX2_tips := goodIn_r _ [124, 125, 202, 203, 204, 205, 206, 207] (by decide +kernel) (by decide +kernel)
set_option maxRecDepth 20000 in
theorem gX3_isSame_X2_tips : GoodIn wsX3_isSame (wsV RX3 100 RX2 yX2_tips wsX2_tips) := goodIn_app (goodIn_of _ (by decide +kernel)) ggX3_isSame_X2_tips
set_option maxRecDepth 20000 in
theorem ggX3_isSame_X2_sum : GoodIn wsX3_isSame wsX2_sum := goodIn_r _ [129, 26, 130, 102, 103, 36, 104, 38, 52, 40, 41, 42, 43, 202, 203, 204, 205, 206, 207, 208, 209] (by decide +kernel) (by decide +kernel)
set_option maxRecDepth 20000 in
theorem gX3_isSame_X2_sum : GoodIn wsX3_isSame (wsV RX3 102 RX2 yX2_sum wsX2_sum) := goodIn_app (goodIn_of _ (by decide +kernel)) ggX3_isSame_X2_sum
set_option maxRecDepth 20000 in
theorem ggX3_isSame_X3_sum : GoodIn wsX3_isSame wsX3_sum := goodIn_r _ [81] (by decide +kernel) (by decide +kernel)
set_option maxRecDepth 20000 in
theorem gX3_isSame_X3_sum : GoodIn wsX3_isSame (va_wsS RX3 42 yX3_sum wsX3_sum) := goodIn_app (goodIn_of _ (by decide +kernel)) ggX3_isSame_X3_sum
set_option maxRecDepth 20000 in
theorem ggX3_isSame_X2_moment : GoodIn wsX3_isSame wsX2_moment := goodIn_r _ [134, 26, 135, 106, 107, 36, 108, 38, 52, 40, 41, 42, 43, 109, 110, 111, 112, 202, 203, 204, 205, 206, 207, 208, 209] (by decide +kernel) (by decide +kernel)
set_option maxRecDepth 20000 in
theorem gX3_isSame_X2_moment : GoodIn wsX3_isSame (wsV RX3 104 RX2 yX2_moment wsX2_moment) := goodIn_app (goodIn_of _ (by decide +kernel)) ggX3_isSame_X2_moment
set_option maxRecDepth 20000 in
theorem ggX3_isSame_X3_moment : GoodIn wsX3_isSame wsX3_moment := goodIn_r _ [84] (by decide +kernel) (by decide +kernel)
set_option maxRecDepth 20000 in
theorem gX3_isSame_X3_moment : GoodIn wsX3_isSame (va_wsS RX3 46 yX3_moment wsX3_moment) := goodIn_app (goodIn_of _ (by decide +kernel)) ggX3_isSame_X3_moment
set_option maxRecDepth 20000 in
theorem ggX3_isSame_X2_spread : GoodIn wsX3_isSame wsX2_spread := goodIn_r _ [139, 26, 140, 141, 142, 36, 143, 38, 144, 145, 4, 146, 52, 40, 41, 42, 43, 147, 148, 149, 150, 202, 203, 204, 205, 206, 207, 208, 209] (by decide +kernel) (by decide +kernel)
set_option maxRecDepth 20000 in
theorem gX3_isSame_X2_spread : GoodIn wsX3_isSame (wsV RX3 106 RX2 yX2_spread wsX2_spread) := goodIn_app (goodIn_of _ (by decide +kernel)) ggX3_isSame_X2_spread
set_option maxRecDepth 20000 in
theorem ggX3_isSame_X3_spread : GoodIn wsX3_isSame wsX3_spread := goodIn_r _ [153, 154, 155, 156, 145, 4, 146, 157, 158, 159] (by decide +kernel) (by decide +kernel)
set_option maxRecDepth 20000 in
theorem gX3_isSame_X3_spread : GoodIn wsX3_isSame (va_wsS RX3 109 yX3_spread wsX3_spread) := goodIn_app (goodIn_of _ (by decide +kernel)) ggX3_isSame_X3_spread
set_option maxRecDepth 20000 in
theorem ggX3_isSame_X2_highest : GoodIn wsX3_isSame wsX2_highest := goodIn_r _ [163, 26, 164, 148, 149, 36, 150, 38, 52, 40, 41, 42, 43, 202, 203, 204, 205, 206, 207, 208, 209] (by decide +kernel) (by decide +kernel)
set_option maxRecDepth 20000 in
theorem gX3_isSame_X2_highest : GoodIn wsX3_isSame (wsV RX3 111 RX2 yX2_highest wsX2_highest) := goodIn_app (goodIn_of _ (by decide +kernel)) ggX3_isSame_X2_highest
set_option maxRecDepth 20000 in
theorem ggX3_isSame_X2_steepPlaces : GoodIn wsX3_isSame wsX2_steepPlaces := goodIn_r _ [168, 26, 33, 34, 35, 36, 37, 38, 48, 49, 50, 51, 52, 40, 41, 42, 43, 53, 54, 55, 56, 202, 203, 204, 205, 206, 207, 208, 209] (by decide +kernel) (by decide +kernel)
set_option maxRecDepth 20000 in
theorem gX3_isSame_X2_steepPlaces : GoodIn wsX3_isSame (wsV RX3 114 RX2 yX2_steepPlaces wsX2_steepPlaces) := goodIn_app (goodIn_of _ (by decide +kernel)) ggX3_isSame_X2_steepPlaces
set_option maxRecDepth 20000 in
theorem ggX3_isSame_X2_nextToTip : GoodIn wsX3_isSame wsX2_nextToTip := goodIn_r _ [172, 26, 173, 174, 175, 36, 176, 38, 177, 49, 50, 51, 52, 40, 41, 42, 43, 53, 54, 55, 56, 202, 203, 204, 205, 206, 207, 208, 209] (by decide +kernel) (by decide +kernel)
set_option maxRecDepth 20000 in
theorem gX3_isSame_X2_nextToTip : GoodIn wsX3_isSame (wsV RX3 117 RX2 yX2_nextToTip wsX2_nextToTip) := goodIn_app (goodIn_of _ (by decide +kernel)) ggX3_isSame_X2_nextToTip
set_option maxRecDepth 20000 in
theorem ggX3_isSame_X3_steep : GoodIn wsX3_isSame wsX3_steep := goodIn_r _ [181, 17, 18, 19, 11, 20, 13, 14, 15, 16] (by decide +kernel) (by decide +kernel)
set_option maxRecDepth 20000 in
theorem gX3_isSame_X3_steep : GoodIn wsX3_isSame (wsV RX3 57 RX3 yX3_steep wsX3_steep) := goodIn_app (goodIn_of _ (by decide +kernel)) ggX3_isSame_X3_steep
set_option maxRecDepth 20000 in
theorem ggX3_isSame_X2_levelAxes : GoodIn wsX3_isSame wsX2_levelAxes := goodIn_r _ [185, 26, 33, 34, 35, 36, 37, 38, 61, 62, 63, 64, 53, 54, 55, 56, 52, 40, 41, 42, 43, 202, 203, 204, 205, 206, 207, 208, 209] (by decide +kernel) (by decide +kernel)
set_option maxRecDepth 20000 in
theorem gX3_isSame_X2_levelAxes : GoodIn wsX3_isSame (wsV RX3 120 RX2 yX2_levelAxes wsX2_levelAxes) := goodIn_app (goodIn_of _ (by decide +kernel)) ggX3_isSame_X2_levelAxes
set_option maxRecDepth 20000 in
theorem ggX3_isSame_X2_bestAxis : GoodIn wsX3_isSame wsX2_bestAxis := goodIn_r _ [189, 26, 190, 3, 4, 5, 33, 34, 35, 36, 37, 38, 61, 62, 63, 64, 53, 54, 55, 56, 52, 40, 41, 42, 43, 202, 203, 204, 205, 206, 207, 208, 209] (by decide +kernel) (by decide +kernel)
set_option maxRecDepth 20000 in
theorem gX3_isSame_X2_bestAxis : GoodIn wsX3_isSame (wsV RX3 123 RX2 yX2_bestAxis wsX2_bestAxis) := goodIn_app (goodIn_of _ (by decide +kernel)) ggX3_isSame_X2_bestAxis
set_option maxRecDepth 20000 in
theorem ggX3_isSame_X2_reachable : GoodIn wsX3_isSame wsX2_reachable := goodIn_ca (goodIn_r _ [194, 73, 26, 69, 70, 71, 24, 72, 31, 32, 74, 97, 98, 99, 36, 100, 101, 102, 103, 104, 38, 52, 40, 41, 42, 43, 105, 106, 107, 108, 109, 110, 111, 112, 202, 203, 204, 205, 206, 207, 208, 209] (by decide +kernel) (by decide +kernel)) (goodIn_sub (fun _ h => List.mem_cons_of_mem _ (List.mem_append_right _ h)) (by decide +kernel))
set_option maxRecDepth 20000 in
theorem gX3_isSame_X2_reachable : GoodIn wsX3_isSame (wsV RX3 126 RX2 yX2_reachable wsX2_reachable) := goodIn_app (goodIn_of _ (by decide +kernel)) ggX3_isSame_X2_reachable
set_option maxRecDepth 20000 in
theorem ggX3_isSame_X2_meanNumber : GoodIn wsX3_isSame wsX2_meanNumber := goodIn_r _ [198, 26, 33, 34, 35, 36, 37, 38, 130, 102, 103, 104, 52, 40, 41, 42, 43, 202, 203, 204, 205, 206, 207, 208, 209] (by decide +kernel) (by decide +kernel)
set_option maxRecDepth 20000 in
theorem gX3_isSame_X2_meanNumber : GoodIn wsX3_isSame (wsV RX3 129 RX2 yX2_meanNumber wsX2_meanNumber) := goodIn_app (goodIn_of _ (by decide +kernel)) ggX3_isSame_X2_meanNumber
theorem dX3_isSame_0 : decode cX3_isSame 0 = .ok (.aload_n 0, 1) := by decide +kernel
theorem dX3_isSame_1 : decode cX3_isSame 1 = .ok (.getfield 7, 3) := by decide +kernel
theorem dX3_isSame_4 : decode cX3_isSame 4 = .ok (.arraylength, 1) := by decide +kernel
theorem dX3_isSame_5 : decode cX3_isSame 5 = .ok (.istore_n 2, 1) := by decide +kernel
theorem dX3_isSame_6 : decode cX3_isSame 6 = .ok (.iconst 0, 1) := by decide +kernel
theorem dX3_isSame_7 : decode cX3_isSame 7 = .ok (.istore_n 3, 1) := by decide +kernel
theorem dX3_isSame_8 : decode cX3_isSame 8 = .ok (.iconst 0, 1) := by decide +kernel
theorem dX3_isSame_9 : decode cX3_isSame 9 = .ok (.istore 4, 2) := by decide +kernel
theorem dX3_isSame_11 : decode cX3_isSame 11 = .ok (.iload_n 2, 1) := by decide +kernel
theorem dX3_isSame_12 : decode cX3_isSame 12 = .ok (.iconst 1, 1) := by decide +kernel
theorem dX3_isSame_13 : decode cX3_isSame 13 = .ok (.isub, 1) := by decide +kernel
theorem dX3_isSame_14 : decode cX3_isSame 14 = .ok (.istore 5, 2) := by decide +kernel
theorem dX3_isSame_16 : decode cX3_isSame 16 = .ok (.iload_n 2, 1) := by decide +kernel
theorem dX3_isSame_17 : decode cX3_isSame 17 = .ok (.iconst 1, 1) := by decide +kernel
theorem dX3_isSame_18 : decode cX3_isSame 18 = .ok (.isub, 1) := by decide +kernel
theorem dX3_isSame_19 : decode cX3_isSame 19 = .ok (.istore 6, 2) := by decide +kernel
theorem dX3_isSame_21 : decode cX3_isSame 21 = .ok (.iload_n 2, 1) := by decide +kernel
theorem dX3_isSame_22 : decode cX3_isSame 22 = .ok (.iconst 1, 1) := by decide +kernel
theorem dX3_isSame_23 : decode cX3_isSame 23 = .ok (.isub, 1) := by decide +kernel
theorem dX3_isSame_24 : decode cX3_isSame 24 = .ok (.istore 7, 2) := by decide +kernel
theorem dX3_isSame_26 : decode cX3_isSame 26 = .ok (.iload 7, 2) := by decide +kernel
theorem dX3_isSame_28 : decode cX3_isSame 28 = .ok (.ifCond .lt 153, 3) := by decide +kernel
theorem dX3_isSame_31 : decode cX3_isSame 31 = .ok (.aload_n 0, 1) := by decide +kernel
theorem dX3_isSame_32 : decode cX3_isSame 32 = .ok (.iload 7, 2) := by decide +kernel
theorem dX3_isSame_34 : decode cX3_isSame 34 = .ok (.invokevirtual 68, 3) := by decide +kernel
theorem dX3_isSame_37 : decode cX3_isSame 37 = .ok (.istore 8, 2) := by decide +kernel
theorem dX3_isSame_39 : decode cX3_isSame 39 = .ok (.iload_n 3, 1) := by decide +kernel
theorem dX3_isSame_40 : decode cX3_isSame 40 = .ok (.aload_n 0, 1) := by decide +kernel
theorem dX3_isSame_41 : decode cX3_isSame 41 = .ok (.aload_n 0, 1) := by decide +kernel
theorem dX3_isSame_42 : decode cX3_isSame 42 = .ok (.getfield 7, 3) := by decide +kernel
theorem dX3_isSame_45 : decode cX3_isSame 45 = .ok (.iload 7, 2) := by decide +kernel
theorem dX3_isSame_47 : decode cX3_isSame 47 = .ok (.invokevirtual 26, 3) := by decide +kernel
theorem dX3_isSame_50 : decode cX3_isSame 50 = .ok (.iconst 3, 1) := by decide +kernel
theorem dX3_isSame_51 : decode cX3_isSame 51 = .ok (.if_icmp .le 7, 3) := by decide +kernel
theorem dX3_isSame_54 : decode cX3_isSame 54 = .ok (.iconst 1, 1) := by decide +kernel
theorem dX3_isSame_55 : decode cX3_isSame 55 = .ok (.goto 4, 3) := by decide +kernel
theorem dX3_isSame_58 : decode cX3_isSame 58 = .ok (.iconst 0, 1) := by decide +kernel
theorem dX3_isSame_59 : decode cX3_isSame 59 = .ok (.iadd, 1) := by decide +kernel
theorem dX3_isSame_60 : decode cX3_isSame 60 = .ok (.istore_n 3, 1) := by decide +kernel
theorem dX3_isSame_61 : decode cX3_isSame 61 = .ok (.iload 4, 2) := by decide +kernel
theorem dX3_isSame_63 : decode cX3_isSame 63 = .ok (.iload 8, 2) := by decide +kernel
theorem dX3_isSame_65 : decode cX3_isSame 65 = .ok (.ifCond .ne 7, 3) := by decide +kernel
theorem dX3_isSame_68 : decode cX3_isSame 68 = .ok (.iconst 1, 1) := by decide +kernel
theorem dX3_isSame_69 : decode cX3_isSame 69 = .ok (.goto 4, 3) := by decide +kernel
theorem dX3_isSame_72 : decode cX3_isSame 72 = .ok (.iconst 0, 1) := by decide +kernel
theorem dX3_isSame_73 : decode cX3_isSame 73 = .ok (.iadd, 1) := by decide +kernel
theorem dX3_isSame_74 : decode cX3_isSame 74 = .ok (.istore 4, 2) := by decide +kernel
theorem dX3_isSame_76 : decode cX3_isSame 76 = .ok (.iload 8, 2) := by decide +kernel
theorem dX3_isSame_78 : decode cX3_isSame 78 = .ok (.invokestatic 53, 3) := by decide +kernel
theorem dX3_isSame_81 : decode cX3_isSame 81 = .ok (.aload_n 0, 1) := by decide +kernel
theorem dX3_isSame_82 : decode cX3_isSame 82 = .ok (.iload 5, 2) := by decide +kernel
theorem dX3_isSame_84 : decode cX3_isSame 84 = .ok (.invokevirtual 68, 3) := by decide +kernel
theorem dX3_isSame_87 : decode cX3_isSame 87 = .ok (.invokestatic 53, 3) := by decide +kernel
theorem dX3_isSame_90 : decode cX3_isSame 90 = .ok (.if_icmp .gt 7, 3) := by decide +kernel
theorem dX3_isSame_93 : decode cX3_isSame 93 = .ok (.iload 7, 2) := by decide +kernel
theorem dX3_isSame_95 : decode cX3_isSame 95 = .ok (.istore 5, 2) := by decide +kernel
theorem dX3_isSame_97 : decode cX3_isSame 97 = .ok (.aload_n 0, 1) := by decide +kernel
theorem dX3_isSame_98 : decode cX3_isSame 98 = .ok (.getfield 7, 3) := by decide +kernel
theorem dX3_isSame_101 : decode cX3_isSame 101 = .ok (.iload 7, 2) := by decide +kernel
theorem dX3_isSame_103 : decode cX3_isSame 103 = .ok (.iaload, 1) := by decide +kernel
theorem dX3_isSame_104 : decode cX3_isSame 104 = .ok (.aload_n 0, 1) := by decide +kernel
theorem dX3_isSame_105 : decode cX3_isSame 105 = .ok (.getfield 7, 3) := by decide +kernel
theorem dX3_isSame_108 : decode cX3_isSame 108 = .ok (.iload 6, 2) := by decide +kernel
theorem dX3_isSame_110 : decode cX3_isSame 110 = .ok (.iaload, 1) := by decide +kernel
theorem dX3_isSame_111 : decode cX3_isSame 111 = .ok (.if_icmp .lt 7, 3) := by decide +kernel
theorem dX3_isSame_114 : decode cX3_isSame 114 = .ok (.iload 7, 2) := by decide +kernel
theorem dX3_isSame_116 : decode cX3_isSame 116 = .ok (.istore 6, 2) := by decide +kernel
theorem dX3_isSame_118 : decode cX3_isSame 118 = .ok (.aload_n 1, 1) := by decide +kernel
theorem dX3_isSame_119 : decode cX3_isSame 119 = .ok (.iload 7, 2) := by decide +kernel
theorem dX3_isSame_121 : decode cX3_isSame 121 = .ok (.invokevirtual 71, 3) := by decide +kernel
theorem dX3_isSame_124 : decode cX3_isSame 124 = .ok (.aload_n 0, 1) := by decide +kernel
theorem dX3_isSame_125 : decode cX3_isSame 125 = .ok (.getfield 7, 3) := by decide +kernel
theorem dX3_isSame_128 : decode cX3_isSame 128 = .ok (.iload 7, 2) := by decide +kernel
theorem dX3_isSame_130 : decode cX3_isSame 130 = .ok (.iaload, 1) := by decide +kernel
theorem dX3_isSame_131 : decode cX3_isSame 131 = .ok (.if_icmp .ne 42, 3) := by decide +kernel
theorem dX3_isSame_134 : decode cX3_isSame 134 = .ok (.aload_n 1, 1) := by decide +kernel
theorem dX3_isSame_135 : decode cX3_isSame 135 = .ok (.iload 7, 2) := by decide +kernel
theorem dX3_isSame_137 : decode cX3_isSame 137 = .ok (.invokevirtual 76, 3) := by decide +kernel
theorem dX3_isSame_140 : decode cX3_isSame 140 = .ok (.aload_n 0, 1) := by decide +kernel
theorem dX3_isSame_141 : decode cX3_isSame 141 = .ok (.aload_n 0, 1) := by decide +kernel
theorem dX3_isSame_142 : decode cX3_isSame 142 = .ok (.getfield 7, 3) := by decide +kernel
theorem dX3_isSame_145 : decode cX3_isSame 145 = .ok (.iload 7, 2) := by decide +kernel
theorem dX3_isSame_147 : decode cX3_isSame 147 = .ok (.invokevirtual 26, 3) := by decide +kernel
theorem dX3_isSame_150 : decode cX3_isSame 150 = .ok (.iconst 3, 1) := by decide +kernel
theorem dX3_isSame_151 : decode cX3_isSame 151 = .ok (.if_icmp .le 7, 3) := by decide +kernel
theorem dX3_isSame_154 : decode cX3_isSame 154 = .ok (.iconst 1, 1) := by decide +kernel
theorem dX3_isSame_155 : decode cX3_isSame 155 = .ok (.goto 4, 3) := by decide +kernel
theorem dX3_isSame_158 : decode cX3_isSame 158 = .ok (.iconst 0, 1) := by decide +kernel
theorem dX3_isSame_159 : decode cX3_isSame 159 = .ok (.if_icmp .ne 14, 3) := by decide +kernel
theorem dX3_isSame_162 : decode cX3_isSame 162 = .ok (.aload_n 1, 1) := by decide +kernel
theorem dX3_isSame_163 : decode cX3_isSame 163 = .ok (.iload 7, 2) := by decide +kernel
theorem dX3_isSame_165 : decode cX3_isSame 165 = .ok (.invokevirtual 80, 3) := by decide +kernel
theorem dX3_isSame_168 : decode cX3_isSame 168 = .ok (.iload 8, 2) := by decide +kernel
theorem dX3_isSame_170 : decode cX3_isSame 170 = .ok (.if_icmp .eq 5, 3) := by decide +kernel
theorem dX3_isSame_173 : decode cX3_isSame 173 = .ok (.iconst 0, 1) := by decide +kernel
theorem dX3_isSame_174 : decode cX3_isSame 174 = .ok (.ireturn, 1) := by decide +kernel
theorem dX3_isSame_175 : decode cX3_isSame 175 = .ok (.iinc 7 (-1), 3) := by decide +kernel
theorem dX3_isSame_178 : decode cX3_isSame 178 = .ok (.goto (-152), 3) := by decide +kernel
theorem dX3_isSame_181 : decode cX3_isSame 181 = .ok (.iconst 0, 1) := by decide +kernel
theorem dX3_isSame_182 : decode cX3_isSame 182 = .ok (.istore 7, 2) := by decide +kernel
theorem dX3_isSame_184 : decode cX3_isSame 184 = .ok (.iconst 0, 1) := by decide +kernel
theorem dX3_isSame_185 : decode cX3_isSame 185 = .ok (.istore 8, 2) := by decide +kernel
theorem dX3_isSame_187 : decode cX3_isSame 187 = .ok (.iload 8, 2) := by decide +kernel
theorem dX3_isSame_189 : decode cX3_isSame 189 = .ok (.aload_n 0, 1) := by decide +kernel
theorem dX3_isSame_190 : decode cX3_isSame 190 = .ok (.getfield 14, 3) := by decide +kernel
theorem dX3_isSame_193 : decode cX3_isSame 193 = .ok (.arraylength, 1) := by decide +kernel
theorem dX3_isSame_194 : decode cX3_isSame 194 = .ok (.if_icmp .ge 135, 3) := by decide +kernel
theorem dX3_isSame_197 : decode cX3_isSame 197 = .ok (.iconst 0, 1) := by decide +kernel
theorem dX3_isSame_198 : decode cX3_isSame 198 = .ok (.istore 9, 2) := by decide +kernel
theorem dX3_isSame_200 : decode cX3_isSame 200 = .ok (.iconst 0, 1) := by decide +kernel
theorem dX3_isSame_201 : decode cX3_isSame 201 = .ok (.istore 10, 2) := by decide +kernel
theorem dX3_isSame_203 : decode cX3_isSame 203 = .ok (.iload 10, 2) := by decide +kernel
theorem dX3_isSame_205 : decode cX3_isSame 205 = .ok (.iload_n 2, 1) := by decide +kernel
theorem dX3_isSame_206 : decode cX3_isSame 206 = .ok (.if_icmp .ge 62, 3) := by decide +kernel
theorem dX3_isSame_209 : decode cX3_isSame 209 = .ok (.iload 9, 2) := by decide +kernel
theorem dX3_isSame_211 : decode cX3_isSame 211 = .ok (.aload_n 0, 1) := by decide +kernel
theorem dX3_isSame_212 : decode cX3_isSame 212 = .ok (.getfield 7, 3) := by decide +kernel
theorem dX3_isSame_215 : decode cX3_isSame 215 = .ok (.iload 10, 2) := by decide +kernel
theorem dX3_isSame_217 : decode cX3_isSame 217 = .ok (.iaload, 1) := by decide +kernel
theorem dX3_isSame_218 : decode cX3_isSame 218 = .ok (.aload_n 0, 1) := by decide +kernel
theorem dX3_isSame_219 : decode cX3_isSame 219 = .ok (.getfield 14, 3) := by decide +kernel
theorem dX3_isSame_222 : decode cX3_isSame 222 = .ok (.iload 8, 2) := by decide +kernel
theorem dX3_isSame_224 : decode cX3_isSame 224 = .ok (.aaload, 1) := by decide +kernel
theorem dX3_isSame_225 : decode cX3_isSame 225 = .ok (.iload 10, 2) := by decide +kernel
theorem dX3_isSame_227 : decode cX3_isSame 227 = .ok (.iaload, 1) := by decide +kernel
theorem dX3_isSame_228 : decode cX3_isSame 228 = .ok (.if_icmp .eq 7, 3) := by decide +kernel
theorem dX3_isSame_231 : decode cX3_isSame 231 = .ok (.iconst 1, 1) := by decide +kernel
theorem dX3_isSame_232 : decode cX3_isSame 232 = .ok (.goto 4, 3) := by decide +kernel
theorem dX3_isSame_235 : decode cX3_isSame 235 = .ok (.iconst 0, 1) := by decide +kernel
theorem dX3_isSame_236 : decode cX3_isSame 236 = .ok (.iadd, 1) := by decide +kernel
theorem dX3_isSame_237 : decode cX3_isSame 237 = .ok (.istore 9, 2) := by decide +kernel
theorem dX3_isSame_239 : decode cX3_isSame 239 = .ok (.aload_n 1, 1) := by decide +kernel
theorem dX3_isSame_240 : decode cX3_isSame 240 = .ok (.iload 8, 2) := by decide +kernel
theorem dX3_isSame_242 : decode cX3_isSame 242 = .ok (.iload 10, 2) := by decide +kernel
theorem dX3_isSame_244 : decode cX3_isSame 244 = .ok (.invokevirtual 81, 3) := by decide +kernel
theorem dX3_isSame_247 : decode cX3_isSame 247 = .ok (.aload_n 0, 1) := by decide +kernel
theorem dX3_isSame_248 : decode cX3_isSame 248 = .ok (.getfield 14, 3) := by decide +kernel
theorem dX3_isSame_251 : decode cX3_isSame 251 = .ok (.iload 8, 2) := by decide +kernel
theorem dX3_isSame_253 : decode cX3_isSame 253 = .ok (.aaload, 1) := by decide +kernel
theorem dX3_isSame_254 : decode cX3_isSame 254 = .ok (.iload 10, 2) := by decide +kernel
theorem dX3_isSame_256 : decode cX3_isSame 256 = .ok (.iaload, 1) := by decide +kernel
theorem dX3_isSame_257 : decode cX3_isSame 257 = .ok (.if_icmp .eq 5, 3) := by decide +kernel
theorem dX3_isSame_260 : decode cX3_isSame 260 = .ok (.iconst 0, 1) := by decide +kernel
theorem dX3_isSame_261 : decode cX3_isSame 261 = .ok (.ireturn, 1) := by decide +kernel
theorem dX3_isSame_262 : decode cX3_isSame 262 = .ok (.iinc 10 1, 3) := by decide +kernel
theorem dX3_isSame_265 : decode cX3_isSame 265 = .ok (.goto (-62), 3) := by decide +kernel
theorem dX3_isSame_268 : decode cX3_isSame 268 = .ok (.iload 7, 2) := by decide +kernel
theorem dX3_isSame_270 : decode cX3_isSame 270 = .ok (.aload_n 0, 1) := by decide +kernel
theorem dX3_isSame_271 : decode cX3_isSame 271 = .ok (.aload_n 0, 1) := by decide +kernel
theorem dX3_isSame_272 : decode cX3_isSame 272 = .ok (.getfield 7, 3) := by decide +kernel
theorem dX3_isSame_275 : decode cX3_isSame 275 = .ok (.iload 8, 2) := by decide +kernel
theorem dX3_isSame_277 : decode cX3_isSame 277 = .ok (.invokevirtual 84, 3) := by decide +kernel
theorem dX3_isSame_280 : decode cX3_isSame 280 = .ok (.ifCond .eq 7, 3) := by decide +kernel
theorem dX3_isSame_283 : decode cX3_isSame 283 = .ok (.iconst 1, 1) := by decide +kernel
theorem dX3_isSame_284 : decode cX3_isSame 284 = .ok (.goto 4, 3) := by decide +kernel
theorem dX3_isSame_287 : decode cX3_isSame 287 = .ok (.iconst 0, 1) := by decide +kernel
theorem dX3_isSame_288 : decode cX3_isSame 288 = .ok (.iadd, 1) := by decide +kernel
theorem dX3_isSame_289 : decode cX3_isSame 289 = .ok (.istore 7, 2) := by decide +kernel
theorem dX3_isSame_291 : decode cX3_isSame 291 = .ok (.aload_n 1, 1) := by decide +kernel
theorem dX3_isSame_292 : decode cX3_isSame 292 = .ok (.iload 8, 2) := by decide +kernel
theorem dX3_isSame_294 : decode cX3_isSame 294 = .ok (.invokevirtual 88, 3) := by decide +kernel
theorem dX3_isSame_297 : decode cX3_isSame 297 = .ok (.iload 9, 2) := by decide +kernel
theorem dX3_isSame_299 : decode cX3_isSame 299 = .ok (.if_icmp .ne 22, 3) := by decide +kernel
theorem dX3_isSame_302 : decode cX3_isSame 302 = .ok (.aload_n 1, 1) := by decide +kernel
theorem dX3_isSame_303 : decode cX3_isSame 303 = .ok (.iload 8, 2) := by decide +kernel
theorem dX3_isSame_305 : decode cX3_isSame 305 = .ok (.invokevirtual 91, 3) := by decide +kernel
theorem dX3_isSame_308 : decode cX3_isSame 308 = .ok (.aload_n 0, 1) := by decide +kernel
theorem dX3_isSame_309 : decode cX3_isSame 309 = .ok (.aload_n 0, 1) := by decide +kernel
theorem dX3_isSame_310 : decode cX3_isSame 310 = .ok (.getfield 7, 3) := by decide +kernel
theorem dX3_isSame_313 : decode cX3_isSame 313 = .ok (.iload 8, 2) := by decide +kernel
theorem dX3_isSame_315 : decode cX3_isSame 315 = .ok (.invokevirtual 84, 3) := by decide +kernel
theorem dX3_isSame_318 : decode cX3_isSame 318 = .ok (.if_icmp .eq 5, 3) := by decide +kernel
theorem dX3_isSame_321 : decode cX3_isSame 321 = .ok (.iconst 0, 1) := by decide +kernel
theorem dX3_isSame_322 : decode cX3_isSame 322 = .ok (.ireturn, 1) := by decide +kernel
theorem dX3_isSame_323 : decode cX3_isSame 323 = .ok (.iinc 8 1, 3) := by decide +kernel
theorem dX3_isSame_326 : decode cX3_isSame 326 = .ok (.goto (-139), 3) := by decide +kernel
theorem dX3_isSame_329 : decode cX3_isSame 329 = .ok (.aload_n 1, 1) := by decide +kernel
theorem dX3_isSame_330 : decode cX3_isSame 330 = .ok (.invokevirtual 94, 3) := by decide +kernel
theorem dX3_isSame_333 : decode cX3_isSame 333 = .ok (.iload_n 2, 1) := by decide +kernel
theorem dX3_isSame_334 : decode cX3_isSame 334 = .ok (.if_icmp .ne 150, 3) := by decide +kernel
theorem dX3_isSame_337 : decode cX3_isSame 337 = .ok (.aload_n 1, 1) := by decide +kernel
theorem dX3_isSame_338 : decode cX3_isSame 338 = .ok (.invokevirtual 98, 3) := by decide +kernel
theorem dX3_isSame_341 : decode cX3_isSame 341 = .ok (.aload_n 0, 1) := by decide +kernel
theorem dX3_isSame_342 : decode cX3_isSame 342 = .ok (.getfield 14, 3) := by decide +kernel
theorem dX3_isSame_345 : decode cX3_isSame 345 = .ok (.arraylength, 1) := by decide +kernel
theorem dX3_isSame_346 : decode cX3_isSame 346 = .ok (.if_icmp .ne 138, 3) := by decide +kernel
theorem dX3_isSame_349 : decode cX3_isSame 349 = .ok (.aload_n 1, 1) := by decide +kernel
theorem dX3_isSame_350 : decode cX3_isSame 350 = .ok (.invokevirtual 100, 3) := by decide +kernel
theorem dX3_isSame_353 : decode cX3_isSame 353 = .ok (.aload_n 0, 1) := by decide +kernel
theorem dX3_isSame_354 : decode cX3_isSame 354 = .ok (.getfield 64, 3) := by decide +kernel
theorem dX3_isSame_357 : decode cX3_isSame 357 = .ok (.if_icmp .ne 127, 3) := by decide +kernel
theorem dX3_isSame_360 : decode cX3_isSame 360 = .ok (.aload_n 1, 1) := by decide +kernel
theorem dX3_isSame_361 : decode cX3_isSame 361 = .ok (.invokevirtual 102, 3) := by decide +kernel
theorem dX3_isSame_364 : decode cX3_isSame 364 = .ok (.aload_n 0, 1) := by decide +kernel
theorem dX3_isSame_365 : decode cX3_isSame 365 = .ok (.getfield 7, 3) := by decide +kernel
theorem dX3_isSame_368 : decode cX3_isSame 368 = .ok (.invokestatic 42, 3) := by decide +kernel
theorem dX3_isSame_371 : decode cX3_isSame 371 = .ok (.if_icmp .ne 113, 3) := by decide +kernel
theorem dX3_isSame_374 : decode cX3_isSame 374 = .ok (.aload_n 1, 1) := by decide +kernel
theorem dX3_isSame_375 : decode cX3_isSame 375 = .ok (.invokevirtual 104, 3) := by decide +kernel
theorem dX3_isSame_378 : decode cX3_isSame 378 = .ok (.aload_n 0, 1) := by decide +kernel
theorem dX3_isSame_379 : decode cX3_isSame 379 = .ok (.getfield 7, 3) := by decide +kernel
theorem dX3_isSame_382 : decode cX3_isSame 382 = .ok (.invokestatic 46, 3) := by decide +kernel
theorem dX3_isSame_385 : decode cX3_isSame 385 = .ok (.if_icmp .ne 99, 3) := by decide +kernel
theorem dX3_isSame_388 : decode cX3_isSame 388 = .ok (.aload_n 1, 1) := by decide +kernel
theorem dX3_isSame_389 : decode cX3_isSame 389 = .ok (.invokevirtual 106, 3) := by decide +kernel
theorem dX3_isSame_392 : decode cX3_isSame 392 = .ok (.aload_n 0, 1) := by decide +kernel
theorem dX3_isSame_393 : decode cX3_isSame 393 = .ok (.getfield 7, 3) := by decide +kernel
theorem dX3_isSame_396 : decode cX3_isSame 396 = .ok (.invokestatic 109, 3) := by decide +kernel
theorem dX3_isSame_399 : decode cX3_isSame 399 = .ok (.if_icmp .ne 85, 3) := by decide +kernel
theorem dX3_isSame_402 : decode cX3_isSame 402 = .ok (.aload_n 1, 1) := by decide +kernel
theorem dX3_isSame_403 : decode cX3_isSame 403 = .ok (.invokevirtual 111, 3) := by decide +kernel
theorem dX3_isSame_406 : decode cX3_isSame 406 = .ok (.iload 6, 2) := by decide +kernel
theorem dX3_isSame_408 : decode cX3_isSame 408 = .ok (.if_icmp .ne 76, 3) := by decide +kernel
theorem dX3_isSame_411 : decode cX3_isSame 411 = .ok (.aload_n 1, 1) := by decide +kernel
theorem dX3_isSame_412 : decode cX3_isSame 412 = .ok (.invokevirtual 114, 3) := by decide +kernel
theorem dX3_isSame_415 : decode cX3_isSame 415 = .ok (.iload_n 3, 1) := by decide +kernel
theorem dX3_isSame_416 : decode cX3_isSame 416 = .ok (.if_icmp .ne 68, 3) := by decide +kernel
theorem dX3_isSame_419 : decode cX3_isSame 419 = .ok (.aload_n 1, 1) := by decide +kernel
theorem dX3_isSame_420 : decode cX3_isSame 420 = .ok (.invokevirtual 117, 3) := by decide +kernel
theorem dX3_isSame_423 : decode cX3_isSame 423 = .ok (.aload_n 0, 1) := by decide +kernel
theorem dX3_isSame_424 : decode cX3_isSame 424 = .ok (.aload_n 0, 1) := by decide +kernel
theorem dX3_isSame_425 : decode cX3_isSame 425 = .ok (.getfield 7, 3) := by decide +kernel
theorem dX3_isSame_428 : decode cX3_isSame 428 = .ok (.invokevirtual 57, 3) := by decide +kernel
theorem dX3_isSame_431 : decode cX3_isSame 431 = .ok (.if_icmp .ne 53, 3) := by decide +kernel
theorem dX3_isSame_434 : decode cX3_isSame 434 = .ok (.aload_n 1, 1) := by decide +kernel
theorem dX3_isSame_435 : decode cX3_isSame 435 = .ok (.invokevirtual 120, 3) := by decide +kernel
theorem dX3_isSame_438 : decode cX3_isSame 438 = .ok (.iload 4, 2) := by decide +kernel
theorem dX3_isSame_440 : decode cX3_isSame 440 = .ok (.if_icmp .ne 44, 3) := by decide +kernel
theorem dX3_isSame_443 : decode cX3_isSame 443 = .ok (.aload_n 1, 1) := by decide +kernel
theorem dX3_isSame_444 : decode cX3_isSame 444 = .ok (.invokevirtual 123, 3) := by decide +kernel
theorem dX3_isSame_447 : decode cX3_isSame 447 = .ok (.iload 5, 2) := by decide +kernel
theorem dX3_isSame_449 : decode cX3_isSame 449 = .ok (.if_icmp .ne 35, 3) := by decide +kernel
theorem dX3_isSame_452 : decode cX3_isSame 452 = .ok (.aload_n 1, 1) := by decide +kernel
theorem dX3_isSame_453 : decode cX3_isSame 453 = .ok (.invokevirtual 126, 3) := by decide +kernel
theorem dX3_isSame_456 : decode cX3_isSame 456 = .ok (.iload 7, 2) := by decide +kernel
theorem dX3_isSame_458 : decode cX3_isSame 458 = .ok (.if_icmp .ne 26, 3) := by decide +kernel
theorem dX3_isSame_461 : decode cX3_isSame 461 = .ok (.aload_n 1, 1) := by decide +kernel
theorem dX3_isSame_462 : decode cX3_isSame 462 = .ok (.invokevirtual 129, 3) := by decide +kernel
theorem dX3_isSame_465 : decode cX3_isSame 465 = .ok (.aload_n 0, 1) := by decide +kernel
theorem dX3_isSame_466 : decode cX3_isSame 466 = .ok (.getfield 7, 3) := by decide +kernel
theorem dX3_isSame_469 : decode cX3_isSame 469 = .ok (.invokestatic 42, 3) := by decide +kernel
theorem dX3_isSame_472 : decode cX3_isSame 472 = .ok (.i2d, 1) := by decide +kernel
theorem dX3_isSame_473 : decode cX3_isSame 473 = .ok (.iload_n 2, 1) := by decide +kernel
theorem dX3_isSame_474 : decode cX3_isSame 474 = .ok (.i2d, 1) := by decide +kernel
theorem dX3_isSame_475 : decode cX3_isSame 475 = .ok (.ddiv, 1) := by decide +kernel
theorem dX3_isSame_476 : decode cX3_isSame 476 = .ok (.dcmp .l, 1) := by decide +kernel
theorem dX3_isSame_477 : decode cX3_isSame 477 = .ok (.ifCond .ne 7, 3) := by decide +kernel
theorem dX3_isSame_480 : decode cX3_isSame 480 = .ok (.iconst 1, 1) := by decide +kernel
theorem dX3_isSame_481 : decode cX3_isSame 481 = .ok (.goto 4, 3) := by decide +kernel
theorem dX3_isSame_484 : decode cX3_isSame 484 = .ok (.iconst 0, 1) := by decide +kernel
theorem dX3_isSame_485 : decode cX3_isSame 485 = .ok (.ireturn, 1) := by decide +kernel
theorem dJ9_floorMod_7cf53_0 : decode cJ9_floorMod_7cf53 0 = .ok (.iload_n 0, 1) := by decide +kernel
theorem dJ9_floorMod_7cf53_1 : decode cJ9_floorMod_7cf53 1 = .ok (.iload_n 1, 1) := by decide +kernel
theorem dJ9_floorMod_7cf53_2 : decode cJ9_floorMod_7cf53 2 = .ok (.irem, 1) := by decide +kernel
theorem dJ9_floorMod_7cf53_3 : decode cJ9_floorMod_7cf53 3 = .ok (.istore_n 2, 1) := by decide +kernel
theorem dJ9_floorMod_7cf53_4 : decode cJ9_floorMod_7cf53 4 = .ok (.iload_n 0, 1) := by decide +kernel
theorem dJ9_floorMod_7cf53_5 : decode cJ9_floorMod_7cf53 5 = .ok (.iload_n 1, 1) := by decide +kernel
theorem dJ9_floorMod_7cf53_6 : decode cJ9_floorMod_7cf53 6 = .ok (.ixor, 1) := by decide +kernel
theorem dJ9_floorMod_7cf53_7 : decode cJ9_floorMod_7cf53 7 = .ok (.ifCond .ge 11, 3) := by decide +kernel
theorem dJ9_floorMod_7cf53_10 : decode cJ9_floorMod_7cf53 10 = .ok (.iload_n 2, 1) := by decide +kernel
theorem dJ9_floorMod_7cf53_11 : decode cJ9_floorMod_7cf53 11 = .ok (.ifCond .eq 7, 3) := by decide +kernel
theorem dJ9_floorMod_7cf53_14 : decode cJ9_floorMod_7cf53 14 = .ok (.iload_n 2, 1) := by decide +kernel
theorem dJ9_floorMod_7cf53_15 : decode cJ9_floorMod_7cf53 15 = .ok (.iload_n 1, 1) := by decide +kernel
theorem dJ9_floorMod_7cf53_16 : decode cJ9_floorMod_7cf53 16 = .ok (.iadd, 1) := by decide +kernel
theorem dJ9_floorMod_7cf53_17 : decode cJ9_floorMod_7cf53 17 = .ok (.ireturn, 1) := by decide +kernel
theorem dJ9_floorMod_7cf53_18 : decode cJ9_floorMod_7cf53 18 = .ok (.iload_n 2, 1) := by decide +kernel
theorem dJ9_floorMod_7cf53_19 : decode cJ9_floorMod_7cf53 19 = .ok (.ireturn, 1) := by decide +kernel
theorem dJ9_abs_0f7a4_0 : decode cJ9_abs_0f7a4 0 = .ok (.iload_n 0, 1) := by decide +kernel
theorem dJ9_abs_0f7a4_1 : decode cJ9_abs_0f7a4 1 = .ok (.ifCond .ge 8, 3) := by decide +kernel
theorem dJ9_abs_0f7a4_4 : decode cJ9_abs_0f7a4 4 = .ok (.iload_n 0, 1) := by decide +kernel
theorem dJ9_abs_0f7a4_5 : decode cJ9_abs_0f7a4 5 = .ok (.ineg, 1) := by decide +kernel
theorem dJ9_abs_0f7a4_6 : decode cJ9_abs_0f7a4 6 = .ok (.goto 4, 3) := by decide +kernel
theorem dJ9_abs_0f7a4_9 : decode cJ9_abs_0f7a4 9 = .ok (.iload_n 0, 1) := by decide +kernel
theorem dJ9_abs_0f7a4_10 : decode cJ9_abs_0f7a4 10 = .ok (.ireturn, 1) := by decide +kernel
theorem dJ9_max_7cf53_0 : decode cJ9_max_7cf53 0 = .ok (.iload_n 0, 1) := by decide +kernel
theorem dJ9_max_7cf53_1 : decode cJ9_max_7cf53 1 = .ok (.iload_n 1, 1) := by decide +kernel
theorem dJ9_max_7cf53_2 : decode cJ9_max_7cf53 2 = .ok (.if_icmp .lt 7, 3) := by decide +kernel
theorem dJ9_max_7cf53_5 : decode cJ9_max_7cf53 5 = .ok (.iload_n 0, 1) := by decide +kernel
theorem dJ9_max_7cf53_6 : decode cJ9_max_7cf53 6 = .ok (.goto 4, 3) := by decide +kernel
theorem dJ9_max_7cf53_9 : decode cJ9_max_7cf53 9 = .ok (.iload_n 1, 1) := by decide +kernel
theorem dJ9_max_7cf53_10 : decode cJ9_max_7cf53 10 = .ok (.ireturn, 1) := by decide +kernel
theorem dJ9_min_7cf53_0 : decode cJ9_min_7cf53 0 = .ok (.iload_n 0, 1) := by decide +kernel
theorem dJ9_min_7cf53_1 : decode cJ9_min_7cf53 1 = .ok (.iload_n 1, 1) := by decide +kernel
theorem dJ9_min_7cf53_2 : decode cJ9_min_7cf53 2 = .ok (.if_icmp .gt 7, 3) := by decide +kernel
theorem dJ9_min_7cf53_5 : decode cJ9_min_7cf53 5 = .ok (.iload_n 0, 1) := by decide +kernel
theorem dJ9_min_7cf53_6 : decode cJ9_min_7cf53 6 = .ok (.goto 4, 3) := by decide +kernel
theorem dJ9_min_7cf53_9 : decode cJ9_min_7cf53 9 = .ok (.iload_n 1, 1) := by decide +kernel
theorem dJ9_min_7cf53_10 : decode cJ9_min_7cf53 10 = .ok (.ireturn, 1) := by decide +kernel
