theorem dX0_init_0 : decode cX0_init 0 = .ok (.aload_n 0, 1) := by decide +kernel
theorem dX0_init_1 : decode cX0_init 1 = .ok (.invokespecial 3, 3) := by decide +kernel
theorem dX0_init_4 : decode cX0_init 4 = .ok (.aload_n 0, 1) := by decide +kernel
theorem dX0_init_5 : decode cX0_init 5 = .ok (.bipush 12, 2) := by decide +kernel
theorem dX0_init_7 : decode cX0_init 7 = .ok (.newarray .int, 2) := by decide +kernel
theorem dX0_init_9 : decode cX0_init 9 = .ok (.putfield 9, 3) := by decide +kernel
theorem dX0_init_12 : decode cX0_init 12 = .ok (.aload_n 0, 1) := by decide +kernel
theorem dX0_init_13 : decode cX0_init 13 = .ok (.bipush 6, 2) := by decide +kernel
theorem dX0_init_15 : decode cX0_init 15 = .ok (.putfield 15, 3) := by decide +kernel
theorem dX0_init_18 : decode cX0_init 18 = .ok (.return_, 1) := by decide +kernel
theorem dX0_size_0 : decode cX0_size 0 = .ok (.aload_n 0, 1) := by decide +kernel
theorem dX0_size_1 : decode cX0_size 1 = .ok (.getfield 15, 3) := by decide +kernel
theorem dX0_size_4 : decode cX0_size 4 = .ok (.ireturn, 1) := by decide +kernel
theorem dX0_at_0 : decode cX0_at 0 = .ok (.iload_n 1, 1) := by decide +kernel
theorem dX0_at_1 : decode cX0_at 1 = .ok (.ifCond .lt 21, 3) := by decide +kernel
theorem dX0_at_4 : decode cX0_at 4 = .ok (.iload_n 1, 1) := by decide +kernel
theorem dX0_at_5 : decode cX0_at 5 = .ok (.aload_n 0, 1) := by decide +kernel
theorem dX0_at_6 : decode cX0_at 6 = .ok (.getfield 9, 3) := by decide +kernel
theorem dX0_at_9 : decode cX0_at 9 = .ok (.arraylength, 1) := by decide +kernel
theorem dX0_at_10 : decode cX0_at 10 = .ok (.if_icmp .ge 12, 3) := by decide +kernel
theorem dX0_at_13 : decode cX0_at 13 = .ok (.aload_n 0, 1) := by decide +kernel
theorem dX0_at_14 : decode cX0_at 14 = .ok (.getfield 9, 3) := by decide +kernel
theorem dX0_at_17 : decode cX0_at 17 = .ok (.iload_n 1, 1) := by decide +kernel
theorem dX0_at_18 : decode cX0_at 18 = .ok (.iaload, 1) := by decide +kernel
theorem dX0_at_19 : decode cX0_at 19 = .ok (.goto 4, 3) := by decide +kernel
theorem dX0_at_22 : decode cX0_at 22 = .ok (.iconst 0, 1) := by decide +kernel
theorem dX0_at_23 : decode cX0_at 23 = .ok (.ireturn, 1) := by decide +kernel
theorem dX0_write_0 : decode cX0_write 0 = .ok (.iload_n 1, 1) := by decide +kernel
theorem dX0_write_1 : decode cX0_write 1 = .ok (.ifCond .lt 19, 3) := by decide +kernel
theorem dX0_write_4 : decode cX0_write 4 = .ok (.iload_n 1, 1) := by decide +kernel
theorem dX0_write_5 : decode cX0_write 5 = .ok (.aload_n 0, 1) := by decide +kernel
theorem dX0_write_6 : decode cX0_write 6 = .ok (.getfield 9, 3) := by decide +kernel
theorem dX0_write_9 : decode cX0_write 9 = .ok (.arraylength, 1) := by decide +kernel
theorem dX0_write_10 : decode cX0_write 10 = .ok (.if_icmp .ge 10, 3) := by decide +kernel
theorem dX0_write_13 : decode cX0_write 13 = .ok (.aload_n 0, 1) := by decide +kernel
theorem dX0_write_14 : decode cX0_write 14 = .ok (.getfield 9, 3) := by decide +kernel
theorem dX0_write_17 : decode cX0_write 17 = .ok (.iload_n 1, 1) := by decide +kernel
theorem dX0_write_18 : decode cX0_write 18 = .ok (.iload_n 2, 1) := by decide +kernel
theorem dX0_write_19 : decode cX0_write 19 = .ok (.iastore, 1) := by decide +kernel
theorem dX0_write_20 : decode cX0_write 20 = .ok (.return_, 1) := by decide +kernel
set_option maxRecDepth 20000 in
theorem ggX0_clear_X0_write : GoodIn wsX0_clear wsX0_write := goodIn_r _ [7, 2, 8, 9] (by decide +kernel) (by decide +kernel)
set_option maxRecDepth 20000 in
theorem gX0_clear_X0_write : GoodIn wsX0_clear (wsV RX0 19 RX0 yX0_write wsX0_write) := goodIn_app (goodIn_of _ (by decide +kernel)) ggX0_clear_X0_write
theorem dX0_clear_0 : decode cX0_clear 0 = .ok (.aload_n 0, 1) := by decide +kernel
theorem dX0_clear_1 : decode cX0_clear 1 = .ok (.iload_n 1, 1) := by decide +kernel
theorem dX0_clear_2 : decode cX0_clear 2 = .ok (.putfield 15, 3) := by decide +kernel
theorem dX0_clear_5 : decode cX0_clear 5 = .ok (.iconst 0, 1) := by decide +kernel
theorem dX0_clear_6 : decode cX0_clear 6 = .ok (.istore_n 2, 1) := by decide +kernel
theorem dX0_clear_7 : decode cX0_clear 7 = .ok (.iload_n 2, 1) := by decide +kernel
theorem dX0_clear_8 : decode cX0_clear 8 = .ok (.aload_n 0, 1) := by decide +kernel
theorem dX0_clear_9 : decode cX0_clear 9 = .ok (.getfield 9, 3) := by decide +kernel
theorem dX0_clear_12 : decode cX0_clear 12 = .ok (.arraylength, 1) := by decide +kernel
theorem dX0_clear_13 : decode cX0_clear 13 = .ok (.if_icmp .ge 15, 3) := by decide +kernel
theorem dX0_clear_16 : decode cX0_clear 16 = .ok (.aload_n 0, 1) := by decide +kernel
theorem dX0_clear_17 : decode cX0_clear 17 = .ok (.iload_n 2, 1) := by decide +kernel
theorem dX0_clear_18 : decode cX0_clear 18 = .ok (.iconst 0, 1) := by decide +kernel
theorem dX0_clear_19 : decode cX0_clear 19 = .ok (.invokevirtual 19, 3) := by decide +kernel
theorem dX0_clear_22 : decode cX0_clear 22 = .ok (.iinc 2 1, 3) := by decide +kernel
theorem dX0_clear_25 : decode cX0_clear 25 = .ok (.goto (-18), 3) := by decide +kernel
theorem dX0_clear_28 : decode cX0_clear 28 = .ok (.return_, 1) := by decide +kernel
set_option maxRecDepth 20000 in
theorem ggX0_copyFrom_X0_at : GoodIn wsX0_copyFrom wsX0_at := goodIn_r _ [7, 2, 12, 13] (by decide +kernel) (by decide +kernel)
set_option maxRecDepth 20000 in
theorem gX0_copyFrom_X0_at : GoodIn wsX0_copyFrom (wsV RX0 23 RX0 yX0_at wsX0_at) := goodIn_app (goodIn_of _ (by decide +kernel)) ggX0_copyFrom_X0_at
set_option maxRecDepth 20000 in
theorem ggX0_copyFrom_X0_write : GoodIn wsX0_copyFrom wsX0_write := goodIn_r _ [11, 2, 12, 13] (by decide +kernel) (by decide +kernel)
set_option maxRecDepth 20000 in
theorem gX0_copyFrom_X0_write : GoodIn wsX0_copyFrom (wsV RX0 19 RX0 yX0_write wsX0_write) := goodIn_app (goodIn_of _ (by decide +kernel)) ggX0_copyFrom_X0_write
theorem dX0_copyFrom_0 : decode cX0_copyFrom 0 = .ok (.aload_n 0, 1) := by decide +kernel
theorem dX0_copyFrom_1 : decode cX0_copyFrom 1 = .ok (.aload_n 1, 1) := by decide +kernel
theorem dX0_copyFrom_2 : decode cX0_copyFrom 2 = .ok (.getfield 15, 3) := by decide +kernel
theorem dX0_copyFrom_5 : decode cX0_copyFrom 5 = .ok (.putfield 15, 3) := by decide +kernel
theorem dX0_copyFrom_8 : decode cX0_copyFrom 8 = .ok (.iconst 0, 1) := by decide +kernel
theorem dX0_copyFrom_9 : decode cX0_copyFrom 9 = .ok (.istore_n 2, 1) := by decide +kernel
theorem dX0_copyFrom_10 : decode cX0_copyFrom 10 = .ok (.iload_n 2, 1) := by decide +kernel
theorem dX0_copyFrom_11 : decode cX0_copyFrom 11 = .ok (.aload_n 0, 1) := by decide +kernel
theorem dX0_copyFrom_12 : decode cX0_copyFrom 12 = .ok (.getfield 9, 3) := by decide +kernel
theorem dX0_copyFrom_15 : decode cX0_copyFrom 15 = .ok (.arraylength, 1) := by decide +kernel
theorem dX0_copyFrom_16 : decode cX0_copyFrom 16 = .ok (.if_icmp .ge 19, 3) := by decide +kernel
theorem dX0_copyFrom_19 : decode cX0_copyFrom 19 = .ok (.aload_n 0, 1) := by decide +kernel
theorem dX0_copyFrom_20 : decode cX0_copyFrom 20 = .ok (.iload_n 2, 1) := by decide +kernel
theorem dX0_copyFrom_21 : decode cX0_copyFrom 21 = .ok (.aload_n 1, 1) := by decide +kernel
theorem dX0_copyFrom_22 : decode cX0_copyFrom 22 = .ok (.iload_n 2, 1) := by decide +kernel
theorem dX0_copyFrom_23 : decode cX0_copyFrom 23 = .ok (.invokevirtual 23, 3) := by decide +kernel
theorem dX0_copyFrom_26 : decode cX0_copyFrom 26 = .ok (.invokevirtual 19, 3) := by decide +kernel
theorem dX0_copyFrom_29 : decode cX0_copyFrom 29 = .ok (.iinc 2 1, 3) := by decide +kernel
theorem dX0_copyFrom_32 : decode cX0_copyFrom 32 = .ok (.goto (-22), 3) := by decide +kernel
theorem dX0_copyFrom_35 : decode cX0_copyFrom 35 = .ok (.return_, 1) := by decide +kernel
set_option maxRecDepth 20000 in
theorem ggX0_rotate_X0_at : GoodIn wsX0_rotate wsX0_at := goodIn_r _ [6, 7, 12, 13] (by decide +kernel) (by decide +kernel)
set_option maxRecDepth 20000 in
theorem gX0_rotate_X0_at : GoodIn wsX0_rotate (wsV RX0 23 RX0 yX0_at wsX0_at) := goodIn_app (goodIn_of _ (by decide +kernel)) ggX0_rotate_X0_at
set_option maxRecDepth 20000 in
theorem ggX0_rotate_X0_write : GoodIn wsX0_rotate wsX0_write := goodIn_r _ [11, 7, 12, 13] (by decide +kernel) (by decide +kernel)
set_option maxRecDepth 20000 in
theorem gX0_rotate_X0_write : GoodIn wsX0_rotate (wsV RX0 19 RX0 yX0_write wsX0_write) := goodIn_app (goodIn_of _ (by decide +kernel)) ggX0_rotate_X0_write
theorem dX0_rotate_0 : decode cX0_rotate 0 = .ok (.aload_n 0, 1) := by decide +kernel
theorem dX0_rotate_1 : decode cX0_rotate 1 = .ok (.aload_n 0, 1) := by decide +kernel
theorem dX0_rotate_2 : decode cX0_rotate 2 = .ok (.getfield 15, 3) := by decide +kernel
theorem dX0_rotate_5 : decode cX0_rotate 5 = .ok (.iconst 1, 1) := by decide +kernel
theorem dX0_rotate_6 : decode cX0_rotate 6 = .ok (.isub, 1) := by decide +kernel
theorem dX0_rotate_7 : decode cX0_rotate 7 = .ok (.invokevirtual 23, 3) := by decide +kernel
theorem dX0_rotate_10 : decode cX0_rotate 10 = .ok (.istore_n 1, 1) := by decide +kernel
theorem dX0_rotate_11 : decode cX0_rotate 11 = .ok (.aload_n 0, 1) := by decide +kernel
theorem dX0_rotate_12 : decode cX0_rotate 12 = .ok (.getfield 15, 3) := by decide +kernel
theorem dX0_rotate_15 : decode cX0_rotate 15 = .ok (.iconst 1, 1) := by decide +kernel
theorem dX0_rotate_16 : decode cX0_rotate 16 = .ok (.isub, 1) := by decide +kernel
theorem dX0_rotate_17 : decode cX0_rotate 17 = .ok (.istore_n 2, 1) := by decide +kernel
theorem dX0_rotate_18 : decode cX0_rotate 18 = .ok (.iload_n 2, 1) := by decide +kernel
theorem dX0_rotate_19 : decode cX0_rotate 19 = .ok (.ifCond .le 21, 3) := by decide +kernel
theorem dX0_rotate_22 : decode cX0_rotate 22 = .ok (.aload_n 0, 1) := by decide +kernel
theorem dX0_rotate_23 : decode cX0_rotate 23 = .ok (.iload_n 2, 1) := by decide +kernel
theorem dX0_rotate_24 : decode cX0_rotate 24 = .ok (.aload_n 0, 1) := by decide +kernel
theorem dX0_rotate_25 : decode cX0_rotate 25 = .ok (.iload_n 2, 1) := by decide +kernel
theorem dX0_rotate_26 : decode cX0_rotate 26 = .ok (.iconst 1, 1) := by decide +kernel
theorem dX0_rotate_27 : decode cX0_rotate 27 = .ok (.isub, 1) := by decide +kernel
theorem dX0_rotate_28 : decode cX0_rotate 28 = .ok (.invokevirtual 23, 3) := by decide +kernel
theorem dX0_rotate_31 : decode cX0_rotate 31 = .ok (.invokevirtual 19, 3) := by decide +kernel
theorem dX0_rotate_34 : decode cX0_rotate 34 = .ok (.iinc 2 (-1), 3) := by decide +kernel
theorem dX0_rotate_37 : decode cX0_rotate 37 = .ok (.goto (-19), 3) := by decide +kernel
theorem dX0_rotate_40 : decode cX0_rotate 40 = .ok (.aload_n 0, 1) := by decide +kernel
theorem dX0_rotate_41 : decode cX0_rotate 41 = .ok (.iconst 0, 1) := by decide +kernel
theorem dX0_rotate_42 : decode cX0_rotate 42 = .ok (.iload_n 1, 1) := by decide +kernel
theorem dX0_rotate_43 : decode cX0_rotate 43 = .ok (.invokevirtual 19, 3) := by decide +kernel
theorem dX0_rotate_46 : decode cX0_rotate 46 = .ok (.return_, 1) := by decide +kernel
set_option maxRecDepth 20000 in
theorem ggX0_tipBy_X0_add : GoodIn wsX0_tipBy wsX0_add := goodIn_r _ [5, 6, 7, 8, 4, 9, 10, 11, 12, 13, 14, 20, 21] (by decide +kernel) (by decide +kernel)
set_option maxRecDepth 20000 in
theorem gX0_tipBy_X0_add : GoodIn wsX0_tipBy (wsV RX0 27 RX0 yX0_add wsX0_add) := goodIn_app (goodIn_of _ (by decide +kernel)) ggX0_tipBy_X0_add
set_option maxRecDepth 20000 in
theorem ggX0_tipBy_X0_onRing : GoodIn wsX0_tipBy wsX0_onRing := goodIn_r _ [18, 19, 20, 21] (by decide +kernel) (by decide +kernel)
set_option maxRecDepth 20000 in
theorem gX0_tipBy_X0_onRing : GoodIn wsX0_tipBy (wsV RX0 30 RX0 yX0_onRing wsX0_onRing) := goodIn_app (goodIn_of _ (by decide +kernel)) ggX0_tipBy_X0_onRing
theorem dX0_tipBy_0 : decode cX0_tipBy 0 = .ok (.aload_n 0, 1) := by decide +kernel
theorem dX0_tipBy_1 : decode cX0_tipBy 1 = .ok (.iload_n 1, 1) := by decide +kernel
theorem dX0_tipBy_2 : decode cX0_tipBy 2 = .ok (.bipush (-2), 2) := by decide +kernel
theorem dX0_tipBy_4 : decode cX0_tipBy 4 = .ok (.iload_n 2, 1) := by decide +kernel
theorem dX0_tipBy_5 : decode cX0_tipBy 5 = .ok (.imul, 1) := by decide +kernel
theorem dX0_tipBy_6 : decode cX0_tipBy 6 = .ok (.invokevirtual 27, 3) := by decide +kernel
theorem dX0_tipBy_9 : decode cX0_tipBy 9 = .ok (.aload_n 0, 1) := by decide +kernel
theorem dX0_tipBy_10 : decode cX0_tipBy 10 = .ok (.aload_n 0, 1) := by decide +kernel
theorem dX0_tipBy_11 : decode cX0_tipBy 11 = .ok (.iload_n 1, 1) := by decide +kernel
theorem dX0_tipBy_12 : decode cX0_tipBy 12 = .ok (.iconst 1, 1) := by decide +kernel
theorem dX0_tipBy_13 : decode cX0_tipBy 13 = .ok (.iadd, 1) := by decide +kernel
theorem dX0_tipBy_14 : decode cX0_tipBy 14 = .ok (.invokevirtual 30, 3) := by decide +kernel
theorem dX0_tipBy_17 : decode cX0_tipBy 17 = .ok (.iload_n 2, 1) := by decide +kernel
theorem dX0_tipBy_18 : decode cX0_tipBy 18 = .ok (.invokevirtual 27, 3) := by decide +kernel
theorem dX0_tipBy_21 : decode cX0_tipBy 21 = .ok (.aload_n 0, 1) := by decide +kernel
theorem dX0_tipBy_22 : decode cX0_tipBy 22 = .ok (.aload_n 0, 1) := by decide +kernel
theorem dX0_tipBy_23 : decode cX0_tipBy 23 = .ok (.iload_n 1, 1) := by decide +kernel
theorem dX0_tipBy_24 : decode cX0_tipBy 24 = .ok (.iconst 1, 1) := by decide +kernel
theorem dX0_tipBy_25 : decode cX0_tipBy 25 = .ok (.isub, 1) := by decide +kernel
theorem dX0_tipBy_26 : decode cX0_tipBy 26 = .ok (.invokevirtual 30, 3) := by decide +kernel
theorem dX0_tipBy_29 : decode cX0_tipBy 29 = .ok (.iload_n 2, 1) := by decide +kernel
theorem dX0_tipBy_30 : decode cX0_tipBy 30 = .ok (.invokevirtual 27, 3) := by decide +kernel
theorem dX0_tipBy_33 : decode cX0_tipBy 33 = .ok (.return_, 1) := by decide +kernel
set_option maxRecDepth 20000 in
theorem ggX0_settleBy_X0_firstSteep : GoodIn wsX0_settleBy wsX0_firstSteep := goodIn_r _ [5, 6, 7, 8, 9, 4, 10, 11, 12, 13, 14, 15, 16, 17, 18, 19, 32, 33] (by decide +kernel) (by decide +kernel)
set_option maxRecDepth 20000 in
theorem gX0_settleBy_X0_firstSteep : GoodIn wsX0_settleBy (wsV RX0 33 RX0 yX0_firstSteep wsX0_firstSteep) := goodIn_app (goodIn_of _ (by decide +kernel)) ggX0_settleBy_X0_firstSteep
set_option maxRecDepth 20000 in
theorem ggX0_settleBy_X0_tipBy : GoodIn wsX0_settleBy wsX0_tipBy := goodIn_r _ [23, 24, 25, 26, 4, 27, 11, 12, 13, 14, 15, 28, 29, 30, 31, 16, 17, 18, 19, 6, 32, 33] (by decide +kernel) (by decide +kernel)
set_option maxRecDepth 20000 in
theorem gX0_settleBy_X0_tipBy : GoodIn wsX0_settleBy (wsV RX0 37 RX0 yX0_tipBy wsX0_tipBy) := goodIn_app (goodIn_of _ (by decide +kernel)) ggX0_settleBy_X0_tipBy
theorem dX0_settleBy_0 : decode cX0_settleBy 0 = .ok (.iconst 0, 1) := by decide +kernel
theorem dX0_settleBy_1 : decode cX0_settleBy 1 = .ok (.istore_n 2, 1) := by decide +kernel
theorem dX0_settleBy_2 : decode cX0_settleBy 2 = .ok (.iload_n 2, 1) := by decide +kernel
theorem dX0_settleBy_3 : decode cX0_settleBy 3 = .ok (.iload_n 1, 1) := by decide +kernel
theorem dX0_settleBy_4 : decode cX0_settleBy 4 = .ok (.if_icmp .ge 26, 3) := by decide +kernel
theorem dX0_settleBy_7 : decode cX0_settleBy 7 = .ok (.aload_n 0, 1) := by decide +kernel
theorem dX0_settleBy_8 : decode cX0_settleBy 8 = .ok (.invokevirtual 33, 3) := by decide +kernel
theorem dX0_settleBy_11 : decode cX0_settleBy 11 = .ok (.istore_n 3, 1) := by decide +kernel
theorem dX0_settleBy_12 : decode cX0_settleBy 12 = .ok (.iload_n 3, 1) := by decide +kernel
theorem dX0_settleBy_13 : decode cX0_settleBy 13 = .ok (.ifCond .ge 5, 3) := by decide +kernel
theorem dX0_settleBy_16 : decode cX0_settleBy 16 = .ok (.iload_n 2, 1) := by decide +kernel
theorem dX0_settleBy_17 : decode cX0_settleBy 17 = .ok (.ireturn, 1) := by decide +kernel
theorem dX0_settleBy_18 : decode cX0_settleBy 18 = .ok (.aload_n 0, 1) := by decide +kernel
theorem dX0_settleBy_19 : decode cX0_settleBy 19 = .ok (.iload_n 3, 1) := by decide +kernel
theorem dX0_settleBy_20 : decode cX0_settleBy 20 = .ok (.iconst 1, 1) := by decide +kernel
theorem dX0_settleBy_21 : decode cX0_settleBy 21 = .ok (.invokevirtual 37, 3) := by decide +kernel
theorem dX0_settleBy_24 : decode cX0_settleBy 24 = .ok (.iinc 2 1, 3) := by decide +kernel
theorem dX0_settleBy_27 : decode cX0_settleBy 27 = .ok (.goto (-25), 3) := by decide +kernel
theorem dX0_settleBy_30 : decode cX0_settleBy 30 = .ok (.iload_n 2, 1) := by decide +kernel
theorem dX0_settleBy_31 : decode cX0_settleBy 31 = .ok (.ireturn, 1) := by decide +kernel
set_option maxRecDepth 20000 in
theorem ggX0_total_X0_at : GoodIn wsX0_total wsX0_at := goodIn_r _ [6, 7, 8, 9] (by decide +kernel) (by decide +kernel)
set_option maxRecDepth 20000 in
theorem gX0_total_X0_at : GoodIn wsX0_total (wsV RX0 23 RX0 yX0_at wsX0_at) := goodIn_app (goodIn_of _ (by decide +kernel)) ggX0_total_X0_at
theorem dX0_total_0 : decode cX0_total 0 = .ok (.iconst 0, 1) := by decide +kernel
theorem dX0_total_1 : decode cX0_total 1 = .ok (.istore_n 1, 1) := by decide +kernel
theorem dX0_total_2 : decode cX0_total 2 = .ok (.iconst 0, 1) := by decide +kernel
theorem dX0_total_3 : decode cX0_total 3 = .ok (.istore_n 2, 1) := by decide +kernel
theorem dX0_total_4 : decode cX0_total 4 = .ok (.iload_n 2, 1) := by decide +kernel
theorem dX0_total_5 : decode cX0_total 5 = .ok (.aload_n 0, 1) := by decide +kernel
theorem dX0_total_6 : decode cX0_total 6 = .ok (.getfield 15, 3) := by decide +kernel
theorem dX0_total_9 : decode cX0_total 9 = .ok (.if_icmp .ge 17, 3) := by decide +kernel
theorem dX0_total_12 : decode cX0_total 12 = .ok (.iload_n 1, 1) := by decide +kernel
theorem dX0_total_13 : decode cX0_total 13 = .ok (.aload_n 0, 1) := by decide +kernel
theorem dX0_total_14 : decode cX0_total 14 = .ok (.iload_n 2, 1) := by decide +kernel
theorem dX0_total_15 : decode cX0_total 15 = .ok (.invokevirtual 23, 3) := by decide +kernel
theorem dX0_total_18 : decode cX0_total 18 = .ok (.iadd, 1) := by decide +kernel
theorem dX0_total_19 : decode cX0_total 19 = .ok (.istore_n 1, 1) := by decide +kernel
theorem dX0_total_20 : decode cX0_total 20 = .ok (.iinc 2 1, 3) := by decide +kernel
theorem dX0_total_23 : decode cX0_total 23 = .ok (.goto (-19), 3) := by decide +kernel
theorem dX0_total_26 : decode cX0_total 26 = .ok (.iload_n 1, 1) := by decide +kernel
theorem dX0_total_27 : decode cX0_total 27 = .ok (.ireturn, 1) := by decide +kernel
set_option maxRecDepth 20000 in
theorem ggX0_momentLeft_X0_at : GoodIn wsX0_momentLeft wsX0_at := goodIn_r _ [6, 7, 12, 13] (by decide +kernel) (by decide +kernel)
set_option maxRecDepth 20000 in
theorem gX0_momentLeft_X0_at : GoodIn wsX0_momentLeft (wsV RX0 23 RX0 yX0_at wsX0_at) := goodIn_app (goodIn_of _ (by decide +kernel)) ggX0_momentLeft_X0_at
set_option maxRecDepth 20000 in
theorem ggX0_momentLeft_J9_floorMod_7cf53 : GoodIn wsX0_momentLeft wsJ9_floorMod_7cf53 := goodIn_r _ [11] (by decide +kernel) (by decide +kernel)
set_option maxRecDepth 20000 in
theorem gX0_momentLeft_J9_floorMod_7cf53 : GoodIn wsX0_momentLeft (va_wsS RX0 40 yJ9_floorMod_7cf53 wsJ9_floorMod_7cf53) := goodIn_app (goodIn_of _ (by decide +kernel)) ggX0_momentLeft_J9_floorMod_7cf53
theorem dX0_momentLeft_0 : decode cX0_momentLeft 0 = .ok (.iconst 0, 1) := by decide +kernel
theorem dX0_momentLeft_1 : decode cX0_momentLeft 1 = .ok (.istore_n 1, 1) := by decide +kernel
theorem dX0_momentLeft_2 : decode cX0_momentLeft 2 = .ok (.iconst 0, 1) := by decide +kernel
theorem dX0_momentLeft_3 : decode cX0_momentLeft 3 = .ok (.istore_n 2, 1) := by decide +kernel
theorem dX0_momentLeft_4 : decode cX0_momentLeft 4 = .ok (.iload_n 2, 1) := by decide +kernel
theorem dX0_momentLeft_5 : decode cX0_momentLeft 5 = .ok (.aload_n 0, 1) := by decide +kernel
theorem dX0_momentLeft_6 : decode cX0_momentLeft 6 = .ok (.getfield 15, 3) := by decide +kernel
theorem dX0_momentLeft_9 : decode cX0_momentLeft 9 = .ok (.if_icmp .ge 19, 3) := by decide +kernel
theorem dX0_momentLeft_12 : decode cX0_momentLeft 12 = .ok (.iload_n 1, 1) := by decide +kernel
theorem dX0_momentLeft_13 : decode cX0_momentLeft 13 = .ok (.aload_n 0, 1) := by decide +kernel
theorem dX0_momentLeft_14 : decode cX0_momentLeft 14 = .ok (.iload_n 2, 1) := by decide +kernel
theorem dX0_momentLeft_15 : decode cX0_momentLeft 15 = .ok (.invokevirtual 23, 3) := by decide +kernel
theorem dX0_momentLeft_18 : decode cX0_momentLeft 18 = .ok (.iload_n 2, 1) := by decide +kernel
theorem dX0_momentLeft_19 : decode cX0_momentLeft 19 = .ok (.imul, 1) := by decide +kernel
theorem dX0_momentLeft_20 : decode cX0_momentLeft 20 = .ok (.iadd, 1) := by decide +kernel
theorem dX0_momentLeft_21 : decode cX0_momentLeft 21 = .ok (.istore_n 1, 1) := by decide +kernel
theorem dX0_momentLeft_22 : decode cX0_momentLeft 22 = .ok (.iinc 2 1, 3) := by decide +kernel
theorem dX0_momentLeft_25 : decode cX0_momentLeft 25 = .ok (.goto (-21), 3) := by decide +kernel
theorem dX0_momentLeft_28 : decode cX0_momentLeft 28 = .ok (.aload_n 0, 1) := by decide +kernel
theorem dX0_momentLeft_29 : decode cX0_momentLeft 29 = .ok (.getfield 15, 3) := by decide +kernel
theorem dX0_momentLeft_32 : decode cX0_momentLeft 32 = .ok (.ifCond .le 14, 3) := by decide +kernel
theorem dX0_momentLeft_35 : decode cX0_momentLeft 35 = .ok (.iload_n 1, 1) := by decide +kernel
theorem dX0_momentLeft_36 : decode cX0_momentLeft 36 = .ok (.aload_n 0, 1) := by decide +kernel
theorem dX0_momentLeft_37 : decode cX0_momentLeft 37 = .ok (.getfield 15, 3) := by decide +kernel
theorem dX0_momentLeft_40 : decode cX0_momentLeft 40 = .ok (.invokestatic 40, 3) := by decide +kernel
theorem dX0_momentLeft_43 : decode cX0_momentLeft 43 = .ok (.goto 4, 3) := by decide +kernel
theorem dX0_momentLeft_46 : decode cX0_momentLeft 46 = .ok (.iconst 0, 1) := by decide +kernel
theorem dX0_momentLeft_47 : decode cX0_momentLeft 47 = .ok (.ireturn, 1) := by decide +kernel
set_option maxRecDepth 20000 in
theorem ggX0_firstGreatest_X0_at : GoodIn wsX0_firstGreatest wsX0_at := goodIn_r _ [6, 7, 8, 9] (by decide +kernel) (by decide +kernel)
set_option maxRecDepth 20000 in
theorem gX0_firstGreatest_X0_at : GoodIn wsX0_firstGreatest (wsV RX0 23 RX0 yX0_at wsX0_at) := goodIn_app (goodIn_of _ (by decide +kernel)) ggX0_firstGreatest_X0_at
theorem dX0_firstGreatest_0 : decode cX0_firstGreatest 0 = .ok (.iconst 0, 1) := by decide +kernel
theorem dX0_firstGreatest_1 : decode cX0_firstGreatest 1 = .ok (.istore_n 1, 1) := by decide +kernel
theorem dX0_firstGreatest_2 : decode cX0_firstGreatest 2 = .ok (.iconst 1, 1) := by decide +kernel
theorem dX0_firstGreatest_3 : decode cX0_firstGreatest 3 = .ok (.istore_n 2, 1) := by decide +kernel
theorem dX0_firstGreatest_4 : decode cX0_firstGreatest 4 = .ok (.iload_n 2, 1) := by decide +kernel
theorem dX0_firstGreatest_5 : decode cX0_firstGreatest 5 = .ok (.aload_n 0, 1) := by decide +kernel
theorem dX0_firstGreatest_6 : decode cX0_firstGreatest 6 = .ok (.getfield 15, 3) := by decide +kernel
theorem dX0_firstGreatest_9 : decode cX0_firstGreatest 9 = .ok (.if_icmp .ge 24, 3) := by decide +kernel
theorem dX0_firstGreatest_12 : decode cX0_firstGreatest 12 = .ok (.aload_n 0, 1) := by decide +kernel
theorem dX0_firstGreatest_13 : decode cX0_firstGreatest 13 = .ok (.iload_n 2, 1) := by decide +kernel
theorem dX0_firstGreatest_14 : decode cX0_firstGreatest 14 = .ok (.invokevirtual 23, 3) := by decide +kernel
theorem dX0_firstGreatest_17 : decode cX0_firstGreatest 17 = .ok (.aload_n 0, 1) := by decide +kernel
theorem dX0_firstGreatest_18 : decode cX0_firstGreatest 18 = .ok (.iload_n 1, 1) := by decide +kernel
theorem dX0_firstGreatest_19 : decode cX0_firstGreatest 19 = .ok (.invokevirtual 23, 3) := by decide +kernel
theorem dX0_firstGreatest_22 : decode cX0_firstGreatest 22 = .ok (.if_icmp .le 5, 3) := by decide +kernel
theorem dX0_firstGreatest_25 : decode cX0_firstGreatest 25 = .ok (.iload_n 2, 1) := by decide +kernel
theorem dX0_firstGreatest_26 : decode cX0_firstGreatest 26 = .ok (.istore_n 1, 1) := by decide +kernel
theorem dX0_firstGreatest_27 : decode cX0_firstGreatest 27 = .ok (.iinc 2 1, 3) := by decide +kernel
theorem dX0_firstGreatest_30 : decode cX0_firstGreatest 30 = .ok (.goto (-26), 3) := by decide +kernel
theorem dX0_firstGreatest_33 : decode cX0_firstGreatest 33 = .ok (.iload_n 1, 1) := by decide +kernel
theorem dX0_firstGreatest_34 : decode cX0_firstGreatest 34 = .ok (.ireturn, 1) := by decide +kernel
set_option maxRecDepth 20000 in
theorem ggX0_span_X0_at : GoodIn wsX0_span wsX0_at := goodIn_r _ [10, 11, 16, 17] (by decide +kernel) (by decide +kernel)
set_option maxRecDepth 20000 in
theorem gX0_span_X0_at : GoodIn wsX0_span (wsV RX0 23 RX0 yX0_at wsX0_at) := goodIn_app (goodIn_of _ (by decide +kernel)) ggX0_span_X0_at
set_option maxRecDepth 20000 in
theorem ggX0_span_X0_firstGreatest : GoodIn wsX0_span wsX0_firstGreatest := goodIn_r _ [15, 1, 6, 7, 8, 9, 10, 11, 16, 17] (by decide +kernel) (by decide +kernel)
set_option maxRecDepth 20000 in
theorem gX0_span_X0_firstGreatest : GoodIn wsX0_span (wsV RX0 49 RX0 yX0_firstGreatest wsX0_firstGreatest) := goodIn_app (goodIn_of _ (by decide +kernel)) ggX0_span_X0_firstGreatest
theorem dX0_span_0 : decode cX0_span 0 = .ok (.aload_n 0, 1) := by decide +kernel
theorem dX0_span_1 : decode cX0_span 1 = .ok (.iconst 0, 1) := by decide +kernel
theorem dX0_span_2 : decode cX0_span 2 = .ok (.invokevirtual 23, 3) := by decide +kernel
theorem dX0_span_5 : decode cX0_span 5 = .ok (.istore_n 1, 1) := by decide +kernel
theorem dX0_span_6 : decode cX0_span 6 = .ok (.iconst 1, 1) := by decide +kernel
theorem dX0_span_7 : decode cX0_span 7 = .ok (.istore_n 2, 1) := by decide +kernel
theorem dX0_span_8 : decode cX0_span 8 = .ok (.iload_n 2, 1) := by decide +kernel
theorem dX0_span_9 : decode cX0_span 9 = .ok (.aload_n 0, 1) := by decide +kernel
theorem dX0_span_10 : decode cX0_span 10 = .ok (.getfield 15, 3) := by decide +kernel
theorem dX0_span_13 : decode cX0_span 13 = .ok (.if_icmp .ge 19, 3) := by decide +kernel
theorem dX0_span_16 : decode cX0_span 16 = .ok (.iload_n 1, 1) := by decide +kernel
theorem dX0_span_17 : decode cX0_span 17 = .ok (.aload_n 0, 1) := by decide +kernel
theorem dX0_span_18 : decode cX0_span 18 = .ok (.iload_n 2, 1) := by decide +kernel
theorem dX0_span_19 : decode cX0_span 19 = .ok (.invokevirtual 23, 3) := by decide +kernel
theorem dX0_span_22 : decode cX0_span 22 = .ok (.invokestatic 46, 3) := by decide +kernel
theorem dX0_span_25 : decode cX0_span 25 = .ok (.istore_n 1, 1) := by decide +kernel
theorem dX0_span_26 : decode cX0_span 26 = .ok (.iinc 2 1, 3) := by decide +kernel
theorem dX0_span_29 : decode cX0_span 29 = .ok (.goto (-21), 3) := by decide +kernel
theorem dX0_span_32 : decode cX0_span 32 = .ok (.aload_n 0, 1) := by decide +kernel
theorem dX0_span_33 : decode cX0_span 33 = .ok (.aload_n 0, 1) := by decide +kernel
theorem dX0_span_34 : decode cX0_span 34 = .ok (.invokevirtual 49, 3) := by decide +kernel
theorem dX0_span_37 : decode cX0_span 37 = .ok (.invokevirtual 23, 3) := by decide +kernel
theorem dX0_span_40 : decode cX0_span 40 = .ok (.iload_n 1, 1) := by decide +kernel
theorem dX0_span_41 : decode cX0_span 41 = .ok (.isub, 1) := by decide +kernel
theorem dX0_span_42 : decode cX0_span 42 = .ok (.ireturn, 1) := by decide +kernel
set_option maxRecDepth 20000 in
theorem ggX0_steepAt_X0_at : GoodIn wsX0_steepAt wsX0_at := goodIn_r _ [5, 6, 12, 13] (by decide +kernel) (by decide +kernel)
set_option maxRecDepth 20000 in
theorem gX0_steepAt_X0_at : GoodIn wsX0_steepAt (wsV RX0 23 RX0 yX0_at wsX0_at) := goodIn_app (goodIn_of _ (by decide +kernel)) ggX0_steepAt_X0_at
set_option maxRecDepth 20000 in
theorem ggX0_steepAt_X0_onRing : GoodIn wsX0_steepAt wsX0_onRing := goodIn_r _ [10, 11, 12, 13] (by decide +kernel) (by decide +kernel)
set_option maxRecDepth 20000 in
theorem gX0_steepAt_X0_onRing : GoodIn wsX0_steepAt (wsV RX0 30 RX0 yX0_onRing wsX0_onRing) := goodIn_app (goodIn_of _ (by decide +kernel)) ggX0_steepAt_X0_onRing
theorem dX0_steepAt_0 : decode cX0_steepAt 0 = .ok (.iconst 2, 1) := by decide +kernel
theorem dX0_steepAt_1 : decode cX0_steepAt 1 = .ok (.aload_n 0, 1) := by decide +kernel
theorem dX0_steepAt_2 : decode cX0_steepAt 2 = .ok (.iload_n 1, 1) := by decide +kernel
theorem dX0_steepAt_3 : decode cX0_steepAt 3 = .ok (.invokevirtual 23, 3) := by decide +kernel
theorem dX0_steepAt_6 : decode cX0_steepAt 6 = .ok (.imul, 1) := by decide +kernel
theorem dX0_steepAt_7 : decode cX0_steepAt 7 = .ok (.aload_n 0, 1) := by decide +kernel
theorem dX0_steepAt_8 : decode cX0_steepAt 8 = .ok (.aload_n 0, 1) := by decide +kernel
theorem dX0_steepAt_9 : decode cX0_steepAt 9 = .ok (.iload_n 1, 1) := by decide +kernel
theorem dX0_steepAt_10 : decode cX0_steepAt 10 = .ok (.iconst 1, 1) := by decide +kernel
theorem dX0_steepAt_11 : decode cX0_steepAt 11 = .ok (.iadd, 1) := by decide +kernel
theorem dX0_steepAt_12 : decode cX0_steepAt 12 = .ok (.invokevirtual 30, 3) := by decide +kernel
theorem dX0_steepAt_15 : decode cX0_steepAt 15 = .ok (.invokevirtual 23, 3) := by decide +kernel
theorem dX0_steepAt_18 : decode cX0_steepAt 18 = .ok (.isub, 1) := by decide +kernel
theorem dX0_steepAt_19 : decode cX0_steepAt 19 = .ok (.aload_n 0, 1) := by decide +kernel
theorem dX0_steepAt_20 : decode cX0_steepAt 20 = .ok (.aload_n 0, 1) := by decide +kernel
theorem dX0_steepAt_21 : decode cX0_steepAt 21 = .ok (.iload_n 1, 1) := by decide +kernel
theorem dX0_steepAt_22 : decode cX0_steepAt 22 = .ok (.iconst 1, 1) := by decide +kernel
theorem dX0_steepAt_23 : decode cX0_steepAt 23 = .ok (.isub, 1) := by decide +kernel
theorem dX0_steepAt_24 : decode cX0_steepAt 24 = .ok (.invokevirtual 30, 3) := by decide +kernel
theorem dX0_steepAt_27 : decode cX0_steepAt 27 = .ok (.invokevirtual 23, 3) := by decide +kernel
theorem dX0_steepAt_30 : decode cX0_steepAt 30 = .ok (.isub, 1) := by decide +kernel
theorem dX0_steepAt_31 : decode cX0_steepAt 31 = .ok (.iconst 3, 1) := by decide +kernel
theorem dX0_steepAt_32 : decode cX0_steepAt 32 = .ok (.if_icmp .le 7, 3) := by decide +kernel
theorem dX0_steepAt_35 : decode cX0_steepAt 35 = .ok (.iconst 1, 1) := by decide +kernel
theorem dX0_steepAt_36 : decode cX0_steepAt 36 = .ok (.goto 4, 3) := by decide +kernel
theorem dX0_steepAt_39 : decode cX0_steepAt 39 = .ok (.iconst 0, 1) := by decide +kernel
theorem dX0_steepAt_40 : decode cX0_steepAt 40 = .ok (.ireturn, 1) := by decide +kernel
set_option maxRecDepth 20000 in
theorem ggX0_firstSteep_X0_steepAt : GoodIn wsX0_firstSteep wsX0_steepAt := goodIn_r _ [6, 7, 8, 9, 5, 10, 11, 12, 13, 14, 15, 1, 16, 17] (by decide +kernel) (by decide +kernel)
set_option maxRecDepth 20000 in
theorem gX0_firstSteep_X0_steepAt : GoodIn wsX0_firstSteep (wsV RX0 52 RX0 yX0_steepAt wsX0_steepAt) := goodIn_app (goodIn_of _ (by decide +kernel)) ggX0_firstSteep_X0_steepAt
theorem dX0_firstSteep_0 : decode cX0_firstSteep 0 = .ok (.iconst 0, 1) := by decide +kernel
theorem dX0_firstSteep_1 : decode cX0_firstSteep 1 = .ok (.istore_n 1, 1) := by decide +kernel
theorem dX0_firstSteep_2 : decode cX0_firstSteep 2 = .ok (.iload_n 1, 1) := by decide +kernel
theorem dX0_firstSteep_3 : decode cX0_firstSteep 3 = .ok (.aload_n 0, 1) := by decide +kernel
theorem dX0_firstSteep_4 : decode cX0_firstSteep 4 = .ok (.getfield 15, 3) := by decide +kernel
theorem dX0_firstSteep_7 : decode cX0_firstSteep 7 = .ok (.if_icmp .ge 19, 3) := by decide +kernel
theorem dX0_firstSteep_10 : decode cX0_firstSteep 10 = .ok (.aload_n 0, 1) := by decide +kernel
theorem dX0_firstSteep_11 : decode cX0_firstSteep 11 = .ok (.iload_n 1, 1) := by decide +kernel
theorem dX0_firstSteep_12 : decode cX0_firstSteep 12 = .ok (.invokevirtual 52, 3) := by decide +kernel
theorem dX0_firstSteep_15 : decode cX0_firstSteep 15 = .ok (.ifCond .eq 5, 3) := by decide +kernel
theorem dX0_firstSteep_18 : decode cX0_firstSteep 18 = .ok (.iload_n 1, 1) := by decide +kernel
theorem dX0_firstSteep_19 : decode cX0_firstSteep 19 = .ok (.ireturn, 1) := by decide +kernel
theorem dX0_firstSteep_20 : decode cX0_firstSteep 20 = .ok (.iinc 1 1, 3) := by decide +kernel
theorem dX0_firstSteep_23 : decode cX0_firstSteep 23 = .ok (.goto (-21), 3) := by decide +kernel
theorem dX0_firstSteep_26 : decode cX0_firstSteep 26 = .ok (.iconst (-1), 1) := by decide +kernel
theorem dX0_firstSteep_27 : decode cX0_firstSteep 27 = .ok (.ireturn, 1) := by decide +kernel
set_option maxRecDepth 20000 in
theorem ggX0_tiltOn_X0_onRing : GoodIn wsX0_tiltOn wsX0_onRing := goodIn_r _ [6, 1, 12, 13] (by decide +kernel) (by decide +kernel)
set_option maxRecDepth 20000 in
theorem gX0_tiltOn_X0_onRing : GoodIn wsX0_tiltOn (wsV RX0 30 RX0 yX0_onRing wsX0_onRing) := goodIn_app (goodIn_of _ (by decide +kernel)) ggX0_tiltOn_X0_onRing
set_option maxRecDepth 20000 in
theorem ggX0_tiltOn_X0_at : GoodIn wsX0_tiltOn wsX0_at := goodIn_r _ [10, 11, 12, 13] (by decide +kernel) (by decide +kernel)
set_option maxRecDepth 20000 in
theorem gX0_tiltOn_X0_at : GoodIn wsX0_tiltOn (wsV RX0 23 RX0 yX0_at wsX0_at) := goodIn_app (goodIn_of _ (by decide +kernel)) ggX0_tiltOn_X0_at
theorem dX0_tiltOn_0 : decode cX0_tiltOn 0 = .ok (.iconst 0, 1) := by decide +kernel
theorem dX0_tiltOn_1 : decode cX0_tiltOn 1 = .ok (.istore_n 2, 1) := by decide +kernel
theorem dX0_tiltOn_2 : decode cX0_tiltOn 2 = .ok (.iconst 1, 1) := by decide +kernel
theorem dX0_tiltOn_3 : decode cX0_tiltOn 3 = .ok (.istore_n 3, 1) := by decide +kernel
theorem dX0_tiltOn_4 : decode cX0_tiltOn 4 = .ok (.iload_n 3, 1) := by decide +kernel
theorem dX0_tiltOn_5 : decode cX0_tiltOn 5 = .ok (.aload_n 0, 1) := by decide +kernel
theorem dX0_tiltOn_6 : decode cX0_tiltOn 6 = .ok (.getfield 15, 3) := by decide +kernel
theorem dX0_tiltOn_9 : decode cX0_tiltOn 9 = .ok (.iconst 1, 1) := by decide +kernel
theorem dX0_tiltOn_10 : decode cX0_tiltOn 10 = .ok (.isub, 1) := by decide +kernel
theorem dX0_tiltOn_11 : decode cX0_tiltOn 11 = .ok (.iconst 2, 1) := by decide +kernel
theorem dX0_tiltOn_12 : decode cX0_tiltOn 12 = .ok (.idiv, 1) := by decide +kernel
theorem dX0_tiltOn_13 : decode cX0_tiltOn 13 = .ok (.if_icmp .gt 37, 3) := by decide +kernel
theorem dX0_tiltOn_16 : decode cX0_tiltOn 16 = .ok (.iload_n 2, 1) := by decide +kernel
theorem dX0_tiltOn_17 : decode cX0_tiltOn 17 = .ok (.aload_n 0, 1) := by decide +kernel
theorem dX0_tiltOn_18 : decode cX0_tiltOn 18 = .ok (.aload_n 0, 1) := by decide +kernel
theorem dX0_tiltOn_19 : decode cX0_tiltOn 19 = .ok (.iload_n 1, 1) := by decide +kernel
theorem dX0_tiltOn_20 : decode cX0_tiltOn 20 = .ok (.iload_n 3, 1) := by decide +kernel
theorem dX0_tiltOn_21 : decode cX0_tiltOn 21 = .ok (.iadd, 1) := by decide +kernel
theorem dX0_tiltOn_22 : decode cX0_tiltOn 22 = .ok (.invokevirtual 30, 3) := by decide +kernel
theorem dX0_tiltOn_25 : decode cX0_tiltOn 25 = .ok (.invokevirtual 23, 3) := by decide +kernel
theorem dX0_tiltOn_28 : decode cX0_tiltOn 28 = .ok (.aload_n 0, 1) := by decide +kernel
theorem dX0_tiltOn_29 : decode cX0_tiltOn 29 = .ok (.aload_n 0, 1) := by decide +kernel
theorem dX0_tiltOn_30 : decode cX0_tiltOn 30 = .ok (.iload_n 1, 1) := by decide +kernel
theorem dX0_tiltOn_31 : decode cX0_tiltOn 31 = .ok (.iload_n 3, 1) := by decide +kernel
theorem dX0_tiltOn_32 : decode cX0_tiltOn 32 = .ok (.isub, 1) := by decide +kernel
theorem dX0_tiltOn_33 : decode cX0_tiltOn 33 = .ok (.invokevirtual 30, 3) := by decide +kernel
theorem dX0_tiltOn_36 : decode cX0_tiltOn 36 = .ok (.invokevirtual 23, 3) := by decide +kernel
theorem dX0_tiltOn_39 : decode cX0_tiltOn 39 = .ok (.isub, 1) := by decide +kernel
theorem dX0_tiltOn_40 : decode cX0_tiltOn 40 = .ok (.iload_n 3, 1) := by decide +kernel
theorem dX0_tiltOn_41 : decode cX0_tiltOn 41 = .ok (.imul, 1) := by decide +kernel
theorem dX0_tiltOn_42 : decode cX0_tiltOn 42 = .ok (.iadd, 1) := by decide +kernel
theorem dX0_tiltOn_43 : decode cX0_tiltOn 43 = .ok (.istore_n 2, 1) := by decide +kernel
theorem dX0_tiltOn_44 : decode cX0_tiltOn 44 = .ok (.iinc 3 1, 3) := by decide +kernel
theorem dX0_tiltOn_47 : decode cX0_tiltOn 47 = .ok (.goto (-43), 3) := by decide +kernel
theorem dX0_tiltOn_50 : decode cX0_tiltOn 50 = .ok (.iload_n 2, 1) := by decide +kernel
theorem dX0_tiltOn_51 : decode cX0_tiltOn 51 = .ok (.ireturn, 1) := by decide +kernel
set_option maxRecDepth 20000 in
theorem ggX0_differencesFrom_X0_at : GoodIn wsX0_differencesFrom wsX0_at := goodIn_r _ [6, 7, 8, 9] (by decide +kernel) (by decide +kernel)
set_option maxRecDepth 20000 in
theorem gX0_differencesFrom_X0_at : GoodIn wsX0_differencesFrom (wsV RX0 23 RX0 yX0_at wsX0_at) := goodIn_app (goodIn_of _ (by decide +kernel)) ggX0_differencesFrom_X0_at
theorem dX0_differencesFrom_0 : decode cX0_differencesFrom 0 = .ok (.iconst 0, 1) := by decide +kernel
theorem dX0_differencesFrom_1 : decode cX0_differencesFrom 1 = .ok (.istore_n 2, 1) := by decide +kernel
theorem dX0_differencesFrom_2 : decode cX0_differencesFrom 2 = .ok (.iconst 0, 1) := by decide +kernel
theorem dX0_differencesFrom_3 : decode cX0_differencesFrom 3 = .ok (.istore_n 3, 1) := by decide +kernel
theorem dX0_differencesFrom_4 : decode cX0_differencesFrom 4 = .ok (.iload_n 3, 1) := by decide +kernel
theorem dX0_differencesFrom_5 : decode cX0_differencesFrom 5 = .ok (.aload_n 0, 1) := by decide +kernel
theorem dX0_differencesFrom_6 : decode cX0_differencesFrom 6 = .ok (.getfield 15, 3) := by decide +kernel
theorem dX0_differencesFrom_9 : decode cX0_differencesFrom 9 = .ok (.if_icmp .ge 25, 3) := by decide +kernel
theorem dX0_differencesFrom_12 : decode cX0_differencesFrom 12 = .ok (.aload_n 0, 1) := by decide +kernel
theorem dX0_differencesFrom_13 : decode cX0_differencesFrom 13 = .ok (.iload_n 3, 1) := by decide +kernel
theorem dX0_differencesFrom_14 : decode cX0_differencesFrom 14 = .ok (.invokevirtual 23, 3) := by decide +kernel
theorem dX0_differencesFrom_17 : decode cX0_differencesFrom 17 = .ok (.aload_n 1, 1) := by decide +kernel
theorem dX0_differencesFrom_18 : decode cX0_differencesFrom 18 = .ok (.iload_n 3, 1) := by decide +kernel
theorem dX0_differencesFrom_19 : decode cX0_differencesFrom 19 = .ok (.invokevirtual 23, 3) := by decide +kernel
theorem dX0_differencesFrom_22 : decode cX0_differencesFrom 22 = .ok (.if_icmp .eq 6, 3) := by decide +kernel
theorem dX0_differencesFrom_25 : decode cX0_differencesFrom 25 = .ok (.iinc 2 1, 3) := by decide +kernel
theorem dX0_differencesFrom_28 : decode cX0_differencesFrom 28 = .ok (.iinc 3 1, 3) := by decide +kernel
theorem dX0_differencesFrom_31 : decode cX0_differencesFrom 31 = .ok (.goto (-27), 3) := by decide +kernel
theorem dX0_differencesFrom_34 : decode cX0_differencesFrom 34 = .ok (.iload_n 2, 1) := by decide +kernel
theorem dX0_differencesFrom_35 : decode cX0_differencesFrom 35 = .ok (.ireturn, 1) := by decide +kernel
set_option maxRecDepth 20000 in
theorem ggX0_canBecome_X0_total : GoodIn wsX0_canBecome wsX0_total := goodIn_r _ [5, 6, 7, 8, 9, 4, 10, 11, 20, 21] (by decide +kernel) (by decide +kernel)
set_option maxRecDepth 20000 in
theorem gX0_canBecome_X0_total : GoodIn wsX0_canBecome (wsV RX0 56 RX0 yX0_total wsX0_total) := goodIn_app (goodIn_of _ (by decide +kernel)) ggX0_canBecome_X0_total
set_option maxRecDepth 20000 in
theorem ggX0_canBecome_X0_momentLeft : GoodIn wsX0_canBecome wsX0_momentLeft := goodIn_r _ [15, 6, 7, 8, 9, 4, 10, 11, 16, 17, 18, 19, 20, 21] (by decide +kernel) (by decide +kernel)
set_option maxRecDepth 20000 in
theorem gX0_canBecome_X0_momentLeft : GoodIn wsX0_canBecome (wsV RX0 59 RX0 yX0_momentLeft wsX0_momentLeft) := goodIn_app (goodIn_of _ (by decide +kernel)) ggX0_canBecome_X0_momentLeft
theorem dX0_canBecome_0 : decode cX0_canBecome 0 = .ok (.aload_n 0, 1) := by decide +kernel
theorem dX0_canBecome_1 : decode cX0_canBecome 1 = .ok (.invokevirtual 56, 3) := by decide +kernel
theorem dX0_canBecome_4 : decode cX0_canBecome 4 = .ok (.aload_n 1, 1) := by decide +kernel
theorem dX0_canBecome_5 : decode cX0_canBecome 5 = .ok (.invokevirtual 56, 3) := by decide +kernel
theorem dX0_canBecome_8 : decode cX0_canBecome 8 = .ok (.if_icmp .ne 18, 3) := by decide +kernel
theorem dX0_canBecome_11 : decode cX0_canBecome 11 = .ok (.aload_n 0, 1) := by decide +kernel
theorem dX0_canBecome_12 : decode cX0_canBecome 12 = .ok (.invokevirtual 59, 3) := by decide +kernel
theorem dX0_canBecome_15 : decode cX0_canBecome 15 = .ok (.aload_n 1, 1) := by decide +kernel
theorem dX0_canBecome_16 : decode cX0_canBecome 16 = .ok (.invokevirtual 59, 3) := by decide +kernel
theorem dX0_canBecome_19 : decode cX0_canBecome 19 = .ok (.if_icmp .ne 7, 3) := by decide +kernel
theorem dX0_canBecome_22 : decode cX0_canBecome 22 = .ok (.iconst 1, 1) := by decide +kernel
theorem dX0_canBecome_23 : decode cX0_canBecome 23 = .ok (.goto 4, 3) := by decide +kernel
theorem dX0_canBecome_26 : decode cX0_canBecome 26 = .ok (.iconst 0, 1) := by decide +kernel
theorem dX0_canBecome_27 : decode cX0_canBecome 27 = .ok (.ireturn, 1) := by decide +kernel
set_option maxRecDepth 20000 in
theorem ggX0_add_X0_at : GoodIn wsX0_add wsX0_at := goodIn_r _ [5, 6, 11, 12] (by decide +kernel) (by decide +kernel)
set_option maxRecDepth 20000 in
theorem gX0_add_X0_at : GoodIn wsX0_add (wsV RX0 23 RX0 yX0_at wsX0_at) := goodIn_app (goodIn_of _ (by decide +kernel)) ggX0_add_X0_at
set_option maxRecDepth 20000 in
theorem ggX0_add_X0_write : GoodIn wsX0_add wsX0_write := goodIn_r _ [10, 6, 11, 12] (by decide +kernel) (by decide +kernel)
set_option maxRecDepth 20000 in
theorem gX0_add_X0_write : GoodIn wsX0_add (wsV RX0 19 RX0 yX0_write wsX0_write) := goodIn_app (goodIn_of _ (by decide +kernel)) ggX0_add_X0_write
theorem dX0_add_0 : decode cX0_add 0 = .ok (.aload_n 0, 1) := by decide +kernel
theorem dX0_add_1 : decode cX0_add 1 = .ok (.iload_n 1, 1) := by decide +kernel
theorem dX0_add_2 : decode cX0_add 2 = .ok (.aload_n 0, 1) := by decide +kernel
theorem dX0_add_3 : decode cX0_add 3 = .ok (.iload_n 1, 1) := by decide +kernel
theorem dX0_add_4 : decode cX0_add 4 = .ok (.invokevirtual 23, 3) := by decide +kernel
theorem dX0_add_7 : decode cX0_add 7 = .ok (.iload_n 2, 1) := by decide +kernel
theorem dX0_add_8 : decode cX0_add 8 = .ok (.iadd, 1) := by decide +kernel
theorem dX0_add_9 : decode cX0_add 9 = .ok (.invokevirtual 19, 3) := by decide +kernel
theorem dX0_add_12 : decode cX0_add 12 = .ok (.return_, 1) := by decide +kernel
theorem dX0_onRing_0 : decode cX0_onRing 0 = .ok (.iload_n 1, 1) := by decide +kernel
theorem dX0_onRing_1 : decode cX0_onRing 1 = .ok (.ifCond .ge 10, 3) := by decide +kernel
theorem dX0_onRing_4 : decode cX0_onRing 4 = .ok (.iload_n 1, 1) := by decide +kernel
theorem dX0_onRing_5 : decode cX0_onRing 5 = .ok (.aload_n 0, 1) := by decide +kernel
theorem dX0_onRing_6 : decode cX0_onRing 6 = .ok (.getfield 15, 3) := by decide +kernel
theorem dX0_onRing_9 : decode cX0_onRing 9 = .ok (.iadd, 1) := by decide +kernel
theorem dX0_onRing_10 : decode cX0_onRing 10 = .ok (.ireturn, 1) := by decide +kernel
theorem dX0_onRing_11 : decode cX0_onRing 11 = .ok (.iload_n 1, 1) := by decide +kernel
theorem dX0_onRing_12 : decode cX0_onRing 12 = .ok (.aload_n 0, 1) := by decide +kernel
theorem dX0_onRing_13 : decode cX0_onRing 13 = .ok (.getfield 15, 3) := by decide +kernel
theorem dX0_onRing_16 : decode cX0_onRing 16 = .ok (.if_icmp .ge 7, 3) := by decide +kernel
theorem dX0_onRing_19 : decode cX0_onRing 19 = .ok (.iload_n 1, 1) := by decide +kernel
theorem dX0_onRing_20 : decode cX0_onRing 20 = .ok (.goto 9, 3) := by decide +kernel
theorem dX0_onRing_23 : decode cX0_onRing 23 = .ok (.iload_n 1, 1) := by decide +kernel
theorem dX0_onRing_24 : decode cX0_onRing 24 = .ok (.aload_n 0, 1) := by decide +kernel
theorem dX0_onRing_25 : decode cX0_onRing 25 = .ok (.getfield 15, 3) := by decide +kernel
theorem dX0_onRing_28 : decode cX0_onRing 28 = .ok (.isub, 1) := by decide +kernel
theorem dX0_onRing_29 : decode cX0_onRing 29 = .ok (.ireturn, 1) := by decide +kernel
theorem dX1_init_0 : decode cX1_init 0 = .ok (.aload_n 0, 1) := by decide +kernel
theorem dX1_init_1 : decode cX1_init 1 = .ok (.invokespecial 3, 3) := by decide +kernel
theorem dX1_init_4 : decode cX1_init 4 = .ok (.aload_n 0, 1) := by decide +kernel
theorem dX1_init_5 : decode cX1_init 5 = .ok (.bipush 12, 2) := by decide +kernel
theorem dX1_init_7 : decode cX1_init 7 = .ok (.newarray .int, 2) := by decide +kernel
theorem dX1_init_9 : decode cX1_init 9 = .ok (.putfield 9, 3) := by decide +kernel
theorem dX1_init_12 : decode cX1_init 12 = .ok (.aload_n 0, 1) := by decide +kernel
theorem dX1_init_13 : decode cX1_init 13 = .ok (.iconst 0, 1) := by decide +kernel
theorem dX1_init_14 : decode cX1_init 14 = .ok (.putfield 15, 3) := by decide +kernel
theorem dX1_init_17 : decode cX1_init 17 = .ok (.return_, 1) := by decide +kernel
set_option maxRecDepth 20000 in
theorem ggX1_find_X0_size : GoodIn wsX1_find wsX0_size := goodIn_r _ [7, 8, 21, 22] (by decide +kernel) (by decide +kernel)
set_option maxRecDepth 20000 in
theorem gX1_find_X0_size : GoodIn wsX1_find (wsV RX1 19 RX0 yX0_size wsX0_size) := goodIn_app (goodIn_of _ (by decide +kernel)) ggX1_find_X0_size
set_option maxRecDepth 20000 in
theorem ggX1_find_X1_firstClimb : GoodIn wsX1_find wsX1_firstClimb := goodIn_r _ [13, 1, 14, 15, 16, 6, 17, 18, 19, 20, 21, 22] (by decide +kernel) (by decide +kernel)
set_option maxRecDepth 20000 in
theorem gX1_find_X1_firstClimb : GoodIn wsX1_find (wsV RX1 24 RX1 yX1_firstClimb wsX1_firstClimb) := goodIn_app (goodIn_of _ (by decide +kernel)) ggX1_find_X1_firstClimb
set_option maxRecDepth 20000 in
theorem ggX1_find_X0_at : GoodIn wsX1_find wsX0_at := goodIn_r _ [17, 18, 21, 22] (by decide +kernel) (by decide +kernel)
set_option maxRecDepth 20000 in
theorem gX1_find_X0_at : GoodIn wsX1_find (wsV RX1 28 RX0 yX0_at wsX0_at) := goodIn_app (goodIn_of _ (by decide +kernel)) ggX1_find_X0_at
theorem dX1_find_0 : decode cX1_find 0 = .ok (.aload_n 0, 1) := by decide +kernel
theorem dX1_find_1 : decode cX1_find 1 = .ok (.aload_n 1, 1) := by decide +kernel
theorem dX1_find_2 : decode cX1_find 2 = .ok (.invokevirtual 19, 3) := by decide +kernel
theorem dX1_find_5 : decode cX1_find 5 = .ok (.putfield 15, 3) := by decide +kernel
theorem dX1_find_8 : decode cX1_find 8 = .ok (.aload_n 0, 1) := by decide +kernel
theorem dX1_find_9 : decode cX1_find 9 = .ok (.aload_n 1, 1) := by decide +kernel
theorem dX1_find_10 : decode cX1_find 10 = .ok (.aload_n 2, 1) := by decide +kernel
theorem dX1_find_11 : decode cX1_find 11 = .ok (.invokevirtual 24, 3) := by decide +kernel
theorem dX1_find_14 : decode cX1_find 14 = .ok (.istore_n 3, 1) := by decide +kernel
theorem dX1_find_15 : decode cX1_find 15 = .ok (.iconst 0, 1) := by decide +kernel
theorem dX1_find_16 : decode cX1_find 16 = .ok (.istore 4, 2) := by decide +kernel
theorem dX1_find_18 : decode cX1_find 18 = .ok (.iconst 0, 1) := by decide +kernel
theorem dX1_find_19 : decode cX1_find 19 = .ok (.istore 5, 2) := by decide +kernel
theorem dX1_find_21 : decode cX1_find 21 = .ok (.iload 5, 2) := by decide +kernel
theorem dX1_find_23 : decode cX1_find 23 = .ok (.aload_n 0, 1) := by decide +kernel
theorem dX1_find_24 : decode cX1_find 24 = .ok (.getfield 15, 3) := by decide +kernel
theorem dX1_find_27 : decode cX1_find 27 = .ok (.if_icmp .ge 59, 3) := by decide +kernel
theorem dX1_find_30 : decode cX1_find 30 = .ok (.iload 5, 2) := by decide +kernel
theorem dX1_find_32 : decode cX1_find 32 = .ok (.aload_n 0, 1) := by decide +kernel
theorem dX1_find_33 : decode cX1_find 33 = .ok (.getfield 9, 3) := by decide +kernel
theorem dX1_find_36 : decode cX1_find 36 = .ok (.arraylength, 1) := by decide +kernel
theorem dX1_find_37 : decode cX1_find 37 = .ok (.if_icmp .ge 49, 3) := by decide +kernel
theorem dX1_find_40 : decode cX1_find 40 = .ok (.aload_n 0, 1) := by decide +kernel
theorem dX1_find_41 : decode cX1_find 41 = .ok (.getfield 9, 3) := by decide +kernel
theorem dX1_find_44 : decode cX1_find 44 = .ok (.iload 5, 2) := by decide +kernel
theorem dX1_find_46 : decode cX1_find 46 = .ok (.iload 4, 2) := by decide +kernel
theorem dX1_find_48 : decode cX1_find 48 = .ok (.iastore, 1) := by decide +kernel
theorem dX1_find_49 : decode cX1_find 49 = .ok (.iload_n 3, 1) := by decide +kernel
theorem dX1_find_50 : decode cX1_find 50 = .ok (.iload 5, 2) := by decide +kernel
theorem dX1_find_52 : decode cX1_find 52 = .ok (.ifCond .ne 7, 3) := by decide +kernel
theorem dX1_find_55 : decode cX1_find 55 = .ok (.iconst 0, 1) := by decide +kernel
theorem dX1_find_56 : decode cX1_find 56 = .ok (.goto 16, 3) := by decide +kernel
theorem dX1_find_59 : decode cX1_find 59 = .ok (.aload_n 2, 1) := by decide +kernel
theorem dX1_find_60 : decode cX1_find 60 = .ok (.iload 5, 2) := by decide +kernel
theorem dX1_find_62 : decode cX1_find 62 = .ok (.invokevirtual 28, 3) := by decide +kernel
theorem dX1_find_65 : decode cX1_find 65 = .ok (.aload_n 1, 1) := by decide +kernel
theorem dX1_find_66 : decode cX1_find 66 = .ok (.iload 5, 2) := by decide +kernel
theorem dX1_find_68 : decode cX1_find 68 = .ok (.invokevirtual 28, 3) := by decide +kernel
theorem dX1_find_71 : decode cX1_find 71 = .ok (.isub, 1) := by decide +kernel
theorem dX1_find_72 : decode cX1_find 72 = .ok (.iadd, 1) := by decide +kernel
theorem dX1_find_73 : decode cX1_find 73 = .ok (.istore_n 3, 1) := by decide +kernel
theorem dX1_find_74 : decode cX1_find 74 = .ok (.iload 4, 2) := by decide +kernel
theorem dX1_find_76 : decode cX1_find 76 = .ok (.iload_n 3, 1) := by decide +kernel
theorem dX1_find_77 : decode cX1_find 77 = .ok (.iadd, 1) := by decide +kernel
theorem dX1_find_78 : decode cX1_find 78 = .ok (.istore 4, 2) := by decide +kernel
theorem dX1_find_80 : decode cX1_find 80 = .ok (.iinc 5 1, 3) := by decide +kernel
theorem dX1_find_83 : decode cX1_find 83 = .ok (.goto (-62), 3) := by decide +kernel
theorem dX1_find_86 : decode cX1_find 86 = .ok (.return_, 1) := by decide +kernel
theorem dX1_tipsAt_0 : decode cX1_tipsAt 0 = .ok (.iload_n 1, 1) := by decide +kernel
theorem dX1_tipsAt_1 : decode cX1_tipsAt 1 = .ok (.ifCond .lt 21, 3) := by decide +kernel
theorem dX1_tipsAt_4 : decode cX1_tipsAt 4 = .ok (.iload_n 1, 1) := by decide +kernel
theorem dX1_tipsAt_5 : decode cX1_tipsAt 5 = .ok (.aload_n 0, 1) := by decide +kernel
theorem dX1_tipsAt_6 : decode cX1_tipsAt 6 = .ok (.getfield 9, 3) := by decide +kernel
theorem dX1_tipsAt_9 : decode cX1_tipsAt 9 = .ok (.arraylength, 1) := by decide +kernel
theorem dX1_tipsAt_10 : decode cX1_tipsAt 10 = .ok (.if_icmp .ge 12, 3) := by decide +kernel
theorem dX1_tipsAt_13 : decode cX1_tipsAt 13 = .ok (.aload_n 0, 1) := by decide +kernel
theorem dX1_tipsAt_14 : decode cX1_tipsAt 14 = .ok (.getfield 9, 3) := by decide +kernel
theorem dX1_tipsAt_17 : decode cX1_tipsAt 17 = .ok (.iload_n 1, 1) := by decide +kernel
theorem dX1_tipsAt_18 : decode cX1_tipsAt 18 = .ok (.iaload, 1) := by decide +kernel
theorem dX1_tipsAt_19 : decode cX1_tipsAt 19 = .ok (.goto 4, 3) := by decide +kernel
theorem dX1_tipsAt_22 : decode cX1_tipsAt 22 = .ok (.iconst 0, 1) := by decide +kernel
theorem dX1_tipsAt_23 : decode cX1_tipsAt 23 = .ok (.ireturn, 1) := by decide +kernel
set_option maxRecDepth 20000 in
theorem ggX1_fewest_X1_tipsAt : GoodIn wsX1_fewest wsX1_tipsAt := goodIn_r _ [10, 11, 19, 20] (by decide +kernel) (by decide +kernel)
set_option maxRecDepth 20000 in
theorem gX1_fewest_X1_tipsAt : GoodIn wsX1_fewest (wsV RX1 32 RX1 yX1_tipsAt wsX1_tipsAt) := goodIn_app (goodIn_of _ (by decide +kernel)) ggX1_fewest_X1_tipsAt
set_option maxRecDepth 20000 in
theorem ggX1_fewest_X1_awayFrom : GoodIn wsX1_fewest wsX1_awayFrom := goodIn_r _ [15, 1, 16, 17, 4, 18, 6, 7, 8, 9, 10, 11, 19, 20] (by decide +kernel) (by decide +kernel)
set_option maxRecDepth 20000 in
theorem gX1_fewest_X1_awayFrom : GoodIn wsX1_fewest (wsV RX1 35 RX1 yX1_awayFrom wsX1_awayFrom) := goodIn_app (goodIn_of _ (by decide +kernel)) ggX1_fewest_X1_awayFrom
theorem dX1_fewest_0 : decode cX1_fewest 0 = .ok (.aload_n 0, 1) := by decide +kernel
theorem dX1_fewest_1 : decode cX1_fewest 1 = .ok (.aload_n 0, 1) := by decide +kernel
theorem dX1_fewest_2 : decode cX1_fewest 2 = .ok (.iconst 0, 1) := by decide +kernel
theorem dX1_fewest_3 : decode cX1_fewest 3 = .ok (.invokevirtual 32, 3) := by decide +kernel
theorem dX1_fewest_6 : decode cX1_fewest 6 = .ok (.invokevirtual 35, 3) := by decide +kernel
theorem dX1_fewest_9 : decode cX1_fewest 9 = .ok (.istore_n 1, 1) := by decide +kernel
theorem dX1_fewest_10 : decode cX1_fewest 10 = .ok (.iconst 1, 1) := by decide +kernel
theorem dX1_fewest_11 : decode cX1_fewest 11 = .ok (.istore_n 2, 1) := by decide +kernel
theorem dX1_fewest_12 : decode cX1_fewest 12 = .ok (.iload_n 2, 1) := by decide +kernel
theorem dX1_fewest_13 : decode cX1_fewest 13 = .ok (.aload_n 0, 1) := by decide +kernel
theorem dX1_fewest_14 : decode cX1_fewest 14 = .ok (.getfield 15, 3) := by decide +kernel
theorem dX1_fewest_17 : decode cX1_fewest 17 = .ok (.if_icmp .ge 23, 3) := by decide +kernel
theorem dX1_fewest_20 : decode cX1_fewest 20 = .ok (.iload_n 1, 1) := by decide +kernel
theorem dX1_fewest_21 : decode cX1_fewest 21 = .ok (.aload_n 0, 1) := by decide +kernel
theorem dX1_fewest_22 : decode cX1_fewest 22 = .ok (.aload_n 0, 1) := by decide +kernel
theorem dX1_fewest_23 : decode cX1_fewest 23 = .ok (.iload_n 2, 1) := by decide +kernel
theorem dX1_fewest_24 : decode cX1_fewest 24 = .ok (.invokevirtual 32, 3) := by decide +kernel
theorem dX1_fewest_27 : decode cX1_fewest 27 = .ok (.invokevirtual 35, 3) := by decide +kernel
theorem dX1_fewest_30 : decode cX1_fewest 30 = .ok (.invokestatic 38, 3) := by decide +kernel
theorem dX1_fewest_33 : decode cX1_fewest 33 = .ok (.istore_n 1, 1) := by decide +kernel
theorem dX1_fewest_34 : decode cX1_fewest 34 = .ok (.iinc 2 1, 3) := by decide +kernel
theorem dX1_fewest_37 : decode cX1_fewest 37 = .ok (.goto (-25), 3) := by decide +kernel
theorem dX1_fewest_40 : decode cX1_fewest 40 = .ok (.iload_n 1, 1) := by decide +kernel
theorem dX1_fewest_41 : decode cX1_fewest 41 = .ok (.ireturn, 1) := by decide +kernel
set_option maxRecDepth 20000 in
theorem ggX1_firstClimb_X0_at : GoodIn wsX1_firstClimb wsX0_at := goodIn_r _ [6, 7, 10, 11] (by decide +kernel) (by decide +kernel)
set_option maxRecDepth 20000 in
theorem gX1_firstClimb_X0_at : GoodIn wsX1_firstClimb (wsV RX1 28 RX0 yX0_at wsX0_at) := goodIn_app (goodIn_of _ (by decide +kernel)) ggX1_firstClimb_X0_at
theorem dX1_firstClimb_0 : decode cX1_firstClimb 0 = .ok (.iconst 0, 1) := by decide +kernel
theorem dX1_firstClimb_1 : decode cX1_firstClimb 1 = .ok (.istore_n 3, 1) := by decide +kernel
theorem dX1_firstClimb_2 : decode cX1_firstClimb 2 = .ok (.iconst 1, 1) := by decide +kernel
theorem dX1_firstClimb_3 : decode cX1_firstClimb 3 = .ok (.istore 4, 2) := by decide +kernel
theorem dX1_firstClimb_5 : decode cX1_firstClimb 5 = .ok (.iload 4, 2) := by decide +kernel
theorem dX1_firstClimb_7 : decode cX1_firstClimb 7 = .ok (.aload_n 0, 1) := by decide +kernel
theorem dX1_firstClimb_8 : decode cX1_firstClimb 8 = .ok (.getfield 15, 3) := by decide +kernel
theorem dX1_firstClimb_11 : decode cX1_firstClimb 11 = .ok (.if_icmp .ge 33, 3) := by decide +kernel
theorem dX1_firstClimb_14 : decode cX1_firstClimb 14 = .ok (.iload_n 3, 1) := by decide +kernel
theorem dX1_firstClimb_15 : decode cX1_firstClimb 15 = .ok (.aload_n 2, 1) := by decide +kernel
theorem dX1_firstClimb_16 : decode cX1_firstClimb 16 = .ok (.iload 4, 2) := by decide +kernel
theorem dX1_firstClimb_18 : decode cX1_firstClimb 18 = .ok (.invokevirtual 28, 3) := by decide +kernel
theorem dX1_firstClimb_21 : decode cX1_firstClimb 21 = .ok (.aload_n 1, 1) := by decide +kernel
theorem dX1_firstClimb_22 : decode cX1_firstClimb 22 = .ok (.iload 4, 2) := by decide +kernel
theorem dX1_firstClimb_24 : decode cX1_firstClimb 24 = .ok (.invokevirtual 28, 3) := by decide +kernel
theorem dX1_firstClimb_27 : decode cX1_firstClimb 27 = .ok (.isub, 1) := by decide +kernel
theorem dX1_firstClimb_28 : decode cX1_firstClimb 28 = .ok (.aload_n 0, 1) := by decide +kernel
theorem dX1_firstClimb_29 : decode cX1_firstClimb 29 = .ok (.getfield 15, 3) := by decide +kernel
theorem dX1_firstClimb_32 : decode cX1_firstClimb 32 = .ok (.iload 4, 2) := by decide +kernel
theorem dX1_firstClimb_34 : decode cX1_firstClimb 34 = .ok (.isub, 1) := by decide +kernel
theorem dX1_firstClimb_35 : decode cX1_firstClimb 35 = .ok (.imul, 1) := by decide +kernel
theorem dX1_firstClimb_36 : decode cX1_firstClimb 36 = .ok (.iadd, 1) := by decide +kernel
theorem dX1_firstClimb_37 : decode cX1_firstClimb 37 = .ok (.istore_n 3, 1) := by decide +kernel
theorem dX1_firstClimb_38 : decode cX1_firstClimb 38 = .ok (.iinc 4 1, 3) := by decide +kernel
theorem dX1_firstClimb_41 : decode cX1_firstClimb 41 = .ok (.goto (-36), 3) := by decide +kernel
theorem dX1_firstClimb_44 : decode cX1_firstClimb 44 = .ok (.aload_n 0, 1) := by decide +kernel
theorem dX1_firstClimb_45 : decode cX1_firstClimb 45 = .ok (.getfield 15, 3) := by decide +kernel
theorem dX1_firstClimb_48 : decode cX1_firstClimb 48 = .ok (.ifCond .le 13, 3) := by decide +kernel
theorem dX1_firstClimb_51 : decode cX1_firstClimb 51 = .ok (.iload_n 3, 1) := by decide +kernel
theorem dX1_firstClimb_52 : decode cX1_firstClimb 52 = .ok (.ineg, 1) := by decide +kernel
theorem dX1_firstClimb_53 : decode cX1_firstClimb 53 = .ok (.aload_n 0, 1) := by decide +kernel
theorem dX1_firstClimb_54 : decode cX1_firstClimb 54 = .ok (.getfield 15, 3) := by decide +kernel
theorem dX1_firstClimb_57 : decode cX1_firstClimb 57 = .ok (.idiv, 1) := by decide +kernel
theorem dX1_firstClimb_58 : decode cX1_firstClimb 58 = .ok (.goto 4, 3) := by decide +kernel
theorem dX1_firstClimb_61 : decode cX1_firstClimb 61 = .ok (.iconst 0, 1) := by decide +kernel
theorem dX1_firstClimb_62 : decode cX1_firstClimb 62 = .ok (.ireturn, 1) := by decide +kernel
set_option maxRecDepth 20000 in
theorem ggX1_awayFrom_X1_tipsAt : GoodIn wsX1_awayFrom wsX1_tipsAt := goodIn_r _ [10, 11, 12, 13] (by decide +kernel) (by decide +kernel)
set_option maxRecDepth 20000 in
theorem gX1_awayFrom_X1_tipsAt : GoodIn wsX1_awayFrom (wsV RX1 32 RX1 yX1_tipsAt wsX1_tipsAt) := goodIn_app (goodIn_of _ (by decide +kernel)) ggX1_awayFrom_X1_tipsAt
theorem dX1_awayFrom_0 : decode cX1_awayFrom 0 = .ok (.iconst 0, 1) := by decide +kernel
theorem dX1_awayFrom_1 : decode cX1_awayFrom 1 = .ok (.istore_n 2, 1) := by decide +kernel
theorem dX1_awayFrom_2 : decode cX1_awayFrom 2 = .ok (.iconst 0, 1) := by decide +kernel
theorem dX1_awayFrom_3 : decode cX1_awayFrom 3 = .ok (.istore_n 3, 1) := by decide +kernel
theorem dX1_awayFrom_4 : decode cX1_awayFrom 4 = .ok (.iload_n 3, 1) := by decide +kernel
theorem dX1_awayFrom_5 : decode cX1_awayFrom 5 = .ok (.aload_n 0, 1) := by decide +kernel
theorem dX1_awayFrom_6 : decode cX1_awayFrom 6 = .ok (.getfield 15, 3) := by decide +kernel
theorem dX1_awayFrom_9 : decode cX1_awayFrom 9 = .ok (.if_icmp .ge 22, 3) := by decide +kernel
theorem dX1_awayFrom_12 : decode cX1_awayFrom 12 = .ok (.iload_n 2, 1) := by decide +kernel
theorem dX1_awayFrom_13 : decode cX1_awayFrom 13 = .ok (.aload_n 0, 1) := by decide +kernel
theorem dX1_awayFrom_14 : decode cX1_awayFrom 14 = .ok (.iload_n 3, 1) := by decide +kernel
theorem dX1_awayFrom_15 : decode cX1_awayFrom 15 = .ok (.invokevirtual 32, 3) := by decide +kernel
theorem dX1_awayFrom_18 : decode cX1_awayFrom 18 = .ok (.iload_n 1, 1) := by decide +kernel
theorem dX1_awayFrom_19 : decode cX1_awayFrom 19 = .ok (.isub, 1) := by decide +kernel
theorem dX1_awayFrom_20 : decode cX1_awayFrom 20 = .ok (.invokestatic 44, 3) := by decide +kernel
theorem dX1_awayFrom_23 : decode cX1_awayFrom 23 = .ok (.iadd, 1) := by decide +kernel
theorem dX1_awayFrom_24 : decode cX1_awayFrom 24 = .ok (.istore_n 2, 1) := by decide +kernel
theorem dX1_awayFrom_25 : decode cX1_awayFrom 25 = .ok (.iinc 3 1, 3) := by decide +kernel
theorem dX1_awayFrom_28 : decode cX1_awayFrom 28 = .ok (.goto (-24), 3) := by decide +kernel
theorem dX1_awayFrom_31 : decode cX1_awayFrom 31 = .ok (.iload_n 2, 1) := by decide +kernel
theorem dX1_awayFrom_32 : decode cX1_awayFrom 32 = .ok (.ireturn, 1) := by decide +kernel
set_option maxRecDepth 20000 in
theorem ggX2_init_X0_init : GoodIn wsX2_init wsX0_init := goodIn_r _ [17, 18, 2, 3, 19, 20, 21, 27, 28] (by decide +kernel) (by decide +kernel)
set_option maxRecDepth 20000 in
theorem gX2_init_X0_init_n9 : GoodIn wsX2_init (wsX0_init) := ggX2_init_X0_init
set_option maxRecDepth 20000 in
theorem ggX2_init_X1_init : GoodIn wsX2_init wsX1_init := goodIn_r _ [23, 24, 2, 3, 19, 25, 26, 35, 36] (by decide +kernel) (by decide +kernel)
set_option maxRecDepth 20000 in
theorem gX2_init_X1_init_n32 : GoodIn wsX2_init (wsX1_init) := ggX2_init_X1_init
theorem dX2_init_0 : decode cX2_init 0 = .ok (.aload_n 0, 1) := by decide +kernel
theorem dX2_init_1 : decode cX2_init 1 = .ok (.invokespecial 1, 3) := by decide +kernel
theorem dX2_init_4 : decode cX2_init 4 = .ok (.aload_n 0, 1) := by decide +kernel
theorem dX2_init_5 : decode cX2_init 5 = .ok (.new 7, 3) := by decide +kernel
theorem dX2_init_8 : decode cX2_init 8 = .ok (.dup, 1) := by decide +kernel
theorem dX2_init_9 : decode cX2_init 9 = .ok (.invokespecial 9, 3) := by decide +kernel
theorem dX2_init_12 : decode cX2_init 12 = .ok (.putfield 10, 3) := by decide +kernel
theorem dX2_init_15 : decode cX2_init 15 = .ok (.aload_n 0, 1) := by decide +kernel
theorem dX2_init_16 : decode cX2_init 16 = .ok (.bipush 6, 2) := by decide +kernel
theorem dX2_init_18 : decode cX2_init 18 = .ok (.anewarray 7, 3) := by decide +kernel
theorem dX2_init_21 : decode cX2_init 21 = .ok (.putfield 16, 3) := by decide +kernel
theorem dX2_init_24 : decode cX2_init 24 = .ok (.aload_n 0, 1) := by decide +kernel
theorem dX2_init_25 : decode cX2_init 25 = .ok (.iconst 0, 1) := by decide +kernel
theorem dX2_init_26 : decode cX2_init 26 = .ok (.putfield 20, 3) := by decide +kernel
theorem dX2_init_29 : decode cX2_init 29 = .ok (.aload_n 0, 1) := by decide +kernel
theorem dX2_init_30 : decode cX2_init 30 = .ok (.iconst 0, 1) := by decide +kernel
theorem dX2_init_31 : decode cX2_init 31 = .ok (.putfield 24, 3) := by decide +kernel
theorem dX2_init_34 : decode cX2_init 34 = .ok (.aload_n 0, 1) := by decide +kernel
theorem dX2_init_35 : decode cX2_init 35 = .ok (.new 7, 3) := by decide +kernel
theorem dX2_init_38 : decode cX2_init 38 = .ok (.dup, 1) := by decide +kernel
theorem dX2_init_39 : decode cX2_init 39 = .ok (.invokespecial 9, 3) := by decide +kernel
theorem dX2_init_42 : decode cX2_init 42 = .ok (.putfield 27, 3) := by decide +kernel
theorem dX2_init_45 : decode cX2_init 45 = .ok (.aload_n 0, 1) := by decide +kernel
theorem dX2_init_46 : decode cX2_init 46 = .ok (.new 30, 3) := by decide +kernel
theorem dX2_init_49 : decode cX2_init 49 = .ok (.dup, 1) := by decide +kernel
theorem dX2_init_50 : decode cX2_init 50 = .ok (.invokespecial 32, 3) := by decide +kernel
theorem dX2_init_53 : decode cX2_init 53 = .ok (.putfield 33, 3) := by decide +kernel
theorem dX2_init_56 : decode cX2_init 56 = .ok (.iconst 0, 1) := by decide +kernel
theorem dX2_init_57 : decode cX2_init 57 = .ok (.istore_n 1, 1) := by decide +kernel
theorem dX2_init_58 : decode cX2_init 58 = .ok (.iload_n 1, 1) := by decide +kernel
theorem dX2_init_59 : decode cX2_init 59 = .ok (.aload_n 0, 1) := by decide +kernel
theorem dX2_init_60 : decode cX2_init 60 = .ok (.getfield 16, 3) := by decide +kernel
theorem dX2_init_63 : decode cX2_init 63 = .ok (.arraylength, 1) := by decide +kernel
theorem dX2_init_64 : decode cX2_init 64 = .ok (.if_icmp .ge 22, 3) := by decide +kernel
theorem dX2_init_67 : decode cX2_init 67 = .ok (.aload_n 0, 1) := by decide +kernel
theorem dX2_init_68 : decode cX2_init 68 = .ok (.getfield 16, 3) := by decide +kernel
theorem dX2_init_71 : decode cX2_init 71 = .ok (.iload_n 1, 1) := by decide +kernel
theorem dX2_init_72 : decode cX2_init 72 = .ok (.new 7, 3) := by decide +kernel
theorem dX2_init_75 : decode cX2_init 75 = .ok (.dup, 1) := by decide +kernel
theorem dX2_init_76 : decode cX2_init 76 = .ok (.invokespecial 9, 3) := by decide +kernel
theorem dX2_init_79 : decode cX2_init 79 = .ok (.aastore, 1) := by decide +kernel
theorem dX2_init_80 : decode cX2_init 80 = .ok (.iinc 1 1, 3) := by decide +kernel
theorem dX2_init_83 : decode cX2_init 83 = .ok (.goto (-25), 3) := by decide +kernel
theorem dX2_init_86 : decode cX2_init 86 = .ok (.return_, 1) := by decide +kernel
set_option maxRecDepth 20000 in
theorem ggX2_lay_X0_size : GoodIn wsX2_lay wsX0_size := goodIn_r _ [9, 10, 26, 27] (by decide +kernel) (by decide +kernel)
set_option maxRecDepth 20000 in
theorem gX2_lay_X0_size : GoodIn wsX2_lay (wsV RX2 44 RX0 yX0_size wsX0_size) := goodIn_app (goodIn_of _ (by decide +kernel)) ggX2_lay_X0_size
set_option maxRecDepth 20000 in
theorem ggX2_lay_X0_clear : GoodIn wsX2_lay wsX0_clear := goodIn_r _ [14, 10, 15, 16, 17, 18, 8, 19, 26, 27] (by decide +kernel) (by decide +kernel)
set_option maxRecDepth 20000 in
theorem gX2_lay_X0_clear : GoodIn wsX2_lay (wsV RX2 48 RX0 yX0_clear wsX0_clear) := goodIn_app (goodIn_of _ (by decide +kernel)) ggX2_lay_X0_clear
theorem dX2_lay_0 : decode cX2_lay 0 = .ok (.iload_n 1, 1) := by decide +kernel
theorem dX2_lay_1 : decode cX2_lay 1 = .ok (.iconst 3, 1) := by decide +kernel
theorem dX2_lay_2 : decode cX2_lay 2 = .ok (.if_icmp .lt 9, 3) := by decide +kernel
theorem dX2_lay_5 : decode cX2_lay 5 = .ok (.iload_n 1, 1) := by decide +kernel
theorem dX2_lay_6 : decode cX2_lay 6 = .ok (.bipush 12, 2) := by decide +kernel
theorem dX2_lay_8 : decode cX2_lay 8 = .ok (.if_icmp .le 13, 3) := by decide +kernel
theorem dX2_lay_11 : decode cX2_lay 11 = .ok (.new 37, 3) := by decide +kernel
theorem dX2_lay_14 : decode cX2_lay 14 = .ok (.dup, 1) := by decide +kernel
theorem dX2_lay_15 : decode cX2_lay 15 = .ok (.ldc 39, 2) := by decide +kernel
theorem dX2_lay_17 : decode cX2_lay 17 = .ok (.invokespecial 41, 3) := by decide +kernel
theorem dX2_lay_20 : decode cX2_lay 20 = .ok (.athrow, 1) := by decide +kernel
theorem dX2_lay_21 : decode cX2_lay 21 = .ok (.aload_n 0, 1) := by decide +kernel
theorem dX2_lay_22 : decode cX2_lay 22 = .ok (.getfield 10, 3) := by decide +kernel
theorem dX2_lay_25 : decode cX2_lay 25 = .ok (.invokevirtual 44, 3) := by decide +kernel
theorem dX2_lay_28 : decode cX2_lay 28 = .ok (.istore_n 2, 1) := by decide +kernel
theorem dX2_lay_29 : decode cX2_lay 29 = .ok (.aload_n 0, 1) := by decide +kernel
theorem dX2_lay_30 : decode cX2_lay 30 = .ok (.getfield 10, 3) := by decide +kernel
theorem dX2_lay_33 : decode cX2_lay 33 = .ok (.iload_n 1, 1) := by decide +kernel
theorem dX2_lay_34 : decode cX2_lay 34 = .ok (.invokevirtual 48, 3) := by decide +kernel
theorem dX2_lay_37 : decode cX2_lay 37 = .ok (.aload_n 0, 1) := by decide +kernel
theorem dX2_lay_38 : decode cX2_lay 38 = .ok (.iconst 0, 1) := by decide +kernel
theorem dX2_lay_39 : decode cX2_lay 39 = .ok (.putfield 20, 3) := by decide +kernel
theorem dX2_lay_42 : decode cX2_lay 42 = .ok (.iload_n 2, 1) := by decide +kernel
theorem dX2_lay_43 : decode cX2_lay 43 = .ok (.ireturn, 1) := by decide +kernel
set_option maxRecDepth 20000 in
theorem ggX2_put_X2_requirePlace : GoodIn wsX2_put wsX2_requirePlace := goodIn_ca (goodIn_r _ [6, 7, 8, 1, 9, 10, 11, 12, 13, 14, 30, 31, 32, 33, 34, 35, 36, 37] (by decide +kernel) (by decide +kernel)) (goodIn_sub (fun _ h => List.mem_cons_of_mem _ (List.mem_append_left _ (List.mem_append_right _ h))) (by decide +kernel))
set_option maxRecDepth 20000 in
theorem gX2_put_X2_requirePlace : GoodIn wsX2_put (wsV RX2 52 RX2 yX2_requirePlace wsX2_requirePlace) := goodIn_app (goodIn_of _ (by decide +kernel)) ggX2_put_X2_requirePlace
set_option maxRecDepth 20000 in
theorem ggX2_put_X2_requireNumber : GoodIn wsX2_put wsX2_requireNumber := goodIn_ca (goodIn_r _ [18, 19, 20] (by decide +kernel) (by decide +kernel)) (goodIn_sub (fun _ h => List.mem_cons_of_mem _ (List.mem_append_right _ h)) (by decide +kernel))
set_option maxRecDepth 20000 in
theorem gX2_put_X2_requireNumber : GoodIn wsX2_put (wsV RX2 55 RX2 yX2_requireNumber wsX2_requireNumber) := goodIn_app (goodIn_of _ (by decide +kernel)) ggX2_put_X2_requireNumber
set_option maxRecDepth 20000 in
theorem ggX2_put_X0_at : GoodIn wsX2_put wsX0_at := goodIn_r _ [24, 25, 36, 37] (by decide +kernel) (by decide +kernel)
set_option maxRecDepth 20000 in
theorem gX2_put_X0_at : GoodIn wsX2_put (wsV RX2 58 RX0 yX0_at wsX0_at) := goodIn_app (goodIn_of _ (by decide +kernel)) ggX2_put_X0_at
set_option maxRecDepth 20000 in
theorem ggX2_put_X0_write : GoodIn wsX2_put wsX0_write := goodIn_r _ [29, 25, 36, 37] (by decide +kernel) (by decide +kernel)
set_option maxRecDepth 20000 in
theorem gX2_put_X0_write : GoodIn wsX2_put (wsV RX2 62 RX0 yX0_write wsX0_write) := goodIn_app (goodIn_of _ (by decide +kernel)) ggX2_put_X0_write
theorem dX2_put_0 : decode cX2_put 0 = .ok (.aload_n 0, 1) := by decide +kernel
theorem dX2_put_1 : decode cX2_put 1 = .ok (.iload_n 1, 1) := by decide +kernel
theorem dX2_put_2 : decode cX2_put 2 = .ok (.invokevirtual 52, 3) := by decide +kernel
theorem dX2_put_5 : decode cX2_put 5 = .ok (.aload_n 0, 1) := by decide +kernel
theorem dX2_put_6 : decode cX2_put 6 = .ok (.iload_n 2, 1) := by decide +kernel
theorem dX2_put_7 : decode cX2_put 7 = .ok (.invokevirtual 55, 3) := by decide +kernel
theorem dX2_put_10 : decode cX2_put 10 = .ok (.aload_n 0, 1) := by decide +kernel
theorem dX2_put_11 : decode cX2_put 11 = .ok (.getfield 10, 3) := by decide +kernel
theorem dX2_put_14 : decode cX2_put 14 = .ok (.iload_n 1, 1) := by decide +kernel
theorem dX2_put_15 : decode cX2_put 15 = .ok (.invokevirtual 58, 3) := by decide +kernel
theorem dX2_put_18 : decode cX2_put 18 = .ok (.istore_n 3, 1) := by decide +kernel
theorem dX2_put_19 : decode cX2_put 19 = .ok (.aload_n 0, 1) := by decide +kernel
theorem dX2_put_20 : decode cX2_put 20 = .ok (.getfield 10, 3) := by decide +kernel
theorem dX2_put_23 : decode cX2_put 23 = .ok (.iload_n 1, 1) := by decide +kernel
theorem dX2_put_24 : decode cX2_put 24 = .ok (.iload_n 2, 1) := by decide +kernel
theorem dX2_put_25 : decode cX2_put 25 = .ok (.invokevirtual 62, 3) := by decide +kernel
theorem dX2_put_28 : decode cX2_put 28 = .ok (.iload_n 3, 1) := by decide +kernel
theorem dX2_put_29 : decode cX2_put 29 = .ok (.ireturn, 1) := by decide +kernel
set_option maxRecDepth 20000 in
theorem ggX2_tip_X2_requirePlace : GoodIn wsX2_tip wsX2_requirePlace := goodIn_ca (goodIn_r _ [11, 12, 13, 1, 14, 15, 16, 17, 18, 19, 48, 49, 50, 51, 52, 53, 54, 55] (by decide +kernel) (by decide +kernel)) (goodIn_sub (fun _ h => List.mem_cons_of_mem _ (List.mem_append_left _ (List.mem_append_right _ h))) (by decide +kernel))
set_option maxRecDepth 20000 in
theorem gX2_tip_X2_requirePlace : GoodIn wsX2_tip (wsV RX2 52 RX2 yX2_requirePlace wsX2_requirePlace) := goodIn_app (goodIn_of _ (by decide +kernel)) ggX2_tip_X2_requirePlace
set_option maxRecDepth 20000 in
theorem ggX2_tip_X2_requireTimes : GoodIn wsX2_tip wsX2_requireTimes := goodIn_ca (goodIn_r _ [23, 24, 25] (by decide +kernel) (by decide +kernel)) (goodIn_sub (fun _ h => List.mem_cons_of_mem _ (List.mem_append_right _ h)) (by decide +kernel))
set_option maxRecDepth 20000 in
theorem gX2_tip_X2_requireTimes : GoodIn wsX2_tip (wsV RX2 66 RX2 yX2_requireTimes wsX2_requireTimes) := goodIn_app (goodIn_of _ (by decide +kernel)) ggX2_tip_X2_requireTimes
set_option maxRecDepth 20000 in
theorem ggX2_tip_X0_tipBy : GoodIn wsX2_tip wsX0_tipBy := goodIn_r _ [29, 30, 31, 32, 17, 33, 34, 35, 36, 37, 38, 39, 40, 41, 42, 43, 44, 45, 46, 19, 54, 55] (by decide +kernel) (by decide +kernel)
set_option maxRecDepth 20000 in
theorem gX2_tip_X0_tipBy : GoodIn wsX2_tip (wsV RX2 69 RX0 yX0_tipBy wsX0_tipBy) := goodIn_app (goodIn_of _ (by decide +kernel)) ggX2_tip_X0_tipBy
set_option maxRecDepth 20000 in
theorem ggX2_tip_X0_at : GoodIn wsX2_tip wsX0_at := goodIn_r _ [37, 38, 54, 55] (by decide +kernel) (by decide +kernel)
set_option maxRecDepth 20000 in
theorem gX2_tip_X0_at : GoodIn wsX2_tip (wsV RX2 58 RX0 yX0_at wsX0_at) := goodIn_app (goodIn_of _ (by decide +kernel)) ggX2_tip_X0_at
theorem dX2_tip_0 : decode cX2_tip 0 = .ok (.aload_n 0, 1) := by decide +kernel
theorem dX2_tip_1 : decode cX2_tip 1 = .ok (.iload_n 1, 1) := by decide +kernel
theorem dX2_tip_2 : decode cX2_tip 2 = .ok (.invokevirtual 52, 3) := by decide +kernel
theorem dX2_tip_5 : decode cX2_tip 5 = .ok (.aload_n 0, 1) := by decide +kernel
theorem dX2_tip_6 : decode cX2_tip 6 = .ok (.iload_n 2, 1) := by decide +kernel
theorem dX2_tip_7 : decode cX2_tip 7 = .ok (.invokevirtual 66, 3) := by decide +kernel
theorem dX2_tip_10 : decode cX2_tip 10 = .ok (.aload_n 0, 1) := by decide +kernel
theorem dX2_tip_11 : decode cX2_tip 11 = .ok (.getfield 10, 3) := by decide +kernel
theorem dX2_tip_14 : decode cX2_tip 14 = .ok (.iload_n 1, 1) := by decide +kernel
theorem dX2_tip_15 : decode cX2_tip 15 = .ok (.iload_n 2, 1) := by decide +kernel
theorem dX2_tip_16 : decode cX2_tip 16 = .ok (.invokevirtual 69, 3) := by decide +kernel
theorem dX2_tip_19 : decode cX2_tip 19 = .ok (.aload_n 0, 1) := by decide +kernel
theorem dX2_tip_20 : decode cX2_tip 20 = .ok (.dup, 1) := by decide +kernel
theorem dX2_tip_21 : decode cX2_tip 21 = .ok (.getfield 24, 3) := by decide +kernel
theorem dX2_tip_24 : decode cX2_tip 24 = .ok (.iload_n 2, 1) := by decide +kernel
theorem dX2_tip_25 : decode cX2_tip 25 = .ok (.invokestatic 72, 3) := by decide +kernel
theorem dX2_tip_28 : decode cX2_tip 28 = .ok (.iadd, 1) := by decide +kernel
theorem dX2_tip_29 : decode cX2_tip 29 = .ok (.putfield 24, 3) := by decide +kernel
theorem dX2_tip_32 : decode cX2_tip 32 = .ok (.aload_n 0, 1) := by decide +kernel
theorem dX2_tip_33 : decode cX2_tip 33 = .ok (.getfield 10, 3) := by decide +kernel
theorem dX2_tip_36 : decode cX2_tip 36 = .ok (.iload_n 1, 1) := by decide +kernel
theorem dX2_tip_37 : decode cX2_tip 37 = .ok (.invokevirtual 58, 3) := by decide +kernel
theorem dX2_tip_40 : decode cX2_tip 40 = .ok (.ireturn, 1) := by decide +kernel
set_option maxRecDepth 20000 in
theorem ggX2_turn_X0_rotate : GoodIn wsX2_turn wsX0_rotate := goodIn_r _ [6, 7, 8, 9, 10, 5, 11, 12, 13, 14, 15, 16, 24, 25] (by decide +kernel) (by decide +kernel)
set_option maxRecDepth 20000 in
theorem gX2_turn_X0_rotate : GoodIn wsX2_turn (wsV RX2 77 RX0 yX0_rotate wsX0_rotate) := goodIn_app (goodIn_of _ (by decide +kernel)) ggX2_turn_X0_rotate
set_option maxRecDepth 20000 in
theorem ggX2_turn_X0_at : GoodIn wsX2_turn wsX0_at := goodIn_r _ [11, 12, 24, 25] (by decide +kernel) (by decide +kernel)
set_option maxRecDepth 20000 in
theorem gX2_turn_X0_at : GoodIn wsX2_turn (wsV RX2 58 RX0 yX0_at wsX0_at) := goodIn_app (goodIn_of _ (by decide +kernel)) ggX2_turn_X0_at
theorem dX2_turn_0 : decode cX2_turn 0 = .ok (.aload_n 0, 1) := by decide +kernel
theorem dX2_turn_1 : decode cX2_turn 1 = .ok (.getfield 10, 3) := by decide +kernel
theorem dX2_turn_4 : decode cX2_turn 4 = .ok (.invokevirtual 77, 3) := by decide +kernel
theorem dX2_turn_7 : decode cX2_turn 7 = .ok (.aload_n 0, 1) := by decide +kernel
theorem dX2_turn_8 : decode cX2_turn 8 = .ok (.getfield 10, 3) := by decide +kernel
theorem dX2_turn_11 : decode cX2_turn 11 = .ok (.iconst 0, 1) := by decide +kernel
theorem dX2_turn_12 : decode cX2_turn 12 = .ok (.invokevirtual 58, 3) := by decide +kernel
theorem dX2_turn_15 : decode cX2_turn 15 = .ok (.ireturn, 1) := by decide +kernel
set_option maxRecDepth 20000 in
theorem ggX2_keep_X2_keptRing : GoodIn wsX2_keep wsX2_keptRing := goodIn_ca (goodIn_r _ [9, 10, 11, 3, 12, 28, 29, 30, 31, 32, 33] (by decide +kernel) (by decide +kernel)) (goodIn_sub (fun _ h => List.mem_cons_of_mem _ (List.mem_append_right _ h)) (by decide +kernel))
set_option maxRecDepth 20000 in
theorem gX2_keep_X2_keptRing : GoodIn wsX2_keep (wsV RX2 85 RX2 yX2_keptRing wsX2_keptRing) := goodIn_app (goodIn_of _ (by decide +kernel)) ggX2_keep_X2_keptRing
set_option maxRecDepth 20000 in
theorem ggX2_keep_X0_copyFrom : GoodIn wsX2_keep wsX0_copyFrom := goodIn_r _ [17, 18, 19, 20, 21, 22, 16, 23, 24, 25, 26, 27, 34, 35] (by decide +kernel) (by decide +kernel)
set_option maxRecDepth 20000 in
theorem gX2_keep_X0_copyFrom : GoodIn wsX2_keep (wsV RX2 89 RX0 yX0_copyFrom wsX0_copyFrom) := goodIn_app (goodIn_of _ (by decide +kernel)) ggX2_keep_X0_copyFrom
theorem dX2_keep_0 : decode cX2_keep 0 = .ok (.aload_n 0, 1) := by decide +kernel
theorem dX2_keep_1 : decode cX2_keep 1 = .ok (.getfield 20, 3) := by decide +kernel
theorem dX2_keep_4 : decode cX2_keep 4 = .ok (.bipush 6, 2) := by decide +kernel
theorem dX2_keep_6 : decode cX2_keep 6 = .ok (.if_icmp .lt 13, 3) := by decide +kernel
theorem dX2_keep_9 : decode cX2_keep 9 = .ok (.new 80, 3) := by decide +kernel
theorem dX2_keep_12 : decode cX2_keep 12 = .ok (.dup, 1) := by decide +kernel
theorem dX2_keep_13 : decode cX2_keep 13 = .ok (.ldc 82, 2) := by decide +kernel
theorem dX2_keep_15 : decode cX2_keep 15 = .ok (.invokespecial 84, 3) := by decide +kernel
theorem dX2_keep_18 : decode cX2_keep 18 = .ok (.athrow, 1) := by decide +kernel
theorem dX2_keep_19 : decode cX2_keep 19 = .ok (.aload_n 0, 1) := by decide +kernel
theorem dX2_keep_20 : decode cX2_keep 20 = .ok (.getfield 20, 3) := by decide +kernel
theorem dX2_keep_23 : decode cX2_keep 23 = .ok (.istore_n 1, 1) := by decide +kernel
theorem dX2_keep_24 : decode cX2_keep 24 = .ok (.aload_n 0, 1) := by decide +kernel
theorem dX2_keep_25 : decode cX2_keep 25 = .ok (.iload_n 1, 1) := by decide +kernel
theorem dX2_keep_26 : decode cX2_keep 26 = .ok (.iconst 1, 1) := by decide +kernel
theorem dX2_keep_27 : decode cX2_keep 27 = .ok (.iadd, 1) := by decide +kernel
theorem dX2_keep_28 : decode cX2_keep 28 = .ok (.putfield 20, 3) := by decide +kernel
theorem dX2_keep_31 : decode cX2_keep 31 = .ok (.aload_n 0, 1) := by decide +kernel
theorem dX2_keep_32 : decode cX2_keep 32 = .ok (.iload_n 1, 1) := by decide +kernel
theorem dX2_keep_33 : decode cX2_keep 33 = .ok (.invokevirtual 85, 3) := by decide +kernel
theorem dX2_keep_36 : decode cX2_keep 36 = .ok (.aload_n 0, 1) := by decide +kernel
theorem dX2_keep_37 : decode cX2_keep 37 = .ok (.getfield 10, 3) := by decide +kernel
theorem dX2_keep_40 : decode cX2_keep 40 = .ok (.invokevirtual 89, 3) := by decide +kernel
theorem dX2_keep_43 : decode cX2_keep 43 = .ok (.iload_n 1, 1) := by decide +kernel
theorem dX2_keep_44 : decode cX2_keep 44 = .ok (.ireturn, 1) := by decide +kernel
set_option maxRecDepth 20000 in
theorem ggX2_settle_X0_settleBy : GoodIn wsX2_settle wsX0_settleBy := goodIn_r _ [9, 10, 11, 12, 8, 13, 14, 15, 16, 17, 18, 19, 20, 21, 22, 23, 24, 25, 26, 27, 28, 29, 30, 31, 32, 33, 34, 35, 36, 37, 38, 39, 46, 47] (by decide +kernel) (by decide +kernel)
set_option maxRecDepth 20000 in
theorem gX2_settle_X0_settleBy : GoodIn wsX2_settle (wsV RX2 95 RX0 yX0_settleBy wsX0_settleBy) := goodIn_app (goodIn_of _ (by decide +kernel)) ggX2_settle_X0_settleBy
theorem dX2_settle_0 : decode cX2_settle 0 = .ok (.iload_n 1, 1) := by decide +kernel
theorem dX2_settle_1 : decode cX2_settle 1 = .ok (.iconst 1, 1) := by decide +kernel
theorem dX2_settle_2 : decode cX2_settle 2 = .ok (.if_icmp .lt 10, 3) := by decide +kernel
theorem dX2_settle_5 : decode cX2_settle 5 = .ok (.iload_n 1, 1) := by decide +kernel
theorem dX2_settle_6 : decode cX2_settle 6 = .ok (.sipush 200, 3) := by decide +kernel
theorem dX2_settle_9 : decode cX2_settle 9 = .ok (.if_icmp .le 13, 3) := by decide +kernel
theorem dX2_settle_12 : decode cX2_settle 12 = .ok (.new 37, 3) := by decide +kernel
theorem dX2_settle_15 : decode cX2_settle 15 = .ok (.dup, 1) := by decide +kernel
theorem dX2_settle_16 : decode cX2_settle 16 = .ok (.ldc 93, 2) := by decide +kernel
theorem dX2_settle_18 : decode cX2_settle 18 = .ok (.invokespecial 41, 3) := by decide +kernel
theorem dX2_settle_21 : decode cX2_settle 21 = .ok (.athrow, 1) := by decide +kernel
theorem dX2_settle_22 : decode cX2_settle 22 = .ok (.aload_n 0, 1) := by decide +kernel
theorem dX2_settle_23 : decode cX2_settle 23 = .ok (.getfield 10, 3) := by decide +kernel
theorem dX2_settle_26 : decode cX2_settle 26 = .ok (.iload_n 1, 1) := by decide +kernel
theorem dX2_settle_27 : decode cX2_settle 27 = .ok (.invokevirtual 95, 3) := by decide +kernel
theorem dX2_settle_30 : decode cX2_settle 30 = .ok (.istore_n 2, 1) := by decide +kernel
theorem dX2_settle_31 : decode cX2_settle 31 = .ok (.aload_n 0, 1) := by decide +kernel
theorem dX2_settle_32 : decode cX2_settle 32 = .ok (.dup, 1) := by decide +kernel
theorem dX2_settle_33 : decode cX2_settle 33 = .ok (.getfield 24, 3) := by decide +kernel
theorem dX2_settle_36 : decode cX2_settle 36 = .ok (.iload_n 2, 1) := by decide +kernel
theorem dX2_settle_37 : decode cX2_settle 37 = .ok (.iadd, 1) := by decide +kernel
theorem dX2_settle_38 : decode cX2_settle 38 = .ok (.putfield 24, 3) := by decide +kernel
theorem dX2_settle_41 : decode cX2_settle 41 = .ok (.iload_n 2, 1) := by decide +kernel
theorem dX2_settle_42 : decode cX2_settle 42 = .ok (.ireturn, 1) := by decide +kernel
set_option maxRecDepth 20000 in
theorem ggX2_reach_X2_keptRing : GoodIn wsX2_reach wsX2_keptRing := goodIn_ca (goodIn_r _ [7, 8, 9, 10, 11, 89, 90, 91, 92, 93, 94] (by decide +kernel) (by decide +kernel)) (goodIn_sub (fun _ h => List.mem_cons_of_mem _ (List.mem_append_left _ (List.mem_append_right _ h))) (by decide +kernel))
set_option maxRecDepth 20000 in
theorem gX2_reach_X2_keptRing : GoodIn wsX2_reach (wsV RX2 85 RX2 yX2_keptRing wsX2_keptRing) := goodIn_app (goodIn_of _ (by decide +kernel)) ggX2_reach_X2_keptRing
set_option maxRecDepth 20000 in
theorem ggX2_reach_X2_requireWayTo : GoodIn wsX2_reach wsX2_requireWayTo := goodIn_ca (goodIn_r _ [15, 16, 17, 1, 18, 19, 20, 21, 22, 23, 24, 25, 26, 27, 28, 29, 30, 31, 32, 33, 34, 35, 36, 37, 38, 39, 40, 89, 90, 91, 92, 93, 94, 95, 96] (by decide +kernel) (by decide +kernel)) (goodIn_sub (fun _ h => List.mem_cons_of_mem _ (List.mem_append_right _ h)) (by decide +kernel))
set_option maxRecDepth 20000 in
theorem gX2_reach_X2_requireWayTo : GoodIn wsX2_reach (wsV RX2 98 RX2 yX2_requireWayTo wsX2_requireWayTo) := goodIn_app (goodIn_of _ (by decide +kernel)) ggX2_reach_X2_requireWayTo
set_option maxRecDepth 20000 in
theorem ggX2_reach_X2_fewestTo : GoodIn wsX2_reach wsX2_fewestTo := goodIn_r _ [44, 1, 45, 18, 19, 20, 21, 22, 23, 24, 25, 26, 27, 28, 29, 30, 31, 32, 33, 34, 35, 36, 37, 38, 39, 40, 46, 47, 48, 49, 50, 51, 52, 53, 54, 55, 56, 57, 58, 59, 60, 61, 62, 63, 64, 65, 66, 67, 68, 69, 70, 71, 72, 73, 74, 75, 76, 77, 78, 79, 80, 89, 90, 91, 92, 93, 94, 95, 96, 97, 98] (by decide +kernel) (by decide +kernel)
set_option maxRecDepth 20000 in
theorem gX2_reach_X2_fewestTo : GoodIn wsX2_reach (wsV RX2 101 RX2 yX2_fewestTo wsX2_fewestTo) := goodIn_app (goodIn_of _ (by decide +kernel)) ggX2_reach_X2_fewestTo
set_option maxRecDepth 20000 in
theorem ggX2_reach_X0_copyFrom : GoodIn wsX2_reach wsX0_copyFrom := goodIn_r _ [84, 27, 32, 28, 29, 30, 21, 31, 85, 86, 87, 88, 95, 96] (by decide +kernel) (by decide +kernel)
set_option maxRecDepth 20000 in
theorem gX2_reach_X0_copyFrom : GoodIn wsX2_reach (wsV RX2 89 RX0 yX0_copyFrom wsX0_copyFrom) := goodIn_app (goodIn_of _ (by decide +kernel)) ggX2_reach_X0_copyFrom
theorem dX2_reach_0 : decode cX2_reach 0 = .ok (.aload_n 0, 1) := by decide +kernel
theorem dX2_reach_1 : decode cX2_reach 1 = .ok (.iload_n 1, 1) := by decide +kernel
theorem dX2_reach_2 : decode cX2_reach 2 = .ok (.invokevirtual 85, 3) := by decide +kernel
theorem dX2_reach_5 : decode cX2_reach 5 = .ok (.astore_n 2, 1) := by decide +kernel
theorem dX2_reach_6 : decode cX2_reach 6 = .ok (.aload_n 0, 1) := by decide +kernel
theorem dX2_reach_7 : decode cX2_reach 7 = .ok (.aload_n 2, 1) := by decide +kernel
theorem dX2_reach_8 : decode cX2_reach 8 = .ok (.invokevirtual 98, 3) := by decide +kernel
theorem dX2_reach_11 : decode cX2_reach 11 = .ok (.aload_n 0, 1) := by decide +kernel
theorem dX2_reach_12 : decode cX2_reach 12 = .ok (.aload_n 2, 1) := by decide +kernel
theorem dX2_reach_13 : decode cX2_reach 13 = .ok (.invokevirtual 101, 3) := by decide +kernel
theorem dX2_reach_16 : decode cX2_reach 16 = .ok (.istore_n 3, 1) := by decide +kernel
theorem dX2_reach_17 : decode cX2_reach 17 = .ok (.aload_n 0, 1) := by decide +kernel
theorem dX2_reach_18 : decode cX2_reach 18 = .ok (.getfield 10, 3) := by decide +kernel
theorem dX2_reach_21 : decode cX2_reach 21 = .ok (.aload_n 2, 1) := by decide +kernel
theorem dX2_reach_22 : decode cX2_reach 22 = .ok (.invokevirtual 89, 3) := by decide +kernel
theorem dX2_reach_25 : decode cX2_reach 25 = .ok (.aload_n 0, 1) := by decide +kernel
theorem dX2_reach_26 : decode cX2_reach 26 = .ok (.dup, 1) := by decide +kernel
theorem dX2_reach_27 : decode cX2_reach 27 = .ok (.getfield 24, 3) := by decide +kernel
theorem dX2_reach_30 : decode cX2_reach 30 = .ok (.iload_n 3, 1) := by decide +kernel
theorem dX2_reach_31 : decode cX2_reach 31 = .ok (.iadd, 1) := by decide +kernel
theorem dX2_reach_32 : decode cX2_reach 32 = .ok (.putfield 24, 3) := by decide +kernel
theorem dX2_reach_35 : decode cX2_reach 35 = .ok (.iload_n 3, 1) := by decide +kernel
theorem dX2_reach_36 : decode cX2_reach 36 = .ok (.ireturn, 1) := by decide +kernel
set_option maxRecDepth 20000 in
theorem ggX2_places_X0_size : GoodIn wsX2_places wsX0_size := goodIn_r _ [6, 7, 14, 15] (by decide +kernel) (by decide +kernel)
set_option maxRecDepth 20000 in
theorem gX2_places_X0_size : GoodIn wsX2_places (wsV RX2 44 RX0 yX0_size wsX0_size) := goodIn_app (goodIn_of _ (by decide +kernel)) ggX2_places_X0_size
theorem dX2_places_0 : decode cX2_places 0 = .ok (.aload_n 0, 1) := by decide +kernel
theorem dX2_places_1 : decode cX2_places 1 = .ok (.getfield 10, 3) := by decide +kernel
theorem dX2_places_4 : decode cX2_places 4 = .ok (.invokevirtual 44, 3) := by decide +kernel
theorem dX2_places_7 : decode cX2_places 7 = .ok (.ireturn, 1) := by decide +kernel
set_option maxRecDepth 20000 in
theorem ggX2_numberAt_X2_requirePlace : GoodIn wsX2_numberAt wsX2_requirePlace := goodIn_ca (goodIn_r _ [6, 7, 8, 1, 9, 10, 11, 12, 13, 14, 20, 21, 22, 23, 24, 25, 26, 27] (by decide +kernel) (by decide +kernel)) (goodIn_sub (fun _ h => List.mem_cons_of_mem _ (List.mem_append_right _ h)) (by decide +kernel))
set_option maxRecDepth 20000 in
theorem gX2_numberAt_X2_requirePlace : GoodIn wsX2_numberAt (wsV RX2 52 RX2 yX2_requirePlace wsX2_requirePlace) := goodIn_app (goodIn_of _ (by decide +kernel)) ggX2_numberAt_X2_requirePlace
set_option maxRecDepth 20000 in
theorem ggX2_numberAt_X0_at : GoodIn wsX2_numberAt wsX0_at := goodIn_r _ [18, 19, 26, 27] (by decide +kernel) (by decide +kernel)
set_option maxRecDepth 20000 in
theorem gX2_numberAt_X0_at : GoodIn wsX2_numberAt (wsV RX2 58 RX0 yX0_at wsX0_at) := goodIn_app (goodIn_of _ (by decide +kernel)) ggX2_numberAt_X0_at
theorem dX2_numberAt_0 : decode cX2_numberAt 0 = .ok (.aload_n 0, 1) := by decide +kernel
theorem dX2_numberAt_1 : decode cX2_numberAt 1 = .ok (.iload_n 1, 1) := by decide +kernel
theorem dX2_numberAt_2 : decode cX2_numberAt 2 = .ok (.invokevirtual 52, 3) := by decide +kernel
theorem dX2_numberAt_5 : decode cX2_numberAt 5 = .ok (.aload_n 0, 1) := by decide +kernel
theorem dX2_numberAt_6 : decode cX2_numberAt 6 = .ok (.getfield 10, 3) := by decide +kernel
theorem dX2_numberAt_9 : decode cX2_numberAt 9 = .ok (.iload_n 1, 1) := by decide +kernel
theorem dX2_numberAt_10 : decode cX2_numberAt 10 = .ok (.invokevirtual 58, 3) := by decide +kernel
theorem dX2_numberAt_13 : decode cX2_numberAt 13 = .ok (.ireturn, 1) := by decide +kernel
theorem dX2_targets_0 : decode cX2_targets 0 = .ok (.aload_n 0, 1) := by decide +kernel
theorem dX2_targets_1 : decode cX2_targets 1 = .ok (.getfield 20, 3) := by decide +kernel
theorem dX2_targets_4 : decode cX2_targets 4 = .ok (.ireturn, 1) := by decide +kernel
theorem dX2_tips_0 : decode cX2_tips 0 = .ok (.aload_n 0, 1) := by decide +kernel
theorem dX2_tips_1 : decode cX2_tips 1 = .ok (.getfield 24, 3) := by decide +kernel
theorem dX2_tips_4 : decode cX2_tips 4 = .ok (.ireturn, 1) := by decide +kernel
set_option maxRecDepth 20000 in
theorem ggX2_sum_X0_total : GoodIn wsX2_sum wsX0_total := goodIn_r _ [6, 7, 8, 9, 10, 5, 11, 12, 19, 20] (by decide +kernel) (by decide +kernel)
set_option maxRecDepth 20000 in
theorem gX2_sum_X0_total : GoodIn wsX2_sum (wsV RX2 105 RX0 yX0_total wsX0_total) := goodIn_app (goodIn_of _ (by decide +kernel)) ggX2_sum_X0_total
theorem dX2_sum_0 : decode cX2_sum 0 = .ok (.aload_n 0, 1) := by decide +kernel
theorem dX2_sum_1 : decode cX2_sum 1 = .ok (.getfield 10, 3) := by decide +kernel
theorem dX2_sum_4 : decode cX2_sum 4 = .ok (.invokevirtual 105, 3) := by decide +kernel
theorem dX2_sum_7 : decode cX2_sum 7 = .ok (.ireturn, 1) := by decide +kernel
set_option maxRecDepth 20000 in
theorem ggX2_moment_X0_momentLeft : GoodIn wsX2_moment wsX0_momentLeft := goodIn_r _ [6, 7, 8, 9, 10, 5, 11, 12, 13, 14, 15, 16, 23, 24] (by decide +kernel) (by decide +kernel)
set_option maxRecDepth 20000 in
theorem gX2_moment_X0_momentLeft : GoodIn wsX2_moment (wsV RX2 108 RX0 yX0_momentLeft wsX0_momentLeft) := goodIn_app (goodIn_of _ (by decide +kernel)) ggX2_moment_X0_momentLeft
theorem dX2_moment_0 : decode cX2_moment 0 = .ok (.aload_n 0, 1) := by decide +kernel
theorem dX2_moment_1 : decode cX2_moment 1 = .ok (.getfield 10, 3) := by decide +kernel
theorem dX2_moment_4 : decode cX2_moment 4 = .ok (.invokevirtual 108, 3) := by decide +kernel
theorem dX2_moment_7 : decode cX2_moment 7 = .ok (.ireturn, 1) := by decide +kernel
set_option maxRecDepth 20000 in
theorem ggX2_spread_X0_span : GoodIn wsX2_spread wsX0_span := goodIn_r _ [6, 7, 8, 9, 10, 11, 12, 13, 14, 5, 15, 16, 17, 18, 19, 20, 27, 28] (by decide +kernel) (by decide +kernel)
set_option maxRecDepth 20000 in
theorem gX2_spread_X0_span : GoodIn wsX2_spread (wsV RX2 111 RX0 yX0_span wsX0_span) := goodIn_app (goodIn_of _ (by decide +kernel)) ggX2_spread_X0_span
theorem dX2_spread_0 : decode cX2_spread 0 = .ok (.aload_n 0, 1) := by decide +kernel
theorem dX2_spread_1 : decode cX2_spread 1 = .ok (.getfield 10, 3) := by decide +kernel
theorem dX2_spread_4 : decode cX2_spread 4 = .ok (.invokevirtual 111, 3) := by decide +kernel
theorem dX2_spread_7 : decode cX2_spread 7 = .ok (.ireturn, 1) := by decide +kernel
set_option maxRecDepth 20000 in
theorem ggX2_highest_X0_firstGreatest : GoodIn wsX2_highest wsX0_firstGreatest := goodIn_r _ [6, 7, 8, 9, 10, 5, 11, 12, 19, 20] (by decide +kernel) (by decide +kernel)
set_option maxRecDepth 20000 in
theorem gX2_highest_X0_firstGreatest : GoodIn wsX2_highest (wsV RX2 114 RX0 yX0_firstGreatest wsX0_firstGreatest) := goodIn_app (goodIn_of _ (by decide +kernel)) ggX2_highest_X0_firstGreatest
theorem dX2_highest_0 : decode cX2_highest 0 = .ok (.aload_n 0, 1) := by decide +kernel
theorem dX2_highest_1 : decode cX2_highest 1 = .ok (.getfield 10, 3) := by decide +kernel
theorem dX2_highest_4 : decode cX2_highest 4 = .ok (.invokevirtual 114, 3) := by decide +kernel
theorem dX2_highest_7 : decode cX2_highest 7 = .ok (.ireturn, 1) := by decide +kernel
set_option maxRecDepth 20000 in
theorem ggX2_isSteep_X2_requirePlace : GoodIn wsX2_isSteep wsX2_requirePlace := goodIn_ca (goodIn_r _ [6, 7, 8, 1, 9, 10, 11, 12, 13, 14, 28, 29, 30, 31, 32, 33, 34, 35] (by decide +kernel) (by decide +kernel)) (goodIn_sub (fun _ h => List.mem_cons_of_mem _ (List.mem_append_right _ h)) (by decide +kernel))
set_option maxRecDepth 20000 in
theorem gX2_isSteep_X2_requirePlace : GoodIn wsX2_isSteep (wsV RX2 52 RX2 yX2_requirePlace wsX2_requirePlace) := goodIn_app (goodIn_of _ (by decide +kernel)) ggX2_isSteep_X2_requirePlace
set_option maxRecDepth 20000 in
theorem ggX2_isSteep_X0_steepAt : GoodIn wsX2_isSteep wsX0_steepAt := goodIn_r _ [18, 19, 20, 21, 12, 22, 23, 24, 25, 26, 27, 14, 34, 35] (by decide +kernel) (by decide +kernel)
set_option maxRecDepth 20000 in
theorem gX2_isSteep_X0_steepAt : GoodIn wsX2_isSteep (wsV RX2 117 RX0 yX0_steepAt wsX0_steepAt) := goodIn_app (goodIn_of _ (by decide +kernel)) ggX2_isSteep_X0_steepAt
theorem dX2_isSteep_0 : decode cX2_isSteep 0 = .ok (.aload_n 0, 1) := by decide +kernel
theorem dX2_isSteep_1 : decode cX2_isSteep 1 = .ok (.iload_n 1, 1) := by decide +kernel
theorem dX2_isSteep_2 : decode cX2_isSteep 2 = .ok (.invokevirtual 52, 3) := by decide +kernel
theorem dX2_isSteep_5 : decode cX2_isSteep 5 = .ok (.aload_n 0, 1) := by decide +kernel
theorem dX2_isSteep_6 : decode cX2_isSteep 6 = .ok (.getfield 10, 3) := by decide +kernel
theorem dX2_isSteep_9 : decode cX2_isSteep 9 = .ok (.iload_n 1, 1) := by decide +kernel
theorem dX2_isSteep_10 : decode cX2_isSteep 10 = .ok (.invokevirtual 117, 3) := by decide +kernel
theorem dX2_isSteep_13 : decode cX2_isSteep 13 = .ok (.ireturn, 1) := by decide +kernel
set_option maxRecDepth 20000 in
theorem ggX2_steepPlaces_X0_size : GoodIn wsX2_steepPlaces wsX0_size := goodIn_r _ [6, 7, 27, 28] (by decide +kernel) (by decide +kernel)
set_option maxRecDepth 20000 in
theorem gX2_steepPlaces_X0_size : GoodIn wsX2_steepPlaces (wsV RX2 44 RX0 yX0_size wsX0_size) := goodIn_app (goodIn_of _ (by decide +kernel)) ggX2_steepPlaces_X0_size
set_option maxRecDepth 20000 in
theorem ggX2_steepPlaces_X0_steepAt : GoodIn wsX2_steepPlaces wsX0_steepAt := goodIn_r _ [11, 12, 13, 14, 5, 15, 16, 17, 18, 19, 20, 7, 27, 28] (by decide +kernel) (by decide +kernel)
set_option maxRecDepth 20000 in
theorem gX2_steepPlaces_X0_steepAt : GoodIn wsX2_steepPlaces (wsV RX2 117 RX0 yX0_steepAt wsX0_steepAt) := goodIn_app (goodIn_of _ (by decide +kernel)) ggX2_steepPlaces_X0_steepAt
theorem dX2_steepPlaces_0 : decode cX2_steepPlaces 0 = .ok (.iconst 0, 1) := by decide +kernel
theorem dX2_steepPlaces_1 : decode cX2_steepPlaces 1 = .ok (.istore_n 1, 1) := by decide +kernel
theorem dX2_steepPlaces_2 : decode cX2_steepPlaces 2 = .ok (.iconst 0, 1) := by decide +kernel
theorem dX2_steepPlaces_3 : decode cX2_steepPlaces 3 = .ok (.istore_n 2, 1) := by decide +kernel
theorem dX2_steepPlaces_4 : decode cX2_steepPlaces 4 = .ok (.iload_n 2, 1) := by decide +kernel
theorem dX2_steepPlaces_5 : decode cX2_steepPlaces 5 = .ok (.aload_n 0, 1) := by decide +kernel
theorem dX2_steepPlaces_6 : decode cX2_steepPlaces 6 = .ok (.getfield 10, 3) := by decide +kernel
theorem dX2_steepPlaces_9 : decode cX2_steepPlaces 9 = .ok (.invokevirtual 44, 3) := by decide +kernel
theorem dX2_steepPlaces_12 : decode cX2_steepPlaces 12 = .ok (.if_icmp .ge 23, 3) := by decide +kernel
theorem dX2_steepPlaces_15 : decode cX2_steepPlaces 15 = .ok (.aload_n 0, 1) := by decide +kernel
theorem dX2_steepPlaces_16 : decode cX2_steepPlaces 16 = .ok (.getfield 10, 3) := by decide +kernel
theorem dX2_steepPlaces_19 : decode cX2_steepPlaces 19 = .ok (.iload_n 2, 1) := by decide +kernel
theorem dX2_steepPlaces_20 : decode cX2_steepPlaces 20 = .ok (.invokevirtual 117, 3) := by decide +kernel
theorem dX2_steepPlaces_23 : decode cX2_steepPlaces 23 = .ok (.ifCond .eq 6, 3) := by decide +kernel
theorem dX2_steepPlaces_26 : decode cX2_steepPlaces 26 = .ok (.iinc 1 1, 3) := by decide +kernel
theorem dX2_steepPlaces_29 : decode cX2_steepPlaces 29 = .ok (.iinc 2 1, 3) := by decide +kernel
theorem dX2_steepPlaces_32 : decode cX2_steepPlaces 32 = .ok (.goto (-28), 3) := by decide +kernel
theorem dX2_steepPlaces_35 : decode cX2_steepPlaces 35 = .ok (.iload_n 1, 1) := by decide +kernel
theorem dX2_steepPlaces_36 : decode cX2_steepPlaces 36 = .ok (.ireturn, 1) := by decide +kernel
set_option maxRecDepth 20000 in
theorem ggX2_nextToTip_X0_firstSteep : GoodIn wsX2_nextToTip wsX0_firstSteep := goodIn_r _ [6, 7, 8, 9, 10, 5, 11, 12, 13, 14, 15, 16, 17, 18, 19, 20, 27, 28] (by decide +kernel) (by decide +kernel)
set_option maxRecDepth 20000 in
theorem gX2_nextToTip_X0_firstSteep : GoodIn wsX2_nextToTip (wsV RX2 121 RX0 yX0_firstSteep wsX0_firstSteep) := goodIn_app (goodIn_of _ (by decide +kernel)) ggX2_nextToTip_X0_firstSteep
theorem dX2_nextToTip_0 : decode cX2_nextToTip 0 = .ok (.aload_n 0, 1) := by decide +kernel
theorem dX2_nextToTip_1 : decode cX2_nextToTip 1 = .ok (.getfield 10, 3) := by decide +kernel
theorem dX2_nextToTip_4 : decode cX2_nextToTip 4 = .ok (.invokevirtual 121, 3) := by decide +kernel
theorem dX2_nextToTip_7 : decode cX2_nextToTip 7 = .ok (.ireturn, 1) := by decide +kernel
set_option maxRecDepth 20000 in
theorem ggX2_tilt_X2_requirePlace : GoodIn wsX2_tilt wsX2_requirePlace := goodIn_ca (goodIn_r _ [6, 7, 8, 1, 9, 10, 11, 12, 13, 14, 28, 29, 30, 31, 32, 33, 34, 35] (by decide +kernel) (by decide +kernel)) (goodIn_sub (fun _ h => List.mem_cons_of_mem _ (List.mem_append_right _ h)) (by decide +kernel))
set_option maxRecDepth 20000 in
theorem gX2_tilt_X2_requirePlace : GoodIn wsX2_tilt (wsV RX2 52 RX2 yX2_requirePlace wsX2_requirePlace) := goodIn_app (goodIn_of _ (by decide +kernel)) ggX2_tilt_X2_requirePlace
set_option maxRecDepth 20000 in
theorem ggX2_tilt_X0_tiltOn : GoodIn wsX2_tilt wsX0_tiltOn := goodIn_r _ [18, 14, 19, 20, 21, 12, 22, 23, 24, 25, 26, 27, 34, 35] (by decide +kernel) (by decide +kernel)
set_option maxRecDepth 20000 in
theorem gX2_tilt_X0_tiltOn : GoodIn wsX2_tilt (wsV RX2 124 RX0 yX0_tiltOn wsX0_tiltOn) := goodIn_app (goodIn_of _ (by decide +kernel)) ggX2_tilt_X0_tiltOn
theorem dX2_tilt_0 : decode cX2_tilt 0 = .ok (.aload_n 0, 1) := by decide +kernel
theorem dX2_tilt_1 : decode cX2_tilt 1 = .ok (.iload_n 1, 1) := by decide +kernel
theorem dX2_tilt_2 : decode cX2_tilt 2 = .ok (.invokevirtual 52, 3) := by decide +kernel
theorem dX2_tilt_5 : decode cX2_tilt 5 = .ok (.aload_n 0, 1) := by decide +kernel
theorem dX2_tilt_6 : decode cX2_tilt 6 = .ok (.getfield 10, 3) := by decide +kernel
theorem dX2_tilt_9 : decode cX2_tilt 9 = .ok (.iload_n 1, 1) := by decide +kernel
theorem dX2_tilt_10 : decode cX2_tilt 10 = .ok (.invokevirtual 124, 3) := by decide +kernel
theorem dX2_tilt_13 : decode cX2_tilt 13 = .ok (.ireturn, 1) := by decide +kernel
set_option maxRecDepth 20000 in
theorem ggX2_levelAxes_X0_size : GoodIn wsX2_levelAxes wsX0_size := goodIn_r _ [6, 7, 27, 28] (by decide +kernel) (by decide +kernel)
set_option maxRecDepth 20000 in
theorem gX2_levelAxes_X0_size : GoodIn wsX2_levelAxes (wsV RX2 44 RX0 yX0_size wsX0_size) := goodIn_app (goodIn_of _ (by decide +kernel)) ggX2_levelAxes_X0_size
set_option maxRecDepth 20000 in
theorem ggX2_levelAxes_X0_tiltOn : GoodIn wsX2_levelAxes wsX0_tiltOn := goodIn_r _ [11, 7, 12, 13, 14, 5, 15, 16, 17, 18, 19, 20, 27, 28] (by decide +kernel) (by decide +kernel)
set_option maxRecDepth 20000 in
theorem gX2_levelAxes_X0_tiltOn : GoodIn wsX2_levelAxes (wsV RX2 124 RX0 yX0_tiltOn wsX0_tiltOn) := goodIn_app (goodIn_of _ (by decide +kernel)) ggX2_levelAxes_X0_tiltOn
theorem dX2_levelAxes_0 : decode cX2_levelAxes 0 = .ok (.iconst 0, 1) := by decide +kernel
theorem dX2_levelAxes_1 : decode cX2_levelAxes 1 = .ok (.istore_n 1, 1) := by decide +kernel
theorem dX2_levelAxes_2 : decode cX2_levelAxes 2 = .ok (.iconst 0, 1) := by decide +kernel
theorem dX2_levelAxes_3 : decode cX2_levelAxes 3 = .ok (.istore_n 2, 1) := by decide +kernel
theorem dX2_levelAxes_4 : decode cX2_levelAxes 4 = .ok (.iload_n 2, 1) := by decide +kernel
theorem dX2_levelAxes_5 : decode cX2_levelAxes 5 = .ok (.aload_n 0, 1) := by decide +kernel
theorem dX2_levelAxes_6 : decode cX2_levelAxes 6 = .ok (.getfield 10, 3) := by decide +kernel
theorem dX2_levelAxes_9 : decode cX2_levelAxes 9 = .ok (.invokevirtual 44, 3) := by decide +kernel
theorem dX2_levelAxes_12 : decode cX2_levelAxes 12 = .ok (.if_icmp .ge 23, 3) := by decide +kernel
theorem dX2_levelAxes_15 : decode cX2_levelAxes 15 = .ok (.aload_n 0, 1) := by decide +kernel
theorem dX2_levelAxes_16 : decode cX2_levelAxes 16 = .ok (.getfield 10, 3) := by decide +kernel
theorem dX2_levelAxes_19 : decode cX2_levelAxes 19 = .ok (.iload_n 2, 1) := by decide +kernel
theorem dX2_levelAxes_20 : decode cX2_levelAxes 20 = .ok (.invokevirtual 124, 3) := by decide +kernel
theorem dX2_levelAxes_23 : decode cX2_levelAxes 23 = .ok (.ifCond .ne 6, 3) := by decide +kernel
theorem dX2_levelAxes_26 : decode cX2_levelAxes 26 = .ok (.iinc 1 1, 3) := by decide +kernel
theorem dX2_levelAxes_29 : decode cX2_levelAxes 29 = .ok (.iinc 2 1, 3) := by decide +kernel
theorem dX2_levelAxes_32 : decode cX2_levelAxes 32 = .ok (.goto (-28), 3) := by decide +kernel
theorem dX2_levelAxes_35 : decode cX2_levelAxes 35 = .ok (.iload_n 1, 1) := by decide +kernel
theorem dX2_levelAxes_36 : decode cX2_levelAxes 36 = .ok (.ireturn, 1) := by decide +kernel
set_option maxRecDepth 20000 in
theorem ggX2_bestAxis_X0_size : GoodIn wsX2_bestAxis wsX0_size := goodIn_r _ [10, 11, 31, 32] (by decide +kernel) (by decide +kernel)
set_option maxRecDepth 20000 in
theorem gX2_bestAxis_X0_size : GoodIn wsX2_bestAxis (wsV RX2 44 RX0 yX0_size wsX0_size) := goodIn_app (goodIn_of _ (by decide +kernel)) ggX2_bestAxis_X0_size
set_option maxRecDepth 20000 in
theorem ggX2_bestAxis_X0_tiltOn : GoodIn wsX2_bestAxis wsX0_tiltOn := goodIn_r _ [15, 11, 16, 17, 18, 9, 19, 20, 21, 22, 23, 24, 31, 32] (by decide +kernel) (by decide +kernel)
set_option maxRecDepth 20000 in
theorem gX2_bestAxis_X0_tiltOn : GoodIn wsX2_bestAxis (wsV RX2 124 RX0 yX0_tiltOn wsX0_tiltOn) := goodIn_app (goodIn_of _ (by decide +kernel)) ggX2_bestAxis_X0_tiltOn
theorem dX2_bestAxis_0 : decode cX2_bestAxis 0 = .ok (.iconst 0, 1) := by decide +kernel
theorem dX2_bestAxis_1 : decode cX2_bestAxis 1 = .ok (.istore_n 1, 1) := by decide +kernel
theorem dX2_bestAxis_2 : decode cX2_bestAxis 2 = .ok (.iconst 1, 1) := by decide +kernel
theorem dX2_bestAxis_3 : decode cX2_bestAxis 3 = .ok (.istore_n 2, 1) := by decide +kernel
theorem dX2_bestAxis_4 : decode cX2_bestAxis 4 = .ok (.iload_n 2, 1) := by decide +kernel
theorem dX2_bestAxis_5 : decode cX2_bestAxis 5 = .ok (.aload_n 0, 1) := by decide +kernel
theorem dX2_bestAxis_6 : decode cX2_bestAxis 6 = .ok (.getfield 10, 3) := by decide +kernel
theorem dX2_bestAxis_9 : decode cX2_bestAxis 9 = .ok (.invokevirtual 44, 3) := by decide +kernel
theorem dX2_bestAxis_12 : decode cX2_bestAxis 12 = .ok (.if_icmp .ge 36, 3) := by decide +kernel
theorem dX2_bestAxis_15 : decode cX2_bestAxis 15 = .ok (.aload_n 0, 1) := by decide +kernel
theorem dX2_bestAxis_16 : decode cX2_bestAxis 16 = .ok (.getfield 10, 3) := by decide +kernel
theorem dX2_bestAxis_19 : decode cX2_bestAxis 19 = .ok (.iload_n 2, 1) := by decide +kernel
theorem dX2_bestAxis_20 : decode cX2_bestAxis 20 = .ok (.invokevirtual 124, 3) := by decide +kernel
theorem dX2_bestAxis_23 : decode cX2_bestAxis 23 = .ok (.invokestatic 72, 3) := by decide +kernel
theorem dX2_bestAxis_26 : decode cX2_bestAxis 26 = .ok (.aload_n 0, 1) := by decide +kernel
theorem dX2_bestAxis_27 : decode cX2_bestAxis 27 = .ok (.getfield 10, 3) := by decide +kernel
theorem dX2_bestAxis_30 : decode cX2_bestAxis 30 = .ok (.iload_n 1, 1) := by decide +kernel
theorem dX2_bestAxis_31 : decode cX2_bestAxis 31 = .ok (.invokevirtual 124, 3) := by decide +kernel
theorem dX2_bestAxis_34 : decode cX2_bestAxis 34 = .ok (.invokestatic 72, 3) := by decide +kernel
theorem dX2_bestAxis_37 : decode cX2_bestAxis 37 = .ok (.if_icmp .ge 5, 3) := by decide +kernel
theorem dX2_bestAxis_40 : decode cX2_bestAxis 40 = .ok (.iload_n 2, 1) := by decide +kernel
theorem dX2_bestAxis_41 : decode cX2_bestAxis 41 = .ok (.istore_n 1, 1) := by decide +kernel
theorem dX2_bestAxis_42 : decode cX2_bestAxis 42 = .ok (.iinc 2 1, 3) := by decide +kernel
theorem dX2_bestAxis_45 : decode cX2_bestAxis 45 = .ok (.goto (-41), 3) := by decide +kernel
theorem dX2_bestAxis_48 : decode cX2_bestAxis 48 = .ok (.iload_n 1, 1) := by decide +kernel
theorem dX2_bestAxis_49 : decode cX2_bestAxis 49 = .ok (.ireturn, 1) := by decide +kernel
set_option maxRecDepth 20000 in
theorem ggX2_numberIn_X2_keptRing : GoodIn wsX2_numberIn wsX2_keptRing := goodIn_ca (goodIn_r _ [5, 6, 7, 8, 9, 26, 27, 28, 29, 30, 31] (by decide +kernel) (by decide +kernel)) (goodIn_sub (fun _ h => List.mem_cons_of_mem _ (List.mem_append_right _ h)) (by decide +kernel))
set_option maxRecDepth 20000 in
theorem gX2_numberIn_X2_keptRing : GoodIn wsX2_numberIn (wsV RX2 85 RX2 yX2_keptRing wsX2_keptRing) := goodIn_app (goodIn_of _ (by decide +kernel)) ggX2_numberIn_X2_keptRing
set_option maxRecDepth 20000 in
theorem ggX2_numberIn_X2_requirePlace : GoodIn wsX2_numberIn wsX2_requirePlace := goodIn_ca (goodIn_r _ [13, 6, 7, 14, 15, 16, 17, 18, 19, 20, 26, 27, 28, 29, 30, 31, 32, 33] (by decide +kernel) (by decide +kernel)) (goodIn_sub (fun _ h => List.mem_cons_of_mem _ (List.mem_append_right _ h)) (by decide +kernel))
set_option maxRecDepth 20000 in
theorem gX2_numberIn_X2_requirePlace : GoodIn wsX2_numberIn (wsV RX2 52 RX2 yX2_requirePlace wsX2_requirePlace) := goodIn_app (goodIn_of _ (by decide +kernel)) ggX2_numberIn_X2_requirePlace
set_option maxRecDepth 20000 in
theorem ggX2_numberIn_X0_at : GoodIn wsX2_numberIn wsX0_at := goodIn_r _ [24, 25, 32, 33] (by decide +kernel) (by decide +kernel)
set_option maxRecDepth 20000 in
theorem gX2_numberIn_X0_at : GoodIn wsX2_numberIn (wsV RX2 58 RX0 yX0_at wsX0_at) := goodIn_app (goodIn_of _ (by decide +kernel)) ggX2_numberIn_X0_at
theorem dX2_numberIn_0 : decode cX2_numberIn 0 = .ok (.aload_n 0, 1) := by decide +kernel
theorem dX2_numberIn_1 : decode cX2_numberIn 1 = .ok (.iload_n 1, 1) := by decide +kernel
theorem dX2_numberIn_2 : decode cX2_numberIn 2 = .ok (.invokevirtual 85, 3) := by decide +kernel
theorem dX2_numberIn_5 : decode cX2_numberIn 5 = .ok (.astore_n 3, 1) := by decide +kernel
theorem dX2_numberIn_6 : decode cX2_numberIn 6 = .ok (.aload_n 0, 1) := by decide +kernel
theorem dX2_numberIn_7 : decode cX2_numberIn 7 = .ok (.iload_n 2, 1) := by decide +kernel
theorem dX2_numberIn_8 : decode cX2_numberIn 8 = .ok (.invokevirtual 52, 3) := by decide +kernel
theorem dX2_numberIn_11 : decode cX2_numberIn 11 = .ok (.aload_n 3, 1) := by decide +kernel
theorem dX2_numberIn_12 : decode cX2_numberIn 12 = .ok (.iload_n 2, 1) := by decide +kernel
theorem dX2_numberIn_13 : decode cX2_numberIn 13 = .ok (.invokevirtual 58, 3) := by decide +kernel
theorem dX2_numberIn_16 : decode cX2_numberIn 16 = .ok (.ireturn, 1) := by decide +kernel
set_option maxRecDepth 20000 in
theorem ggX2_differences_X2_keptRing : GoodIn wsX2_differences wsX2_keptRing := goodIn_ca (goodIn_r _ [6, 7, 8, 9, 10, 22, 23, 24, 25, 26, 27] (by decide +kernel) (by decide +kernel)) (goodIn_sub (fun _ h => List.mem_cons_of_mem _ (List.mem_append_right _ h)) (by decide +kernel))
set_option maxRecDepth 20000 in
theorem gX2_differences_X2_keptRing : GoodIn wsX2_differences (wsV RX2 85 RX2 yX2_keptRing wsX2_keptRing) := goodIn_app (goodIn_of _ (by decide +kernel)) ggX2_differences_X2_keptRing
set_option maxRecDepth 20000 in
theorem ggX2_differences_X0_differencesFrom : GoodIn wsX2_differences wsX0_differencesFrom := goodIn_r _ [15, 16, 17, 18, 19, 14, 20, 21, 28, 29] (by decide +kernel) (by decide +kernel)
set_option maxRecDepth 20000 in
theorem gX2_differences_X0_differencesFrom : GoodIn wsX2_differences (wsV RX2 127 RX0 yX0_differencesFrom wsX0_differencesFrom) := goodIn_app (goodIn_of _ (by decide +kernel)) ggX2_differences_X0_differencesFrom
theorem dX2_differences_0 : decode cX2_differences 0 = .ok (.aload_n 0, 1) := by decide +kernel
theorem dX2_differences_1 : decode cX2_differences 1 = .ok (.getfield 10, 3) := by decide +kernel
theorem dX2_differences_4 : decode cX2_differences 4 = .ok (.aload_n 0, 1) := by decide +kernel
theorem dX2_differences_5 : decode cX2_differences 5 = .ok (.iload_n 1, 1) := by decide +kernel
theorem dX2_differences_6 : decode cX2_differences 6 = .ok (.invokevirtual 85, 3) := by decide +kernel
theorem dX2_differences_9 : decode cX2_differences 9 = .ok (.invokevirtual 127, 3) := by decide +kernel
theorem dX2_differences_12 : decode cX2_differences 12 = .ok (.ireturn, 1) := by decide +kernel
set_option maxRecDepth 20000 in
theorem ggX2_canReach_X2_keptRing : GoodIn wsX2_canReach wsX2_keptRing := goodIn_ca (goodIn_r _ [6, 7, 8, 9, 10, 34, 35, 36, 37, 38, 39] (by decide +kernel) (by decide +kernel)) (goodIn_sub (fun _ h => List.mem_cons_of_mem _ (List.mem_append_right _ h)) (by decide +kernel))
set_option maxRecDepth 20000 in
theorem gX2_canReach_X2_keptRing : GoodIn wsX2_canReach (wsV RX2 85 RX2 yX2_keptRing wsX2_keptRing) := goodIn_app (goodIn_of _ (by decide +kernel)) ggX2_canReach_X2_keptRing
set_option maxRecDepth 20000 in
theorem ggX2_canReach_X0_canBecome : GoodIn wsX2_canReach wsX0_canBecome := goodIn_r _ [15, 16, 17, 18, 14, 19, 20, 21, 22, 23, 24, 25, 26, 27, 28, 29, 30, 31, 32, 33, 40, 41] (by decide +kernel) (by decide +kernel)
set_option maxRecDepth 20000 in
theorem gX2_canReach_X0_canBecome : GoodIn wsX2_canReach (wsV RX2 130 RX0 yX0_canBecome wsX0_canBecome) := goodIn_app (goodIn_of _ (by decide +kernel)) ggX2_canReach_X0_canBecome
theorem dX2_canReach_0 : decode cX2_canReach 0 = .ok (.aload_n 0, 1) := by decide +kernel
theorem dX2_canReach_1 : decode cX2_canReach 1 = .ok (.getfield 10, 3) := by decide +kernel
theorem dX2_canReach_4 : decode cX2_canReach 4 = .ok (.aload_n 0, 1) := by decide +kernel
theorem dX2_canReach_5 : decode cX2_canReach 5 = .ok (.iload_n 1, 1) := by decide +kernel
theorem dX2_canReach_6 : decode cX2_canReach 6 = .ok (.invokevirtual 85, 3) := by decide +kernel
theorem dX2_canReach_9 : decode cX2_canReach 9 = .ok (.invokevirtual 130, 3) := by decide +kernel
theorem dX2_canReach_12 : decode cX2_canReach 12 = .ok (.ireturn, 1) := by decide +kernel
set_option maxRecDepth 20000 in
theorem ggX2_reachable_X2_keptRing : GoodIn wsX2_reachable wsX2_keptRing := goodIn_ca (goodIn_r _ [7, 8, 9, 1, 10, 34, 35, 36, 37, 38, 39] (by decide +kernel) (by decide +kernel)) (goodIn_sub (fun _ h => List.mem_cons_of_mem _ (List.mem_append_right _ h)) (by decide +kernel))
set_option maxRecDepth 20000 in
theorem gX2_reachable_X2_keptRing : GoodIn wsX2_reachable (wsV RX2 85 RX2 yX2_keptRing wsX2_keptRing) := goodIn_app (goodIn_of _ (by decide +kernel)) ggX2_reachable_X2_keptRing
set_option maxRecDepth 20000 in
theorem ggX2_reachable_X0_canBecome : GoodIn wsX2_reachable wsX0_canBecome := goodIn_r _ [15, 16, 17, 18, 14, 19, 20, 21, 22, 23, 24, 25, 26, 27, 28, 29, 30, 31, 32, 33, 40, 41] (by decide +kernel) (by decide +kernel)
set_option maxRecDepth 20000 in
theorem gX2_reachable_X0_canBecome : GoodIn wsX2_reachable (wsV RX2 130 RX0 yX0_canBecome wsX0_canBecome) := goodIn_app (goodIn_of _ (by decide +kernel)) ggX2_reachable_X0_canBecome
theorem dX2_reachable_0 : decode cX2_reachable 0 = .ok (.iconst 0, 1) := by decide +kernel
theorem dX2_reachable_1 : decode cX2_reachable 1 = .ok (.istore_n 1, 1) := by decide +kernel
theorem dX2_reachable_2 : decode cX2_reachable 2 = .ok (.iconst 0, 1) := by decide +kernel
theorem dX2_reachable_3 : decode cX2_reachable 3 = .ok (.istore_n 2, 1) := by decide +kernel
theorem dX2_reachable_4 : decode cX2_reachable 4 = .ok (.iload_n 2, 1) := by decide +kernel
theorem dX2_reachable_5 : decode cX2_reachable 5 = .ok (.aload_n 0, 1) := by decide +kernel
theorem dX2_reachable_6 : decode cX2_reachable 6 = .ok (.getfield 20, 3) := by decide +kernel
theorem dX2_reachable_9 : decode cX2_reachable 9 = .ok (.if_icmp .ge 27, 3) := by decide +kernel
theorem dX2_reachable_12 : decode cX2_reachable 12 = .ok (.aload_n 0, 1) := by decide +kernel
theorem dX2_reachable_13 : decode cX2_reachable 13 = .ok (.getfield 10, 3) := by decide +kernel
theorem dX2_reachable_16 : decode cX2_reachable 16 = .ok (.aload_n 0, 1) := by decide +kernel
theorem dX2_reachable_17 : decode cX2_reachable 17 = .ok (.iload_n 2, 1) := by decide +kernel
theorem dX2_reachable_18 : decode cX2_reachable 18 = .ok (.invokevirtual 85, 3) := by decide +kernel
theorem dX2_reachable_21 : decode cX2_reachable 21 = .ok (.invokevirtual 130, 3) := by decide +kernel
theorem dX2_reachable_24 : decode cX2_reachable 24 = .ok (.ifCond .eq 6, 3) := by decide +kernel
theorem dX2_reachable_27 : decode cX2_reachable 27 = .ok (.iinc 1 1, 3) := by decide +kernel
theorem dX2_reachable_30 : decode cX2_reachable 30 = .ok (.iinc 2 1, 3) := by decide +kernel
theorem dX2_reachable_33 : decode cX2_reachable 33 = .ok (.goto (-29), 3) := by decide +kernel
theorem dX2_reachable_36 : decode cX2_reachable 36 = .ok (.iload_n 1, 1) := by decide +kernel
theorem dX2_reachable_37 : decode cX2_reachable 37 = .ok (.ireturn, 1) := by decide +kernel
set_option maxRecDepth 20000 in
theorem ggX2_tipsTo_X2_keptRing : GoodIn wsX2_tipsTo wsX2_keptRing := goodIn_ca (goodIn_r _ [7, 8, 9, 10, 11, 66, 67, 68, 69, 70, 71] (by decide +kernel) (by decide +kernel)) (goodIn_sub (fun _ h => List.mem_cons_of_mem _ (List.mem_append_left _ (List.mem_append_right _ h))) (by decide +kernel))
set_option maxRecDepth 20000 in
theorem gX2_tipsTo_X2_keptRing : GoodIn wsX2_tipsTo (wsV RX2 85 RX2 yX2_keptRing wsX2_keptRing) := goodIn_app (goodIn_of _ (by decide +kernel)) ggX2_tipsTo_X2_keptRing
set_option maxRecDepth 20000 in
theorem ggX2_tipsTo_X2_requirePlace : GoodIn wsX2_tipsTo wsX2_requirePlace := goodIn_ca (goodIn_r _ [15, 8, 9, 2, 16, 17, 18, 19, 20, 21, 66, 67, 68, 69, 70, 71, 72, 73] (by decide +kernel) (by decide +kernel)) (goodIn_sub (fun _ h => List.mem_cons_of_mem _ (List.mem_append_left _ (List.mem_append_right _ h))) (by decide +kernel))
set_option maxRecDepth 20000 in
theorem gX2_tipsTo_X2_requirePlace : GoodIn wsX2_tipsTo (wsV RX2 52 RX2 yX2_requirePlace wsX2_requirePlace) := goodIn_app (goodIn_of _ (by decide +kernel)) ggX2_tipsTo_X2_requirePlace
set_option maxRecDepth 20000 in
theorem ggX2_tipsTo_X2_requireWayTo : GoodIn wsX2_tipsTo wsX2_requireWayTo := goodIn_ca (goodIn_r _ [25, 26, 27, 2, 28, 29, 30, 19, 31, 32, 33, 34, 35, 21, 36, 37, 38, 39, 40, 41, 42, 43, 44, 45, 46, 47, 48, 66, 67, 68, 69, 70, 71, 72, 73] (by decide +kernel) (by decide +kernel)) (goodIn_sub (fun _ h => List.mem_cons_of_mem _ (List.mem_append_right _ h)) (by decide +kernel))
set_option maxRecDepth 20000 in
theorem gX2_tipsTo_X2_requireWayTo : GoodIn wsX2_tipsTo (wsV RX2 98 RX2 yX2_requireWayTo wsX2_requireWayTo) := goodIn_app (goodIn_of _ (by decide +kernel)) ggX2_tipsTo_X2_requireWayTo
set_option maxRecDepth 20000 in
theorem ggX2_tipsTo_X1_find : GoodIn wsX2_tipsTo wsX1_find := goodIn_r _ [53, 54, 55, 56, 17, 18, 19, 20, 21, 57, 58, 59, 52, 60, 61, 37, 38, 39, 40, 74, 75, 72, 73] (by decide +kernel) (by decide +kernel)
set_option maxRecDepth 20000 in
theorem gX2_tipsTo_X1_find : GoodIn wsX2_tipsTo (wsV RX2 134 RX1 yX1_find wsX1_find) := goodIn_app (goodIn_of _ (by decide +kernel)) ggX2_tipsTo_X1_find
set_option maxRecDepth 20000 in
theorem ggX2_tipsTo_X1_tipsAt : GoodIn wsX2_tipsTo wsX1_tipsAt := goodIn_r _ [65, 55, 74, 75] (by decide +kernel) (by decide +kernel)
set_option maxRecDepth 20000 in
theorem gX2_tipsTo_X1_tipsAt : GoodIn wsX2_tipsTo (wsV RX2 138 RX1 yX1_tipsAt wsX1_tipsAt) := goodIn_app (goodIn_of _ (by decide +kernel)) ggX2_tipsTo_X1_tipsAt
theorem dX2_tipsTo_0 : decode cX2_tipsTo 0 = .ok (.aload_n 0, 1) := by decide +kernel
theorem dX2_tipsTo_1 : decode cX2_tipsTo 1 = .ok (.iload_n 1, 1) := by decide +kernel
theorem dX2_tipsTo_2 : decode cX2_tipsTo 2 = .ok (.invokevirtual 85, 3) := by decide +kernel
theorem dX2_tipsTo_5 : decode cX2_tipsTo 5 = .ok (.astore_n 3, 1) := by decide +kernel
theorem dX2_tipsTo_6 : decode cX2_tipsTo 6 = .ok (.aload_n 0, 1) := by decide +kernel
theorem dX2_tipsTo_7 : decode cX2_tipsTo 7 = .ok (.iload_n 2, 1) := by decide +kernel
theorem dX2_tipsTo_8 : decode cX2_tipsTo 8 = .ok (.invokevirtual 52, 3) := by decide +kernel
theorem dX2_tipsTo_11 : decode cX2_tipsTo 11 = .ok (.aload_n 0, 1) := by decide +kernel
theorem dX2_tipsTo_12 : decode cX2_tipsTo 12 = .ok (.aload_n 3, 1) := by decide +kernel
theorem dX2_tipsTo_13 : decode cX2_tipsTo 13 = .ok (.invokevirtual 98, 3) := by decide +kernel
theorem dX2_tipsTo_16 : decode cX2_tipsTo 16 = .ok (.aload_n 0, 1) := by decide +kernel
theorem dX2_tipsTo_17 : decode cX2_tipsTo 17 = .ok (.getfield 33, 3) := by decide +kernel
theorem dX2_tipsTo_20 : decode cX2_tipsTo 20 = .ok (.aload_n 0, 1) := by decide +kernel
theorem dX2_tipsTo_21 : decode cX2_tipsTo 21 = .ok (.getfield 10, 3) := by decide +kernel
theorem dX2_tipsTo_24 : decode cX2_tipsTo 24 = .ok (.aload_n 3, 1) := by decide +kernel
theorem dX2_tipsTo_25 : decode cX2_tipsTo 25 = .ok (.invokevirtual 134, 3) := by decide +kernel
theorem dX2_tipsTo_28 : decode cX2_tipsTo 28 = .ok (.aload_n 0, 1) := by decide +kernel
theorem dX2_tipsTo_29 : decode cX2_tipsTo 29 = .ok (.getfield 33, 3) := by decide +kernel
theorem dX2_tipsTo_32 : decode cX2_tipsTo 32 = .ok (.iload_n 2, 1) := by decide +kernel
theorem dX2_tipsTo_33 : decode cX2_tipsTo 33 = .ok (.invokevirtual 138, 3) := by decide +kernel
theorem dX2_tipsTo_36 : decode cX2_tipsTo 36 = .ok (.ireturn, 1) := by decide +kernel
set_option maxRecDepth 20000 in
theorem ggX2_fewestTips_X2_keptRing : GoodIn wsX2_fewestTips wsX2_keptRing := goodIn_ca (goodIn_r _ [5, 6, 7, 8, 9, 74, 75, 76, 77, 78, 79] (by decide +kernel) (by decide +kernel)) (goodIn_sub (fun _ h => List.mem_cons_of_mem _ (List.mem_append_right _ h)) (by decide +kernel))
set_option maxRecDepth 20000 in
theorem gX2_fewestTips_X2_keptRing : GoodIn wsX2_fewestTips (wsV RX2 85 RX2 yX2_keptRing wsX2_keptRing) := goodIn_app (goodIn_of _ (by decide +kernel)) ggX2_fewestTips_X2_keptRing
set_option maxRecDepth 20000 in
theorem ggX2_fewestTips_X2_fewestTo : GoodIn wsX2_fewestTips wsX2_fewestTo := goodIn_r _ [13, 14, 15, 16, 17, 18, 19, 20, 21, 22, 23, 24, 25, 26, 27, 28, 29, 30, 31, 32, 33, 34, 35, 36, 37, 38, 39, 40, 41, 42, 43, 44, 45, 46, 47, 48, 49, 50, 51, 52, 53, 54, 55, 56, 57, 58, 59, 60, 61, 62, 63, 64, 65, 66, 67, 68, 69, 70, 71, 72, 73, 74, 75, 76, 77, 78, 79, 80, 81, 82, 83] (by decide +kernel) (by decide +kernel)
set_option maxRecDepth 20000 in
theorem gX2_fewestTips_X2_fewestTo : GoodIn wsX2_fewestTips (wsV RX2 101 RX2 yX2_fewestTo wsX2_fewestTo) := goodIn_app (goodIn_of _ (by decide +kernel)) ggX2_fewestTips_X2_fewestTo
theorem dX2_fewestTips_0 : decode cX2_fewestTips 0 = .ok (.aload_n 0, 1) := by decide +kernel
theorem dX2_fewestTips_1 : decode cX2_fewestTips 1 = .ok (.aload_n 0, 1) := by decide +kernel
theorem dX2_fewestTips_2 : decode cX2_fewestTips 2 = .ok (.iload_n 1, 1) := by decide +kernel
theorem dX2_fewestTips_3 : decode cX2_fewestTips 3 = .ok (.invokevirtual 85, 3) := by decide +kernel
theorem dX2_fewestTips_6 : decode cX2_fewestTips 6 = .ok (.invokevirtual 101, 3) := by decide +kernel
theorem dX2_fewestTips_9 : decode cX2_fewestTips 9 = .ok (.ireturn, 1) := by decide +kernel
set_option maxRecDepth 20000 in
theorem ggX2_nearestTarget_X2_keptRing : GoodIn wsX2_nearestTarget wsX2_keptRing := goodIn_ca (goodIn_r _ [6, 7, 8, 1, 9, 74, 75, 76, 77, 78, 79] (by decide +kernel) (by decide +kernel)) (goodIn_sub (fun _ h => List.mem_cons_of_mem _ (List.mem_append_right _ h)) (by decide +kernel))
set_option maxRecDepth 20000 in
theorem gX2_nearestTarget_X2_keptRing : GoodIn wsX2_nearestTarget (wsV RX2 85 RX2 yX2_keptRing wsX2_keptRing) := goodIn_app (goodIn_of _ (by decide +kernel)) ggX2_nearestTarget_X2_keptRing
set_option maxRecDepth 20000 in
theorem ggX2_nearestTarget_X2_fewestTo : GoodIn wsX2_nearestTarget wsX2_fewestTo := goodIn_r _ [13, 14, 15, 16, 17, 18, 19, 20, 21, 22, 23, 24, 25, 26, 27, 28, 29, 30, 31, 32, 33, 34, 35, 36, 37, 38, 39, 40, 41, 42, 43, 44, 45, 46, 47, 48, 49, 50, 51, 52, 53, 54, 55, 56, 57, 58, 59, 60, 61, 62, 63, 64, 65, 66, 67, 68, 69, 70, 71, 72, 73, 74, 75, 76, 77, 78, 79, 80, 81, 82, 83] (by decide +kernel) (by decide +kernel)
set_option maxRecDepth 20000 in
theorem gX2_nearestTarget_X2_fewestTo : GoodIn wsX2_nearestTarget (wsV RX2 101 RX2 yX2_fewestTo wsX2_fewestTo) := goodIn_app (goodIn_of _ (by decide +kernel)) ggX2_nearestTarget_X2_fewestTo
theorem dX2_nearestTarget_0 : decode cX2_nearestTarget 0 = .ok (.iconst (-1), 1) := by decide +kernel
theorem dX2_nearestTarget_1 : decode cX2_nearestTarget 1 = .ok (.istore_n 1, 1) := by decide +kernel
theorem dX2_nearestTarget_2 : decode cX2_nearestTarget 2 = .ok (.iconst (-1), 1) := by decide +kernel
theorem dX2_nearestTarget_3 : decode cX2_nearestTarget 3 = .ok (.istore_n 2, 1) := by decide +kernel
theorem dX2_nearestTarget_4 : decode cX2_nearestTarget 4 = .ok (.iconst 0, 1) := by decide +kernel
theorem dX2_nearestTarget_5 : decode cX2_nearestTarget 5 = .ok (.istore_n 3, 1) := by decide +kernel
theorem dX2_nearestTarget_6 : decode cX2_nearestTarget 6 = .ok (.iload_n 3, 1) := by decide +kernel
theorem dX2_nearestTarget_7 : decode cX2_nearestTarget 7 = .ok (.aload_n 0, 1) := by decide +kernel
theorem dX2_nearestTarget_8 : decode cX2_nearestTarget 8 = .ok (.getfield 20, 3) := by decide +kernel
theorem dX2_nearestTarget_11 : decode cX2_nearestTarget 11 = .ok (.if_icmp .ge 40, 3) := by decide +kernel
theorem dX2_nearestTarget_14 : decode cX2_nearestTarget 14 = .ok (.aload_n 0, 1) := by decide +kernel
theorem dX2_nearestTarget_15 : decode cX2_nearestTarget 15 = .ok (.aload_n 0, 1) := by decide +kernel
theorem dX2_nearestTarget_16 : decode cX2_nearestTarget 16 = .ok (.iload_n 3, 1) := by decide +kernel
theorem dX2_nearestTarget_17 : decode cX2_nearestTarget 17 = .ok (.invokevirtual 85, 3) := by decide +kernel
theorem dX2_nearestTarget_20 : decode cX2_nearestTarget 20 = .ok (.invokevirtual 101, 3) := by decide +kernel
theorem dX2_nearestTarget_23 : decode cX2_nearestTarget 23 = .ok (.istore 4, 2) := by decide +kernel
theorem dX2_nearestTarget_25 : decode cX2_nearestTarget 25 = .ok (.iload 4, 2) := by decide +kernel
theorem dX2_nearestTarget_27 : decode cX2_nearestTarget 27 = .ok (.ifCond .lt 18, 3) := by decide +kernel
theorem dX2_nearestTarget_30 : decode cX2_nearestTarget 30 = .ok (.iload_n 1, 1) := by decide +kernel
theorem dX2_nearestTarget_31 : decode cX2_nearestTarget 31 = .ok (.ifCond .lt 9, 3) := by decide +kernel
theorem dX2_nearestTarget_34 : decode cX2_nearestTarget 34 = .ok (.iload 4, 2) := by decide +kernel
theorem dX2_nearestTarget_36 : decode cX2_nearestTarget 36 = .ok (.iload_n 2, 1) := by decide +kernel
theorem dX2_nearestTarget_37 : decode cX2_nearestTarget 37 = .ok (.if_icmp .ge 8, 3) := by decide +kernel
theorem dX2_nearestTarget_40 : decode cX2_nearestTarget 40 = .ok (.iload_n 3, 1) := by decide +kernel
theorem dX2_nearestTarget_41 : decode cX2_nearestTarget 41 = .ok (.istore_n 1, 1) := by decide +kernel
theorem dX2_nearestTarget_42 : decode cX2_nearestTarget 42 = .ok (.iload 4, 2) := by decide +kernel
theorem dX2_nearestTarget_44 : decode cX2_nearestTarget 44 = .ok (.istore_n 2, 1) := by decide +kernel
theorem dX2_nearestTarget_45 : decode cX2_nearestTarget 45 = .ok (.iinc 3 1, 3) := by decide +kernel
theorem dX2_nearestTarget_48 : decode cX2_nearestTarget 48 = .ok (.goto (-42), 3) := by decide +kernel
theorem dX2_nearestTarget_51 : decode cX2_nearestTarget 51 = .ok (.iload_n 1, 1) := by decide +kernel
theorem dX2_nearestTarget_52 : decode cX2_nearestTarget 52 = .ok (.ireturn, 1) := by decide +kernel
set_option maxRecDepth 20000 in
theorem ggX2_stepsToRest_X2_tryToRest : GoodIn wsX2_stepsToRest wsX2_tryToRest := goodIn_r _ [5, 6, 7, 8, 9, 10, 11, 12, 13, 14, 15, 16, 17, 18, 19, 20, 21, 22, 23, 24, 25, 26, 27, 28, 29, 30, 31, 32, 33, 34, 35, 36, 37, 38, 39, 40, 41, 42, 43, 44, 45, 46, 47, 48, 49, 50, 51, 52, 53, 54, 55] (by decide +kernel) (by decide +kernel)
set_option maxRecDepth 20000 in
theorem gX2_stepsToRest_X2_tryToRest : GoodIn wsX2_stepsToRest (wsV RX2 141 RX2 yX2_tryToRest wsX2_tryToRest) := goodIn_app (goodIn_of _ (by decide +kernel)) ggX2_stepsToRest_X2_tryToRest
theorem dX2_stepsToRest_0 : decode cX2_stepsToRest 0 = .ok (.aload_n 0, 1) := by decide +kernel
theorem dX2_stepsToRest_1 : decode cX2_stepsToRest 1 = .ok (.invokevirtual 141, 3) := by decide +kernel
theorem dX2_stepsToRest_4 : decode cX2_stepsToRest 4 = .ok (.ireturn, 1) := by decide +kernel
set_option maxRecDepth 20000 in
theorem ggX2_spreadAtRest_X2_tryToRest : GoodIn wsX2_spreadAtRest wsX2_tryToRest := goodIn_r _ [6, 1, 7, 8, 9, 10, 11, 12, 13, 14, 15, 16, 17, 18, 19, 20, 21, 22, 23, 24, 25, 26, 27, 28, 29, 30, 31, 32, 33, 34, 35, 36, 37, 38, 39, 40, 41, 42, 43, 44, 45, 46, 47, 60, 61, 62, 63, 64, 65, 66, 67] (by decide +kernel) (by decide +kernel)
set_option maxRecDepth 20000 in
theorem gX2_spreadAtRest_X2_tryToRest : GoodIn wsX2_spreadAtRest (wsV RX2 141 RX2 yX2_tryToRest wsX2_tryToRest) := goodIn_app (goodIn_of _ (by decide +kernel)) ggX2_spreadAtRest_X2_tryToRest
set_option maxRecDepth 20000 in
theorem ggX2_spreadAtRest_X0_span : GoodIn wsX2_spreadAtRest wsX0_span := goodIn_r _ [51, 13, 52, 53, 54, 55, 15, 16, 17, 11, 18, 14, 56, 57, 58, 59, 66, 67] (by decide +kernel) (by decide +kernel)
set_option maxRecDepth 20000 in
theorem gX2_spreadAtRest_X0_span : GoodIn wsX2_spreadAtRest (wsV RX2 111 RX0 yX0_span wsX0_span) := goodIn_app (goodIn_of _ (by decide +kernel)) ggX2_spreadAtRest_X0_span
theorem dX2_spreadAtRest_0 : decode cX2_spreadAtRest 0 = .ok (.aload_n 0, 1) := by decide +kernel
theorem dX2_spreadAtRest_1 : decode cX2_spreadAtRest 1 = .ok (.invokevirtual 141, 3) := by decide +kernel
theorem dX2_spreadAtRest_4 : decode cX2_spreadAtRest 4 = .ok (.ifCond .ge 7, 3) := by decide +kernel
theorem dX2_spreadAtRest_7 : decode cX2_spreadAtRest 7 = .ok (.iconst (-1), 1) := by decide +kernel
theorem dX2_spreadAtRest_8 : decode cX2_spreadAtRest 8 = .ok (.goto 10, 3) := by decide +kernel
theorem dX2_spreadAtRest_11 : decode cX2_spreadAtRest 11 = .ok (.aload_n 0, 1) := by decide +kernel
theorem dX2_spreadAtRest_12 : decode cX2_spreadAtRest 12 = .ok (.getfield 27, 3) := by decide +kernel
theorem dX2_spreadAtRest_15 : decode cX2_spreadAtRest 15 = .ok (.invokevirtual 111, 3) := by decide +kernel
theorem dX2_spreadAtRest_18 : decode cX2_spreadAtRest 18 = .ok (.ireturn, 1) := by decide +kernel
set_option maxRecDepth 20000 in
theorem ggX2_spreadWith_X2_requirePlace : GoodIn wsX2_spreadWith wsX2_requirePlace := goodIn_ca (goodIn_r _ [5, 6, 7, 8, 9, 10, 11, 12, 13, 14, 63, 64, 65, 66, 67, 68, 69, 70] (by decide +kernel) (by decide +kernel)) (goodIn_sub (fun _ h => List.mem_cons_of_mem _ (List.mem_append_left _ (List.mem_append_right _ h))) (by decide +kernel))
set_option maxRecDepth 20000 in
theorem gX2_spreadWith_X2_requirePlace : GoodIn wsX2_spreadWith (wsV RX2 52 RX2 yX2_requirePlace wsX2_requirePlace) := goodIn_app (goodIn_of _ (by decide +kernel)) ggX2_spreadWith_X2_requirePlace
set_option maxRecDepth 20000 in
theorem ggX2_spreadWith_X2_requireTimes : GoodIn wsX2_spreadWith wsX2_requireTimes := goodIn_ca (goodIn_r _ [18, 19, 20] (by decide +kernel) (by decide +kernel)) (goodIn_sub (fun _ h => List.mem_cons_of_mem _ (List.mem_append_right _ h)) (by decide +kernel))
set_option maxRecDepth 20000 in
theorem gX2_spreadWith_X2_requireTimes : GoodIn wsX2_spreadWith (wsV RX2 66 RX2 yX2_requireTimes wsX2_requireTimes) := goodIn_app (goodIn_of _ (by decide +kernel)) ggX2_spreadWith_X2_requireTimes
set_option maxRecDepth 20000 in
theorem ggX2_spreadWith_X2_spanAfter : GoodIn wsX2_spreadWith wsX2_spanAfter := goodIn_r _ [24, 25, 8, 26, 27, 28, 12, 29, 14, 30, 31, 32, 33, 34, 35, 36, 37, 38, 39, 40, 41, 42, 43, 44, 45, 46, 47, 48, 49, 50, 51, 52, 53, 54, 55, 56, 57, 58, 59, 60, 61, 62, 63, 64, 65, 66, 67, 68, 69, 70] (by decide +kernel) (by decide +kernel)
set_option maxRecDepth 20000 in
theorem gX2_spreadWith_X2_spanAfter : GoodIn wsX2_spreadWith (wsV RX2 144 RX2 yX2_spanAfter wsX2_spanAfter) := goodIn_app (goodIn_of _ (by decide +kernel)) ggX2_spreadWith_X2_spanAfter
theorem dX2_spreadWith_0 : decode cX2_spreadWith 0 = .ok (.aload_n 0, 1) := by decide +kernel
theorem dX2_spreadWith_1 : decode cX2_spreadWith 1 = .ok (.iload_n 1, 1) := by decide +kernel
theorem dX2_spreadWith_2 : decode cX2_spreadWith 2 = .ok (.invokevirtual 52, 3) := by decide +kernel
theorem dX2_spreadWith_5 : decode cX2_spreadWith 5 = .ok (.aload_n 0, 1) := by decide +kernel
theorem dX2_spreadWith_6 : decode cX2_spreadWith 6 = .ok (.iload_n 2, 1) := by decide +kernel
theorem dX2_spreadWith_7 : decode cX2_spreadWith 7 = .ok (.invokevirtual 66, 3) := by decide +kernel
theorem dX2_spreadWith_10 : decode cX2_spreadWith 10 = .ok (.aload_n 0, 1) := by decide +kernel
theorem dX2_spreadWith_11 : decode cX2_spreadWith 11 = .ok (.iload_n 1, 1) := by decide +kernel
theorem dX2_spreadWith_12 : decode cX2_spreadWith 12 = .ok (.iload_n 2, 1) := by decide +kernel
theorem dX2_spreadWith_13 : decode cX2_spreadWith 13 = .ok (.invokevirtual 144, 3) := by decide +kernel
theorem dX2_spreadWith_16 : decode cX2_spreadWith 16 = .ok (.ireturn, 1) := by decide +kernel
set_option maxRecDepth 20000 in
theorem ggX2_bestPlace_X0_span : GoodIn wsX2_bestPlace wsX0_span := goodIn_r _ [10, 11, 12, 3, 4, 5, 13, 14, 15, 9, 16, 17, 18, 19, 20, 21, 58, 59] (by decide +kernel) (by decide +kernel)
set_option maxRecDepth 20000 in
theorem gX2_bestPlace_X0_span : GoodIn wsX2_bestPlace (wsV RX2 111 RX0 yX0_span wsX0_span) := goodIn_app (goodIn_of _ (by decide +kernel)) ggX2_bestPlace_X0_span
set_option maxRecDepth 20000 in
theorem ggX2_bestPlace_X0_size : GoodIn wsX2_bestPlace wsX0_size := goodIn_r _ [25, 11, 58, 59] (by decide +kernel) (by decide +kernel)
set_option maxRecDepth 20000 in
theorem gX2_bestPlace_X0_size : GoodIn wsX2_bestPlace (wsV RX2 44 RX0 yX0_size wsX0_size) := goodIn_app (goodIn_of _ (by decide +kernel)) ggX2_bestPlace_X0_size
set_option maxRecDepth 20000 in
theorem ggX2_bestPlace_X2_spanAfter : GoodIn wsX2_bestPlace wsX2_spanAfter := goodIn_r _ [30, 31, 1, 32, 33, 34, 9, 35, 11, 17, 13, 14, 15, 16, 36, 37, 38, 39, 40, 41, 42, 43, 44, 45, 46, 47, 48, 49, 50, 51, 6, 7, 8, 10, 12, 3, 4, 5, 18, 19, 20, 21, 52, 53, 54, 55, 56, 57, 58, 59] (by decide +kernel) (by decide +kernel)
set_option maxRecDepth 20000 in
theorem gX2_bestPlace_X2_spanAfter : GoodIn wsX2_bestPlace (wsV RX2 144 RX2 yX2_spanAfter wsX2_spanAfter) := goodIn_app (goodIn_of _ (by decide +kernel)) ggX2_bestPlace_X2_spanAfter
theorem dX2_bestPlace_0 : decode cX2_bestPlace 0 = .ok (.iconst (-1), 1) := by decide +kernel
theorem dX2_bestPlace_1 : decode cX2_bestPlace 1 = .ok (.istore_n 1, 1) := by decide +kernel
theorem dX2_bestPlace_2 : decode cX2_bestPlace 2 = .ok (.aload_n 0, 1) := by decide +kernel
theorem dX2_bestPlace_3 : decode cX2_bestPlace 3 = .ok (.getfield 10, 3) := by decide +kernel
theorem dX2_bestPlace_6 : decode cX2_bestPlace 6 = .ok (.invokevirtual 111, 3) := by decide +kernel
theorem dX2_bestPlace_9 : decode cX2_bestPlace 9 = .ok (.istore_n 2, 1) := by decide +kernel
theorem dX2_bestPlace_10 : decode cX2_bestPlace 10 = .ok (.iconst 0, 1) := by decide +kernel
theorem dX2_bestPlace_11 : decode cX2_bestPlace 11 = .ok (.istore_n 3, 1) := by decide +kernel
theorem dX2_bestPlace_12 : decode cX2_bestPlace 12 = .ok (.iload_n 3, 1) := by decide +kernel
theorem dX2_bestPlace_13 : decode cX2_bestPlace 13 = .ok (.aload_n 0, 1) := by decide +kernel
theorem dX2_bestPlace_14 : decode cX2_bestPlace 14 = .ok (.getfield 10, 3) := by decide +kernel
theorem dX2_bestPlace_17 : decode cX2_bestPlace 17 = .ok (.invokevirtual 44, 3) := by decide +kernel
theorem dX2_bestPlace_20 : decode cX2_bestPlace 20 = .ok (.if_icmp .ge 37, 3) := by decide +kernel
theorem dX2_bestPlace_23 : decode cX2_bestPlace 23 = .ok (.aload_n 0, 1) := by decide +kernel
theorem dX2_bestPlace_24 : decode cX2_bestPlace 24 = .ok (.iload_n 3, 1) := by decide +kernel
theorem dX2_bestPlace_25 : decode cX2_bestPlace 25 = .ok (.iconst 1, 1) := by decide +kernel
theorem dX2_bestPlace_26 : decode cX2_bestPlace 26 = .ok (.invokevirtual 144, 3) := by decide +kernel
theorem dX2_bestPlace_29 : decode cX2_bestPlace 29 = .ok (.aload_n 0, 1) := by decide +kernel
theorem dX2_bestPlace_30 : decode cX2_bestPlace 30 = .ok (.iload_n 3, 1) := by decide +kernel
theorem dX2_bestPlace_31 : decode cX2_bestPlace 31 = .ok (.iconst (-1), 1) := by decide +kernel
theorem dX2_bestPlace_32 : decode cX2_bestPlace 32 = .ok (.invokevirtual 144, 3) := by decide +kernel
theorem dX2_bestPlace_35 : decode cX2_bestPlace 35 = .ok (.invokestatic 148, 3) := by decide +kernel
theorem dX2_bestPlace_38 : decode cX2_bestPlace 38 = .ok (.istore 4, 2) := by decide +kernel
theorem dX2_bestPlace_40 : decode cX2_bestPlace 40 = .ok (.iload 4, 2) := by decide +kernel
theorem dX2_bestPlace_42 : decode cX2_bestPlace 42 = .ok (.iload_n 2, 1) := by decide +kernel
theorem dX2_bestPlace_43 : decode cX2_bestPlace 43 = .ok (.if_icmp .ge 8, 3) := by decide +kernel
theorem dX2_bestPlace_46 : decode cX2_bestPlace 46 = .ok (.iload_n 3, 1) := by decide +kernel
theorem dX2_bestPlace_47 : decode cX2_bestPlace 47 = .ok (.istore_n 1, 1) := by decide +kernel
theorem dX2_bestPlace_48 : decode cX2_bestPlace 48 = .ok (.iload 4, 2) := by decide +kernel
theorem dX2_bestPlace_50 : decode cX2_bestPlace 50 = .ok (.istore_n 2, 1) := by decide +kernel
theorem dX2_bestPlace_51 : decode cX2_bestPlace 51 = .ok (.iinc 3 1, 3) := by decide +kernel
theorem dX2_bestPlace_54 : decode cX2_bestPlace 54 = .ok (.goto (-42), 3) := by decide +kernel
theorem dX2_bestPlace_57 : decode cX2_bestPlace 57 = .ok (.iload_n 1, 1) := by decide +kernel
theorem dX2_bestPlace_58 : decode cX2_bestPlace 58 = .ok (.ireturn, 1) := by decide +kernel
set_option maxRecDepth 20000 in
theorem ggX2_placeFor_X2_requireNumber : GoodIn wsX2_placeFor wsX2_requireNumber := goodIn_ca (goodIn_r _ [6, 7, 8] (by decide +kernel) (by decide +kernel)) (goodIn_sub (fun _ h => List.mem_cons_of_mem _ (List.mem_append_left _ (List.mem_append_right _ h))) (by decide +kernel))
set_option maxRecDepth 20000 in
theorem gX2_placeFor_X2_requireNumber : GoodIn wsX2_placeFor (wsV RX2 55 RX2 yX2_requireNumber wsX2_requireNumber) := goodIn_app (goodIn_of _ (by decide +kernel)) ggX2_placeFor_X2_requireNumber
set_option maxRecDepth 20000 in
theorem ggX2_placeFor_X2_keptRing : GoodIn wsX2_placeFor wsX2_keptRing := goodIn_ca (goodIn_r _ [12, 13, 14, 1, 15, 58, 59, 60, 61, 62, 63] (by decide +kernel) (by decide +kernel)) (goodIn_sub (fun _ h => List.mem_cons_of_mem _ (List.mem_append_right _ h)) (by decide +kernel))
set_option maxRecDepth 20000 in
theorem gX2_placeFor_X2_keptRing : GoodIn wsX2_placeFor (wsV RX2 85 RX2 yX2_keptRing wsX2_keptRing) := goodIn_app (goodIn_of _ (by decide +kernel)) ggX2_placeFor_X2_keptRing
set_option maxRecDepth 20000 in
theorem ggX2_placeFor_X2_firstPlaceFor : GoodIn wsX2_placeFor wsX2_firstPlaceFor := goodIn_r _ [19, 20, 21, 22, 23, 24, 25, 26, 27, 28, 29, 30, 31, 32, 33, 34, 35, 36, 37, 38, 39, 40, 41, 42, 43, 44, 45, 46, 47, 48, 49, 50, 51, 52, 53, 54, 55, 56, 57, 58, 59, 60, 61, 62, 63, 64, 65] (by decide +kernel) (by decide +kernel)
set_option maxRecDepth 20000 in
theorem gX2_placeFor_X2_firstPlaceFor : GoodIn wsX2_placeFor (wsV RX2 151 RX2 yX2_firstPlaceFor wsX2_firstPlaceFor) := goodIn_app (goodIn_of _ (by decide +kernel)) ggX2_placeFor_X2_firstPlaceFor
theorem dX2_placeFor_0 : decode cX2_placeFor 0 = .ok (.aload_n 0, 1) := by decide +kernel
theorem dX2_placeFor_1 : decode cX2_placeFor 1 = .ok (.iload_n 1, 1) := by decide +kernel
theorem dX2_placeFor_2 : decode cX2_placeFor 2 = .ok (.invokevirtual 55, 3) := by decide +kernel
theorem dX2_placeFor_5 : decode cX2_placeFor 5 = .ok (.aload_n 0, 1) := by decide +kernel
theorem dX2_placeFor_6 : decode cX2_placeFor 6 = .ok (.getfield 20, 3) := by decide +kernel
theorem dX2_placeFor_9 : decode cX2_placeFor 9 = .ok (.ifCond .ne 7, 3) := by decide +kernel
theorem dX2_placeFor_12 : decode cX2_placeFor 12 = .ok (.iconst (-1), 1) := by decide +kernel
theorem dX2_placeFor_13 : decode cX2_placeFor 13 = .ok (.goto 13, 3) := by decide +kernel
theorem dX2_placeFor_16 : decode cX2_placeFor 16 = .ok (.aload_n 0, 1) := by decide +kernel
theorem dX2_placeFor_17 : decode cX2_placeFor 17 = .ok (.iload_n 1, 1) := by decide +kernel
theorem dX2_placeFor_18 : decode cX2_placeFor 18 = .ok (.aload_n 0, 1) := by decide +kernel
theorem dX2_placeFor_19 : decode cX2_placeFor 19 = .ok (.iconst 0, 1) := by decide +kernel
theorem dX2_placeFor_20 : decode cX2_placeFor 20 = .ok (.invokevirtual 85, 3) := by decide +kernel
theorem dX2_placeFor_23 : decode cX2_placeFor 23 = .ok (.invokevirtual 151, 3) := by decide +kernel
theorem dX2_placeFor_26 : decode cX2_placeFor 26 = .ok (.ireturn, 1) := by decide +kernel
set_option maxRecDepth 20000 in
theorem ggX2_meanNumber_X0_size : GoodIn wsX2_meanNumber wsX0_size := goodIn_r _ [6, 7, 23, 24] (by decide +kernel) (by decide +kernel)
set_option maxRecDepth 20000 in
theorem gX2_meanNumber_X0_size : GoodIn wsX2_meanNumber (wsV RX2 44 RX0 yX0_size wsX0_size) := goodIn_app (goodIn_of _ (by decide +kernel)) ggX2_meanNumber_X0_size
set_option maxRecDepth 20000 in
theorem ggX2_meanNumber_X0_total : GoodIn wsX2_meanNumber wsX0_total := goodIn_r _ [11, 7, 12, 13, 14, 5, 15, 16, 23, 24] (by decide +kernel) (by decide +kernel)
set_option maxRecDepth 20000 in
theorem gX2_meanNumber_X0_total : GoodIn wsX2_meanNumber (wsV RX2 105 RX0 yX0_total wsX0_total) := goodIn_app (goodIn_of _ (by decide +kernel)) ggX2_meanNumber_X0_total
theorem dX2_meanNumber_0 : decode cX2_meanNumber 0 = .ok (.aload_n 0, 1) := by decide +kernel
theorem dX2_meanNumber_1 : decode cX2_meanNumber 1 = .ok (.getfield 10, 3) := by decide +kernel
theorem dX2_meanNumber_4 : decode cX2_meanNumber 4 = .ok (.invokevirtual 44, 3) := by decide +kernel
theorem dX2_meanNumber_7 : decode cX2_meanNumber 7 = .ok (.istore_n 1, 1) := by decide +kernel
theorem dX2_meanNumber_8 : decode cX2_meanNumber 8 = .ok (.iload_n 1, 1) := by decide +kernel
theorem dX2_meanNumber_9 : decode cX2_meanNumber 9 = .ok (.ifCond .le 17, 3) := by decide +kernel
theorem dX2_meanNumber_12 : decode cX2_meanNumber 12 = .ok (.aload_n 0, 1) := by decide +kernel
theorem dX2_meanNumber_13 : decode cX2_meanNumber 13 = .ok (.getfield 10, 3) := by decide +kernel
theorem dX2_meanNumber_16 : decode cX2_meanNumber 16 = .ok (.invokevirtual 105, 3) := by decide +kernel
theorem dX2_meanNumber_19 : decode cX2_meanNumber 19 = .ok (.i2d, 1) := by decide +kernel
theorem dX2_meanNumber_20 : decode cX2_meanNumber 20 = .ok (.iload_n 1, 1) := by decide +kernel
theorem dX2_meanNumber_21 : decode cX2_meanNumber 21 = .ok (.i2d, 1) := by decide +kernel
theorem dX2_meanNumber_22 : decode cX2_meanNumber 22 = .ok (.ddiv, 1) := by decide +kernel
theorem dX2_meanNumber_23 : decode cX2_meanNumber 23 = .ok (.goto 4, 3) := by decide +kernel
theorem dX2_meanNumber_26 : decode cX2_meanNumber 26 = .ok (.dconst 0, 1) := by decide +kernel
theorem dX2_meanNumber_27 : decode cX2_meanNumber 27 = .ok (.dreturn, 1) := by decide +kernel
set_option maxRecDepth 20000 in
theorem ggX2_digest_X2_places : GoodIn wsX2_digest wsX2_places := goodIn_r _ [6, 7, 8, 9, 10, 11, 12, 13, 235, 236, 237, 238, 239, 240, 241, 242] (by decide +kernel) (by decide +kernel)
set_option maxRecDepth 20000 in
theorem gX2_digest_X2_places : GoodIn wsX2_digest (wsV RX2 157 RX2 yX2_places wsX2_places) := goodIn_app (goodIn_of _ (by decide +kernel)) ggX2_digest_X2_places
set_option maxRecDepth 20000 in
theorem ggX2_digest_X2_mixed : GoodIn wsX2_digest wsX2_mixed := goodIn_r _ [16, 17] (by decide +kernel) (by decide +kernel)
set_option maxRecDepth 20000 in
theorem gX2_digest_X2_mixed : GoodIn wsX2_digest (va_wsS RX2 160 yX2_mixed wsX2_mixed) := goodIn_app (goodIn_of _ (by decide +kernel)) ggX2_digest_X2_mixed
set_option maxRecDepth 20000 in
theorem ggX2_digest_X2_targets : GoodIn wsX2_digest wsX2_targets := goodIn_r _ [21, 22, 235, 236, 237, 238, 239, 240] (by decide +kernel) (by decide +kernel)
set_option maxRecDepth 20000 in
theorem gX2_digest_X2_targets : GoodIn wsX2_digest (wsV RX2 164 RX2 yX2_targets wsX2_targets) := goodIn_app (goodIn_of _ (by decide +kernel)) ggX2_digest_X2_targets
set_option maxRecDepth 20000 in
theorem ggX2_digest_X2_tips : GoodIn wsX2_digest wsX2_tips := goodIn_r _ [26, 27, 235, 236, 237, 238, 239, 240] (by decide +kernel) (by decide +kernel)
set_option maxRecDepth 20000 in
theorem gX2_digest_X2_tips : GoodIn wsX2_digest (wsV RX2 167 RX2 yX2_tips wsX2_tips) := goodIn_app (goodIn_of _ (by decide +kernel)) ggX2_digest_X2_tips
set_option maxRecDepth 20000 in
theorem ggX2_digest_X2_sum : GoodIn wsX2_digest wsX2_sum := goodIn_r _ [31, 7, 32, 33, 34, 11, 35, 13, 36, 37, 38, 39, 40, 235, 236, 237, 238, 239, 240, 241, 242] (by decide +kernel) (by decide +kernel)
set_option maxRecDepth 20000 in
theorem gX2_digest_X2_sum : GoodIn wsX2_digest (wsV RX2 170 RX2 yX2_sum wsX2_sum) := goodIn_app (goodIn_of _ (by decide +kernel)) ggX2_digest_X2_sum
set_option maxRecDepth 20000 in
theorem ggX2_digest_X2_moment : GoodIn wsX2_digest wsX2_moment := goodIn_r _ [44, 7, 45, 46, 47, 11, 48, 13, 36, 37, 38, 39, 40, 49, 50, 51, 52, 235, 236, 237, 238, 239, 240, 241, 242] (by decide +kernel) (by decide +kernel)
set_option maxRecDepth 20000 in
theorem gX2_digest_X2_moment : GoodIn wsX2_digest (wsV RX2 173 RX2 yX2_moment wsX2_moment) := goodIn_app (goodIn_of _ (by decide +kernel)) ggX2_digest_X2_moment
set_option maxRecDepth 20000 in
theorem ggX2_digest_X2_spread : GoodIn wsX2_digest wsX2_spread := goodIn_r _ [56, 7, 57, 58, 59, 11, 60, 13, 61, 62, 63, 64, 36, 37, 38, 39, 40, 65, 66, 67, 68, 235, 236, 237, 238, 239, 240, 241, 242] (by decide +kernel) (by decide +kernel)
set_option maxRecDepth 20000 in
theorem gX2_digest_X2_spread : GoodIn wsX2_digest (wsV RX2 176 RX2 yX2_spread wsX2_spread) := goodIn_app (goodIn_of _ (by decide +kernel)) ggX2_digest_X2_spread
set_option maxRecDepth 20000 in
theorem ggX2_digest_X2_highest : GoodIn wsX2_digest wsX2_highest := goodIn_r _ [72, 7, 73, 66, 67, 11, 68, 13, 36, 37, 38, 39, 40, 235, 236, 237, 238, 239, 240, 241, 242] (by decide +kernel) (by decide +kernel)
set_option maxRecDepth 20000 in
theorem gX2_digest_X2_highest : GoodIn wsX2_digest (wsV RX2 179 RX2 yX2_highest wsX2_highest) := goodIn_app (goodIn_of _ (by decide +kernel)) ggX2_digest_X2_highest
set_option maxRecDepth 20000 in
theorem ggX2_digest_X2_steepPlaces : GoodIn wsX2_digest wsX2_steepPlaces := goodIn_r _ [77, 7, 8, 9, 10, 11, 12, 13, 78, 79, 80, 81, 36, 37, 38, 39, 40, 82, 83, 84, 85, 235, 236, 237, 238, 239, 240, 241, 242] (by decide +kernel) (by decide +kernel)
set_option maxRecDepth 20000 in
theorem gX2_digest_X2_steepPlaces : GoodIn wsX2_digest (wsV RX2 182 RX2 yX2_steepPlaces wsX2_steepPlaces) := goodIn_app (goodIn_of _ (by decide +kernel)) ggX2_digest_X2_steepPlaces
set_option maxRecDepth 20000 in
theorem ggX2_digest_X2_nextToTip : GoodIn wsX2_digest wsX2_nextToTip := goodIn_r _ [89, 7, 90, 91, 92, 11, 93, 13, 94, 79, 80, 81, 36, 37, 38, 39, 40, 82, 83, 84, 85, 235, 236, 237, 238, 239, 240, 241, 242] (by decide +kernel) (by decide +kernel)
set_option maxRecDepth 20000 in
theorem gX2_digest_X2_nextToTip : GoodIn wsX2_digest (wsV RX2 185 RX2 yX2_nextToTip wsX2_nextToTip) := goodIn_app (goodIn_of _ (by decide +kernel)) ggX2_digest_X2_nextToTip
set_option maxRecDepth 20000 in
theorem ggX2_digest_X2_levelAxes : GoodIn wsX2_digest wsX2_levelAxes := goodIn_r _ [98, 7, 8, 9, 10, 11, 12, 13, 99, 100, 101, 102, 82, 83, 84, 85, 36, 37, 38, 39, 40, 235, 236, 237, 238, 239, 240, 241, 242] (by decide +kernel) (by decide +kernel)
set_option maxRecDepth 20000 in
theorem gX2_digest_X2_levelAxes : GoodIn wsX2_digest (wsV RX2 188 RX2 yX2_levelAxes wsX2_levelAxes) := goodIn_app (goodIn_of _ (by decide +kernel)) ggX2_digest_X2_levelAxes
set_option maxRecDepth 20000 in
theorem ggX2_digest_X2_bestAxis : GoodIn wsX2_digest wsX2_bestAxis := goodIn_r _ [106, 7, 107, 108, 63, 109, 8, 9, 10, 11, 12, 13, 99, 100, 101, 102, 82, 83, 84, 85, 36, 37, 38, 39, 40, 235, 236, 237, 238, 239, 240, 241, 242] (by decide +kernel) (by decide +kernel)
set_option maxRecDepth 20000 in
theorem gX2_digest_X2_bestAxis : GoodIn wsX2_digest (wsV RX2 191 RX2 yX2_bestAxis wsX2_bestAxis) := goodIn_app (goodIn_of _ (by decide +kernel)) ggX2_digest_X2_bestAxis
set_option maxRecDepth 20000 in
theorem ggX2_digest_X2_reachable : GoodIn wsX2_digest wsX2_reachable := goodIn_ca (goodIn_r _ [113, 22, 7, 114, 115, 116, 5, 117, 118, 119, 120, 121, 122, 123, 11, 124, 125, 33, 34, 35, 13, 36, 37, 38, 39, 40, 126, 46, 47, 48, 49, 50, 51, 52, 235, 236, 237, 238, 239, 240, 241, 242] (by decide +kernel) (by decide +kernel)) (goodIn_sub (fun _ h => List.mem_cons_of_mem _ (List.mem_append_left _ (List.mem_append_right _ h))) (by decide +kernel))
set_option maxRecDepth 20000 in
theorem gX2_digest_X2_reachable : GoodIn wsX2_digest (wsV RX2 194 RX2 yX2_reachable wsX2_reachable) := goodIn_app (goodIn_of _ (by decide +kernel)) ggX2_digest_X2_reachable
set_option maxRecDepth 20000 in
theorem ggX2_digest_X2_nearestTarget : GoodIn wsX2_digest wsX2_nearestTarget := goodIn_ca (goodIn_r _ [130, 22, 114, 115, 116, 5, 117, 118, 119, 120, 131, 132, 133, 134, 7, 135, 121, 122, 123, 11, 124, 125, 33, 34, 35, 13, 36, 37, 38, 39, 40, 126, 46, 47, 48, 49, 50, 51, 52, 136, 137, 138, 139, 140, 141, 142, 143, 9, 10, 12, 144, 145, 146, 147, 148, 149, 150, 151, 152, 153, 62, 63, 64, 154, 155, 156, 157, 158, 159, 160, 161, 162, 108, 109, 235, 236, 237, 238, 239, 240, 241, 242, 243, 244] (by decide +kernel) (by decide +kernel)) (goodIn_sub (fun _ h => List.mem_cons_of_mem _ (List.mem_append_left _ (List.mem_append_right _ h))) (by decide +kernel))
set_option maxRecDepth 20000 in
theorem gX2_digest_X2_nearestTarget : GoodIn wsX2_digest (wsV RX2 197 RX2 yX2_nearestTarget wsX2_nearestTarget) := goodIn_app (goodIn_of _ (by decide +kernel)) ggX2_digest_X2_nearestTarget
set_option maxRecDepth 20000 in
theorem ggX2_digest_X2_stepsToRest : GoodIn wsX2_digest wsX2_stepsToRest := goodIn_r _ [166, 167, 168, 169, 5, 170, 171, 7, 172, 173, 174, 11, 175, 13, 40, 36, 37, 38, 39, 176, 177, 178, 179, 180, 181, 182, 183, 184, 91, 92, 93, 94, 79, 80, 81, 82, 83, 84, 85, 185, 186, 187, 188, 189, 190, 191, 192, 90, 235, 236, 237, 238, 239, 240, 241, 242] (by decide +kernel) (by decide +kernel)
set_option maxRecDepth 20000 in
theorem gX2_digest_X2_stepsToRest : GoodIn wsX2_digest (wsV RX2 200 RX2 yX2_stepsToRest wsX2_stepsToRest) := goodIn_app (goodIn_of _ (by decide +kernel)) ggX2_digest_X2_stepsToRest
set_option maxRecDepth 20000 in
theorem ggX2_digest_X2_spreadAtRest : GoodIn wsX2_digest wsX2_spreadAtRest := goodIn_r _ [196, 171, 167, 168, 169, 5, 170, 7, 172, 173, 174, 11, 175, 13, 40, 36, 37, 38, 39, 176, 177, 178, 179, 180, 181, 182, 183, 184, 91, 92, 93, 94, 79, 80, 81, 82, 83, 84, 85, 185, 186, 187, 188, 189, 190, 191, 192, 90, 57, 58, 59, 60, 61, 62, 63, 64, 65, 66, 67, 68, 235, 236, 237, 238, 239, 240, 241, 242] (by decide +kernel) (by decide +kernel)
set_option maxRecDepth 20000 in
theorem gX2_digest_X2_spreadAtRest : GoodIn wsX2_digest (wsV RX2 203 RX2 yX2_spreadAtRest wsX2_spreadAtRest) := goodIn_app (goodIn_of _ (by decide +kernel)) ggX2_digest_X2_spreadAtRest
set_option maxRecDepth 20000 in
theorem ggX2_digest_X2_bestPlace : GoodIn wsX2_digest wsX2_bestPlace := goodIn_r _ [200, 7, 201, 62, 63, 64, 57, 58, 59, 11, 60, 13, 61, 36, 37, 38, 39, 40, 65, 66, 67, 68, 8, 9, 10, 12, 202, 203, 204, 5, 205, 171, 172, 173, 174, 175, 176, 177, 178, 179, 206, 186, 187, 188, 189, 190, 191, 192, 82, 83, 84, 85, 235, 236, 237, 238, 239, 240, 241, 242] (by decide +kernel) (by decide +kernel)
set_option maxRecDepth 20000 in
theorem gX2_digest_X2_bestPlace : GoodIn wsX2_digest (wsV RX2 206 RX2 yX2_bestPlace wsX2_bestPlace) := goodIn_app (goodIn_of _ (by decide +kernel)) ggX2_digest_X2_bestPlace
set_option maxRecDepth 20000 in
theorem ggX2_digest_X2_placeFor : GoodIn wsX2_digest wsX2_placeFor := goodIn_ca (goodIn_ca (goodIn_r _ [210, 22, 211, 212, 213, 5, 214, 215, 216, 114, 115, 116, 117, 118, 119, 120, 217, 218, 219, 220, 7, 171, 8, 9, 10, 11, 12, 13, 172, 173, 174, 175, 40, 36, 37, 38, 39, 176, 177, 178, 179, 221, 121, 122, 123, 124, 125, 33, 34, 35, 126, 46, 47, 48, 49, 50, 51, 52, 235, 236, 237, 238, 239, 240, 241, 242] (by decide +kernel) (by decide +kernel)) (goodIn_sub (fun _ h => List.mem_cons_of_mem _ (List.mem_append_right _ h)) (by decide +kernel))) (goodIn_sub (fun _ h => List.mem_cons_of_mem _ (List.mem_append_left _ (List.mem_append_right _ h))) (by decide +kernel))
set_option maxRecDepth 20000 in
theorem gX2_digest_X2_placeFor : GoodIn wsX2_digest (wsV RX2 209 RX2 yX2_placeFor wsX2_placeFor) := goodIn_app (goodIn_of _ (by decide +kernel)) ggX2_digest_X2_placeFor
set_option maxRecDepth 20000 in
theorem ggX2_digest_X2_mixedWithPlaces : GoodIn wsX2_digest wsX2_mixedWithPlaces := goodIn_r _ [225, 7, 8, 9, 10, 11, 12, 13, 226, 37, 38, 39, 40, 14, 15, 5, 16, 17, 78, 79, 80, 81, 36, 82, 83, 84, 85, 99, 100, 101, 102, 235, 236, 237, 238, 239, 240, 241, 242] (by decide +kernel) (by decide +kernel)
set_option maxRecDepth 20000 in
theorem gX2_digest_X2_mixedWithPlaces : GoodIn wsX2_digest (wsV RX2 212 RX2 yX2_mixedWithPlaces wsX2_mixedWithPlaces) := goodIn_app (goodIn_of _ (by decide +kernel)) ggX2_digest_X2_mixedWithPlaces
set_option maxRecDepth 20000 in
theorem ggX2_digest_X2_mixedWithTargets : GoodIn wsX2_digest wsX2_mixedWithTargets := goodIn_ca (goodIn_r _ [230, 22, 7, 114, 115, 116, 5, 117, 118, 119, 120, 231, 232, 233, 11, 234, 13, 36, 37, 38, 39, 40, 14, 15, 16, 17, 121, 122, 123, 124, 125, 33, 34, 35, 126, 46, 47, 48, 49, 50, 51, 52, 131, 132, 133, 134, 135, 136, 137, 138, 139, 140, 141, 142, 143, 9, 10, 12, 144, 145, 146, 147, 148, 149, 150, 151, 152, 153, 62, 63, 64, 154, 155, 156, 157, 158, 159, 160, 161, 162, 108, 109, 235, 236, 237, 238, 239, 240, 241, 242, 243, 244] (by decide +kernel) (by decide +kernel)) (goodIn_sub (fun _ h => List.mem_cons_of_mem _ (List.mem_append_left _ (List.mem_append_right _ h))) (by decide +kernel))
set_option maxRecDepth 20000 in
theorem gX2_digest_X2_mixedWithTargets : GoodIn wsX2_digest (wsV RX2 216 RX2 yX2_mixedWithTargets wsX2_mixedWithTargets) := goodIn_app (goodIn_of _ (by decide +kernel)) ggX2_digest_X2_mixedWithTargets
theorem dX2_digest_0 : decode cX2_digest 0 = .ok (.ldc2_w 155, 3) := by decide +kernel
theorem dX2_digest_3 : decode cX2_digest 3 = .ok (.lstore_n 1, 1) := by decide +kernel
theorem dX2_digest_4 : decode cX2_digest 4 = .ok (.lload_n 1, 1) := by decide +kernel
theorem dX2_digest_5 : decode cX2_digest 5 = .ok (.aload_n 0, 1) := by decide +kernel
theorem dX2_digest_6 : decode cX2_digest 6 = .ok (.invokevirtual 157, 3) := by decide +kernel
theorem dX2_digest_9 : decode cX2_digest 9 = .ok (.i2l, 1) := by decide +kernel
theorem dX2_digest_10 : decode cX2_digest 10 = .ok (.invokestatic 160, 3) := by decide +kernel
theorem dX2_digest_13 : decode cX2_digest 13 = .ok (.lstore_n 1, 1) := by decide +kernel
theorem dX2_digest_14 : decode cX2_digest 14 = .ok (.lload_n 1, 1) := by decide +kernel
theorem dX2_digest_15 : decode cX2_digest 15 = .ok (.aload_n 0, 1) := by decide +kernel
theorem dX2_digest_16 : decode cX2_digest 16 = .ok (.invokevirtual 164, 3) := by decide +kernel
theorem dX2_digest_19 : decode cX2_digest 19 = .ok (.i2l, 1) := by decide +kernel
theorem dX2_digest_20 : decode cX2_digest 20 = .ok (.invokestatic 160, 3) := by decide +kernel
theorem dX2_digest_23 : decode cX2_digest 23 = .ok (.lstore_n 1, 1) := by decide +kernel
theorem dX2_digest_24 : decode cX2_digest 24 = .ok (.lload_n 1, 1) := by decide +kernel
theorem dX2_digest_25 : decode cX2_digest 25 = .ok (.aload_n 0, 1) := by decide +kernel
theorem dX2_digest_26 : decode cX2_digest 26 = .ok (.invokevirtual 167, 3) := by decide +kernel
theorem dX2_digest_29 : decode cX2_digest 29 = .ok (.i2l, 1) := by decide +kernel
theorem dX2_digest_30 : decode cX2_digest 30 = .ok (.invokestatic 160, 3) := by decide +kernel
theorem dX2_digest_33 : decode cX2_digest 33 = .ok (.lstore_n 1, 1) := by decide +kernel
theorem dX2_digest_34 : decode cX2_digest 34 = .ok (.lload_n 1, 1) := by decide +kernel
theorem dX2_digest_35 : decode cX2_digest 35 = .ok (.aload_n 0, 1) := by decide +kernel
theorem dX2_digest_36 : decode cX2_digest 36 = .ok (.invokevirtual 170, 3) := by decide +kernel
theorem dX2_digest_39 : decode cX2_digest 39 = .ok (.i2l, 1) := by decide +kernel
theorem dX2_digest_40 : decode cX2_digest 40 = .ok (.invokestatic 160, 3) := by decide +kernel
theorem dX2_digest_43 : decode cX2_digest 43 = .ok (.lstore_n 1, 1) := by decide +kernel
theorem dX2_digest_44 : decode cX2_digest 44 = .ok (.lload_n 1, 1) := by decide +kernel
theorem dX2_digest_45 : decode cX2_digest 45 = .ok (.aload_n 0, 1) := by decide +kernel
theorem dX2_digest_46 : decode cX2_digest 46 = .ok (.invokevirtual 173, 3) := by decide +kernel
theorem dX2_digest_49 : decode cX2_digest 49 = .ok (.i2l, 1) := by decide +kernel
theorem dX2_digest_50 : decode cX2_digest 50 = .ok (.invokestatic 160, 3) := by decide +kernel
theorem dX2_digest_53 : decode cX2_digest 53 = .ok (.lstore_n 1, 1) := by decide +kernel
theorem dX2_digest_54 : decode cX2_digest 54 = .ok (.lload_n 1, 1) := by decide +kernel
theorem dX2_digest_55 : decode cX2_digest 55 = .ok (.aload_n 0, 1) := by decide +kernel
theorem dX2_digest_56 : decode cX2_digest 56 = .ok (.invokevirtual 176, 3) := by decide +kernel
theorem dX2_digest_59 : decode cX2_digest 59 = .ok (.i2l, 1) := by decide +kernel
theorem dX2_digest_60 : decode cX2_digest 60 = .ok (.invokestatic 160, 3) := by decide +kernel
theorem dX2_digest_63 : decode cX2_digest 63 = .ok (.lstore_n 1, 1) := by decide +kernel
theorem dX2_digest_64 : decode cX2_digest 64 = .ok (.lload_n 1, 1) := by decide +kernel
theorem dX2_digest_65 : decode cX2_digest 65 = .ok (.aload_n 0, 1) := by decide +kernel
theorem dX2_digest_66 : decode cX2_digest 66 = .ok (.invokevirtual 179, 3) := by decide +kernel
theorem dX2_digest_69 : decode cX2_digest 69 = .ok (.i2l, 1) := by decide +kernel
theorem dX2_digest_70 : decode cX2_digest 70 = .ok (.invokestatic 160, 3) := by decide +kernel
theorem dX2_digest_73 : decode cX2_digest 73 = .ok (.lstore_n 1, 1) := by decide +kernel
theorem dX2_digest_74 : decode cX2_digest 74 = .ok (.lload_n 1, 1) := by decide +kernel
theorem dX2_digest_75 : decode cX2_digest 75 = .ok (.aload_n 0, 1) := by decide +kernel
theorem dX2_digest_76 : decode cX2_digest 76 = .ok (.invokevirtual 182, 3) := by decide +kernel
theorem dX2_digest_79 : decode cX2_digest 79 = .ok (.i2l, 1) := by decide +kernel
theorem dX2_digest_80 : decode cX2_digest 80 = .ok (.invokestatic 160, 3) := by decide +kernel
theorem dX2_digest_83 : decode cX2_digest 83 = .ok (.lstore_n 1, 1) := by decide +kernel
theorem dX2_digest_84 : decode cX2_digest 84 = .ok (.lload_n 1, 1) := by decide +kernel
theorem dX2_digest_85 : decode cX2_digest 85 = .ok (.aload_n 0, 1) := by decide +kernel
theorem dX2_digest_86 : decode cX2_digest 86 = .ok (.invokevirtual 185, 3) := by decide +kernel
theorem dX2_digest_89 : decode cX2_digest 89 = .ok (.i2l, 1) := by decide +kernel
theorem dX2_digest_90 : decode cX2_digest 90 = .ok (.invokestatic 160, 3) := by decide +kernel
theorem dX2_digest_93 : decode cX2_digest 93 = .ok (.lstore_n 1, 1) := by decide +kernel
theorem dX2_digest_94 : decode cX2_digest 94 = .ok (.lload_n 1, 1) := by decide +kernel
theorem dX2_digest_95 : decode cX2_digest 95 = .ok (.aload_n 0, 1) := by decide +kernel
theorem dX2_digest_96 : decode cX2_digest 96 = .ok (.invokevirtual 188, 3) := by decide +kernel
theorem dX2_digest_99 : decode cX2_digest 99 = .ok (.i2l, 1) := by decide +kernel
theorem dX2_digest_100 : decode cX2_digest 100 = .ok (.invokestatic 160, 3) := by decide +kernel
theorem dX2_digest_103 : decode cX2_digest 103 = .ok (.lstore_n 1, 1) := by decide +kernel
theorem dX2_digest_104 : decode cX2_digest 104 = .ok (.lload_n 1, 1) := by decide +kernel
theorem dX2_digest_105 : decode cX2_digest 105 = .ok (.aload_n 0, 1) := by decide +kernel
theorem dX2_digest_106 : decode cX2_digest 106 = .ok (.invokevirtual 191, 3) := by decide +kernel
theorem dX2_digest_109 : decode cX2_digest 109 = .ok (.i2l, 1) := by decide +kernel
theorem dX2_digest_110 : decode cX2_digest 110 = .ok (.invokestatic 160, 3) := by decide +kernel
theorem dX2_digest_113 : decode cX2_digest 113 = .ok (.lstore_n 1, 1) := by decide +kernel
theorem dX2_digest_114 : decode cX2_digest 114 = .ok (.lload_n 1, 1) := by decide +kernel
theorem dX2_digest_115 : decode cX2_digest 115 = .ok (.aload_n 0, 1) := by decide +kernel
theorem dX2_digest_116 : decode cX2_digest 116 = .ok (.invokevirtual 194, 3) := by decide +kernel
theorem dX2_digest_119 : decode cX2_digest 119 = .ok (.i2l, 1) := by decide +kernel
theorem dX2_digest_120 : decode cX2_digest 120 = .ok (.invokestatic 160, 3) := by decide +kernel
theorem dX2_digest_123 : decode cX2_digest 123 = .ok (.lstore_n 1, 1) := by decide +kernel
theorem dX2_digest_124 : decode cX2_digest 124 = .ok (.lload_n 1, 1) := by decide +kernel
theorem dX2_digest_125 : decode cX2_digest 125 = .ok (.aload_n 0, 1) := by decide +kernel
theorem dX2_digest_126 : decode cX2_digest 126 = .ok (.invokevirtual 197, 3) := by decide +kernel
theorem dX2_digest_129 : decode cX2_digest 129 = .ok (.i2l, 1) := by decide +kernel
theorem dX2_digest_130 : decode cX2_digest 130 = .ok (.invokestatic 160, 3) := by decide +kernel
theorem dX2_digest_133 : decode cX2_digest 133 = .ok (.lstore_n 1, 1) := by decide +kernel
theorem dX2_digest_134 : decode cX2_digest 134 = .ok (.lload_n 1, 1) := by decide +kernel
theorem dX2_digest_135 : decode cX2_digest 135 = .ok (.aload_n 0, 1) := by decide +kernel
theorem dX2_digest_136 : decode cX2_digest 136 = .ok (.invokevirtual 200, 3) := by decide +kernel
theorem dX2_digest_139 : decode cX2_digest 139 = .ok (.i2l, 1) := by decide +kernel
theorem dX2_digest_140 : decode cX2_digest 140 = .ok (.invokestatic 160, 3) := by decide +kernel
theorem dX2_digest_143 : decode cX2_digest 143 = .ok (.lstore_n 1, 1) := by decide +kernel
theorem dX2_digest_144 : decode cX2_digest 144 = .ok (.lload_n 1, 1) := by decide +kernel
theorem dX2_digest_145 : decode cX2_digest 145 = .ok (.aload_n 0, 1) := by decide +kernel
theorem dX2_digest_146 : decode cX2_digest 146 = .ok (.invokevirtual 203, 3) := by decide +kernel
theorem dX2_digest_149 : decode cX2_digest 149 = .ok (.i2l, 1) := by decide +kernel
theorem dX2_digest_150 : decode cX2_digest 150 = .ok (.invokestatic 160, 3) := by decide +kernel
theorem dX2_digest_153 : decode cX2_digest 153 = .ok (.lstore_n 1, 1) := by decide +kernel
theorem dX2_digest_154 : decode cX2_digest 154 = .ok (.lload_n 1, 1) := by decide +kernel
theorem dX2_digest_155 : decode cX2_digest 155 = .ok (.aload_n 0, 1) := by decide +kernel
theorem dX2_digest_156 : decode cX2_digest 156 = .ok (.invokevirtual 206, 3) := by decide +kernel
theorem dX2_digest_159 : decode cX2_digest 159 = .ok (.i2l, 1) := by decide +kernel
theorem dX2_digest_160 : decode cX2_digest 160 = .ok (.invokestatic 160, 3) := by decide +kernel
theorem dX2_digest_163 : decode cX2_digest 163 = .ok (.lstore_n 1, 1) := by decide +kernel
theorem dX2_digest_164 : decode cX2_digest 164 = .ok (.lload_n 1, 1) := by decide +kernel
theorem dX2_digest_165 : decode cX2_digest 165 = .ok (.aload_n 0, 1) := by decide +kernel
theorem dX2_digest_166 : decode cX2_digest 166 = .ok (.iconst 0, 1) := by decide +kernel
theorem dX2_digest_167 : decode cX2_digest 167 = .ok (.invokevirtual 209, 3) := by decide +kernel
theorem dX2_digest_170 : decode cX2_digest 170 = .ok (.i2l, 1) := by decide +kernel
theorem dX2_digest_171 : decode cX2_digest 171 = .ok (.invokestatic 160, 3) := by decide +kernel
theorem dX2_digest_174 : decode cX2_digest 174 = .ok (.lstore_n 1, 1) := by decide +kernel
theorem dX2_digest_175 : decode cX2_digest 175 = .ok (.aload_n 0, 1) := by decide +kernel
theorem dX2_digest_176 : decode cX2_digest 176 = .ok (.aload_n 0, 1) := by decide +kernel
theorem dX2_digest_177 : decode cX2_digest 177 = .ok (.lload_n 1, 1) := by decide +kernel
theorem dX2_digest_178 : decode cX2_digest 178 = .ok (.invokevirtual 212, 3) := by decide +kernel
theorem dX2_digest_181 : decode cX2_digest 181 = .ok (.invokevirtual 216, 3) := by decide +kernel
theorem dX2_digest_184 : decode cX2_digest 184 = .ok (.lreturn, 1) := by decide +kernel
set_option maxRecDepth 20000 in
theorem ggX2_mixedWithPlaces_X0_size : GoodIn wsX2_mixedWithPlaces wsX0_size := goodIn_r _ [6, 7, 37, 38] (by decide +kernel) (by decide +kernel)
set_option maxRecDepth 20000 in
theorem gX2_mixedWithPlaces_X0_size : GoodIn wsX2_mixedWithPlaces (wsV RX2 44 RX0 yX0_size wsX0_size) := goodIn_app (goodIn_of _ (by decide +kernel)) ggX2_mixedWithPlaces_X0_size
set_option maxRecDepth 20000 in
theorem ggX2_mixedWithPlaces_X0_at : GoodIn wsX2_mixedWithPlaces wsX0_at := goodIn_r _ [11, 12, 37, 38] (by decide +kernel) (by decide +kernel)
set_option maxRecDepth 20000 in
theorem gX2_mixedWithPlaces_X0_at : GoodIn wsX2_mixedWithPlaces (wsV RX2 58 RX0 yX0_at wsX0_at) := goodIn_app (goodIn_of _ (by decide +kernel)) ggX2_mixedWithPlaces_X0_at
set_option maxRecDepth 20000 in
theorem ggX2_mixedWithPlaces_X2_mixed : GoodIn wsX2_mixedWithPlaces wsX2_mixed := goodIn_r _ [16, 17] (by decide +kernel) (by decide +kernel)
set_option maxRecDepth 20000 in
theorem gX2_mixedWithPlaces_X2_mixed : GoodIn wsX2_mixedWithPlaces (va_wsS RX2 160 yX2_mixed wsX2_mixed) := goodIn_app (goodIn_of _ (by decide +kernel)) ggX2_mixedWithPlaces_X2_mixed
set_option maxRecDepth 20000 in
theorem ggX2_mixedWithPlaces_X0_steepAt : GoodIn wsX2_mixedWithPlaces wsX0_steepAt := goodIn_r _ [21, 22, 9, 10, 5, 11, 12, 23, 24, 25, 26, 7, 37, 38] (by decide +kernel) (by decide +kernel)
set_option maxRecDepth 20000 in
theorem gX2_mixedWithPlaces_X0_steepAt : GoodIn wsX2_mixedWithPlaces (wsV RX2 117 RX0 yX0_steepAt wsX0_steepAt) := goodIn_app (goodIn_of _ (by decide +kernel)) ggX2_mixedWithPlaces_X0_steepAt
set_option maxRecDepth 20000 in
theorem ggX2_mixedWithPlaces_X0_tiltOn : GoodIn wsX2_mixedWithPlaces wsX0_tiltOn := goodIn_r _ [30, 7, 23, 24, 25, 5, 26, 22, 9, 10, 11, 12, 37, 38] (by decide +kernel) (by decide +kernel)
set_option maxRecDepth 20000 in
theorem gX2_mixedWithPlaces_X0_tiltOn : GoodIn wsX2_mixedWithPlaces (wsV RX2 124 RX0 yX0_tiltOn wsX0_tiltOn) := goodIn_app (goodIn_of _ (by decide +kernel)) ggX2_mixedWithPlaces_X0_tiltOn
theorem dX2_mixedWithPlaces_0 : decode cX2_mixedWithPlaces 0 = .ok (.lload_n 1, 1) := by decide +kernel
theorem dX2_mixedWithPlaces_1 : decode cX2_mixedWithPlaces 1 = .ok (.lstore_n 3, 1) := by decide +kernel
theorem dX2_mixedWithPlaces_2 : decode cX2_mixedWithPlaces 2 = .ok (.iconst 0, 1) := by decide +kernel
theorem dX2_mixedWithPlaces_3 : decode cX2_mixedWithPlaces 3 = .ok (.istore 5, 2) := by decide +kernel
theorem dX2_mixedWithPlaces_5 : decode cX2_mixedWithPlaces 5 = .ok (.iload 5, 2) := by decide +kernel
theorem dX2_mixedWithPlaces_7 : decode cX2_mixedWithPlaces 7 = .ok (.aload_n 0, 1) := by decide +kernel
theorem dX2_mixedWithPlaces_8 : decode cX2_mixedWithPlaces 8 = .ok (.getfield 10, 3) := by decide +kernel
theorem dX2_mixedWithPlaces_11 : decode cX2_mixedWithPlaces 11 = .ok (.invokevirtual 44, 3) := by decide +kernel
theorem dX2_mixedWithPlaces_14 : decode cX2_mixedWithPlaces 14 = .ok (.if_icmp .ge 61, 3) := by decide +kernel
theorem dX2_mixedWithPlaces_17 : decode cX2_mixedWithPlaces 17 = .ok (.lload_n 3, 1) := by decide +kernel
theorem dX2_mixedWithPlaces_18 : decode cX2_mixedWithPlaces 18 = .ok (.aload_n 0, 1) := by decide +kernel
theorem dX2_mixedWithPlaces_19 : decode cX2_mixedWithPlaces 19 = .ok (.getfield 10, 3) := by decide +kernel
theorem dX2_mixedWithPlaces_22 : decode cX2_mixedWithPlaces 22 = .ok (.iload 5, 2) := by decide +kernel
theorem dX2_mixedWithPlaces_24 : decode cX2_mixedWithPlaces 24 = .ok (.invokevirtual 58, 3) := by decide +kernel
theorem dX2_mixedWithPlaces_27 : decode cX2_mixedWithPlaces 27 = .ok (.i2l, 1) := by decide +kernel
theorem dX2_mixedWithPlaces_28 : decode cX2_mixedWithPlaces 28 = .ok (.invokestatic 160, 3) := by decide +kernel
theorem dX2_mixedWithPlaces_31 : decode cX2_mixedWithPlaces 31 = .ok (.lstore_n 3, 1) := by decide +kernel
theorem dX2_mixedWithPlaces_32 : decode cX2_mixedWithPlaces 32 = .ok (.lload_n 3, 1) := by decide +kernel
theorem dX2_mixedWithPlaces_33 : decode cX2_mixedWithPlaces 33 = .ok (.aload_n 0, 1) := by decide +kernel
theorem dX2_mixedWithPlaces_34 : decode cX2_mixedWithPlaces 34 = .ok (.getfield 10, 3) := by decide +kernel
theorem dX2_mixedWithPlaces_37 : decode cX2_mixedWithPlaces 37 = .ok (.iload 5, 2) := by decide +kernel
theorem dX2_mixedWithPlaces_39 : decode cX2_mixedWithPlaces 39 = .ok (.invokevirtual 117, 3) := by decide +kernel
theorem dX2_mixedWithPlaces_42 : decode cX2_mixedWithPlaces 42 = .ok (.ifCond .eq 7, 3) := by decide +kernel
theorem dX2_mixedWithPlaces_45 : decode cX2_mixedWithPlaces 45 = .ok (.lconst 1, 1) := by decide +kernel
theorem dX2_mixedWithPlaces_46 : decode cX2_mixedWithPlaces 46 = .ok (.goto 4, 3) := by decide +kernel
theorem dX2_mixedWithPlaces_49 : decode cX2_mixedWithPlaces 49 = .ok (.lconst 0, 1) := by decide +kernel
theorem dX2_mixedWithPlaces_50 : decode cX2_mixedWithPlaces 50 = .ok (.invokestatic 160, 3) := by decide +kernel
theorem dX2_mixedWithPlaces_53 : decode cX2_mixedWithPlaces 53 = .ok (.lstore_n 3, 1) := by decide +kernel
theorem dX2_mixedWithPlaces_54 : decode cX2_mixedWithPlaces 54 = .ok (.lload_n 3, 1) := by decide +kernel
theorem dX2_mixedWithPlaces_55 : decode cX2_mixedWithPlaces 55 = .ok (.aload_n 0, 1) := by decide +kernel
theorem dX2_mixedWithPlaces_56 : decode cX2_mixedWithPlaces 56 = .ok (.getfield 10, 3) := by decide +kernel
theorem dX2_mixedWithPlaces_59 : decode cX2_mixedWithPlaces 59 = .ok (.iload 5, 2) := by decide +kernel
theorem dX2_mixedWithPlaces_61 : decode cX2_mixedWithPlaces 61 = .ok (.invokevirtual 124, 3) := by decide +kernel
theorem dX2_mixedWithPlaces_64 : decode cX2_mixedWithPlaces 64 = .ok (.i2l, 1) := by decide +kernel
theorem dX2_mixedWithPlaces_65 : decode cX2_mixedWithPlaces 65 = .ok (.invokestatic 160, 3) := by decide +kernel
theorem dX2_mixedWithPlaces_68 : decode cX2_mixedWithPlaces 68 = .ok (.lstore_n 3, 1) := by decide +kernel
theorem dX2_mixedWithPlaces_69 : decode cX2_mixedWithPlaces 69 = .ok (.iinc 5 1, 3) := by decide +kernel
theorem dX2_mixedWithPlaces_72 : decode cX2_mixedWithPlaces 72 = .ok (.goto (-67), 3) := by decide +kernel
theorem dX2_mixedWithPlaces_75 : decode cX2_mixedWithPlaces 75 = .ok (.lload_n 3, 1) := by decide +kernel
theorem dX2_mixedWithPlaces_76 : decode cX2_mixedWithPlaces 76 = .ok (.lreturn, 1) := by decide +kernel
set_option maxRecDepth 20000 in
theorem ggX2_mixedWithTargets_X2_keptRing : GoodIn wsX2_mixedWithTargets wsX2_keptRing := goodIn_ca (goodIn_r _ [7, 8, 9, 1, 10, 82, 83, 84, 85, 86, 87] (by decide +kernel) (by decide +kernel)) (goodIn_sub (fun _ h => List.mem_cons_of_mem _ (List.mem_append_right _ h)) (by decide +kernel))
set_option maxRecDepth 20000 in
theorem gX2_mixedWithTargets_X2_keptRing : GoodIn wsX2_mixedWithTargets (wsV RX2 85 RX2 yX2_keptRing wsX2_keptRing) := goodIn_app (goodIn_of _ (by decide +kernel)) ggX2_mixedWithTargets_X2_keptRing
set_option maxRecDepth 20000 in
theorem ggX2_mixedWithTargets_X0_differencesFrom : GoodIn wsX2_mixedWithTargets wsX0_differencesFrom := goodIn_r _ [15, 16, 17, 18, 19, 14, 20, 21, 88, 89] (by decide +kernel) (by decide +kernel)
set_option maxRecDepth 20000 in
theorem gX2_mixedWithTargets_X0_differencesFrom : GoodIn wsX2_mixedWithTargets (wsV RX2 127 RX0 yX0_differencesFrom wsX0_differencesFrom) := goodIn_app (goodIn_of _ (by decide +kernel)) ggX2_mixedWithTargets_X0_differencesFrom
set_option maxRecDepth 20000 in
theorem ggX2_mixedWithTargets_X2_mixed : GoodIn wsX2_mixedWithTargets wsX2_mixed := goodIn_r _ [24, 25] (by decide +kernel) (by decide +kernel)
set_option maxRecDepth 20000 in
theorem gX2_mixedWithTargets_X2_mixed : GoodIn wsX2_mixedWithTargets (va_wsS RX2 160 yX2_mixed wsX2_mixed) := goodIn_app (goodIn_of _ (by decide +kernel)) ggX2_mixedWithTargets_X2_mixed
set_option maxRecDepth 20000 in
theorem ggX2_mixedWithTargets_X0_canBecome : GoodIn wsX2_mixedWithTargets wsX0_canBecome := goodIn_r _ [29, 30, 31, 32, 14, 33, 16, 17, 18, 19, 20, 21, 34, 35, 36, 37, 38, 39, 40, 41, 88, 89] (by decide +kernel) (by decide +kernel)
set_option maxRecDepth 20000 in
theorem gX2_mixedWithTargets_X0_canBecome : GoodIn wsX2_mixedWithTargets (wsV RX2 130 RX0 yX0_canBecome wsX0_canBecome) := goodIn_app (goodIn_of _ (by decide +kernel)) ggX2_mixedWithTargets_X0_canBecome
set_option maxRecDepth 20000 in
theorem ggX2_mixedWithTargets_X2_fewestTo : GoodIn wsX2_mixedWithTargets wsX2_fewestTo := goodIn_r _ [45, 2, 46, 26, 27, 28, 14, 29, 30, 31, 32, 33, 16, 17, 18, 19, 20, 21, 34, 35, 36, 37, 38, 39, 40, 41, 47, 48, 49, 50, 51, 52, 53, 54, 55, 56, 57, 58, 59, 60, 61, 62, 63, 64, 65, 66, 67, 68, 69, 70, 71, 72, 73, 74, 75, 76, 77, 78, 79, 80, 81, 82, 83, 84, 85, 86, 87, 88, 89, 90, 91] (by decide +kernel) (by decide +kernel)
set_option maxRecDepth 20000 in
theorem gX2_mixedWithTargets_X2_fewestTo : GoodIn wsX2_mixedWithTargets (wsV RX2 101 RX2 yX2_fewestTo wsX2_fewestTo) := goodIn_app (goodIn_of _ (by decide +kernel)) ggX2_mixedWithTargets_X2_fewestTo
theorem dX2_mixedWithTargets_0 : decode cX2_mixedWithTargets 0 = .ok (.lload_n 1, 1) := by decide +kernel
theorem dX2_mixedWithTargets_1 : decode cX2_mixedWithTargets 1 = .ok (.lstore_n 3, 1) := by decide +kernel
theorem dX2_mixedWithTargets_2 : decode cX2_mixedWithTargets 2 = .ok (.iconst 0, 1) := by decide +kernel
theorem dX2_mixedWithTargets_3 : decode cX2_mixedWithTargets 3 = .ok (.istore 5, 2) := by decide +kernel
theorem dX2_mixedWithTargets_5 : decode cX2_mixedWithTargets 5 = .ok (.iload 5, 2) := by decide +kernel
theorem dX2_mixedWithTargets_7 : decode cX2_mixedWithTargets 7 = .ok (.aload_n 0, 1) := by decide +kernel
theorem dX2_mixedWithTargets_8 : decode cX2_mixedWithTargets 8 = .ok (.getfield 20, 3) := by decide +kernel
theorem dX2_mixedWithTargets_11 : decode cX2_mixedWithTargets 11 = .ok (.if_icmp .ge 66, 3) := by decide +kernel
theorem dX2_mixedWithTargets_14 : decode cX2_mixedWithTargets 14 = .ok (.aload_n 0, 1) := by decide +kernel
theorem dX2_mixedWithTargets_15 : decode cX2_mixedWithTargets 15 = .ok (.iload 5, 2) := by decide +kernel
theorem dX2_mixedWithTargets_17 : decode cX2_mixedWithTargets 17 = .ok (.invokevirtual 85, 3) := by decide +kernel
theorem dX2_mixedWithTargets_20 : decode cX2_mixedWithTargets 20 = .ok (.astore 6, 2) := by decide +kernel
theorem dX2_mixedWithTargets_22 : decode cX2_mixedWithTargets 22 = .ok (.lload_n 3, 1) := by decide +kernel
theorem dX2_mixedWithTargets_23 : decode cX2_mixedWithTargets 23 = .ok (.aload_n 0, 1) := by decide +kernel
theorem dX2_mixedWithTargets_24 : decode cX2_mixedWithTargets 24 = .ok (.getfield 10, 3) := by decide +kernel
theorem dX2_mixedWithTargets_27 : decode cX2_mixedWithTargets 27 = .ok (.aload 6, 2) := by decide +kernel
theorem dX2_mixedWithTargets_29 : decode cX2_mixedWithTargets 29 = .ok (.invokevirtual 127, 3) := by decide +kernel
theorem dX2_mixedWithTargets_32 : decode cX2_mixedWithTargets 32 = .ok (.i2l, 1) := by decide +kernel
theorem dX2_mixedWithTargets_33 : decode cX2_mixedWithTargets 33 = .ok (.invokestatic 160, 3) := by decide +kernel
theorem dX2_mixedWithTargets_36 : decode cX2_mixedWithTargets 36 = .ok (.lstore_n 3, 1) := by decide +kernel
theorem dX2_mixedWithTargets_37 : decode cX2_mixedWithTargets 37 = .ok (.lload_n 3, 1) := by decide +kernel
theorem dX2_mixedWithTargets_38 : decode cX2_mixedWithTargets 38 = .ok (.aload_n 0, 1) := by decide +kernel
theorem dX2_mixedWithTargets_39 : decode cX2_mixedWithTargets 39 = .ok (.getfield 10, 3) := by decide +kernel
theorem dX2_mixedWithTargets_42 : decode cX2_mixedWithTargets 42 = .ok (.aload 6, 2) := by decide +kernel
theorem dX2_mixedWithTargets_44 : decode cX2_mixedWithTargets 44 = .ok (.invokevirtual 130, 3) := by decide +kernel
theorem dX2_mixedWithTargets_47 : decode cX2_mixedWithTargets 47 = .ok (.ifCond .eq 7, 3) := by decide +kernel
theorem dX2_mixedWithTargets_50 : decode cX2_mixedWithTargets 50 = .ok (.lconst 1, 1) := by decide +kernel
theorem dX2_mixedWithTargets_51 : decode cX2_mixedWithTargets 51 = .ok (.goto 4, 3) := by decide +kernel
theorem dX2_mixedWithTargets_54 : decode cX2_mixedWithTargets 54 = .ok (.lconst 0, 1) := by decide +kernel
theorem dX2_mixedWithTargets_55 : decode cX2_mixedWithTargets 55 = .ok (.invokestatic 160, 3) := by decide +kernel
theorem dX2_mixedWithTargets_58 : decode cX2_mixedWithTargets 58 = .ok (.lstore_n 3, 1) := by decide +kernel
theorem dX2_mixedWithTargets_59 : decode cX2_mixedWithTargets 59 = .ok (.lload_n 3, 1) := by decide +kernel
theorem dX2_mixedWithTargets_60 : decode cX2_mixedWithTargets 60 = .ok (.aload_n 0, 1) := by decide +kernel
theorem dX2_mixedWithTargets_61 : decode cX2_mixedWithTargets 61 = .ok (.aload 6, 2) := by decide +kernel
theorem dX2_mixedWithTargets_63 : decode cX2_mixedWithTargets 63 = .ok (.invokevirtual 101, 3) := by decide +kernel
theorem dX2_mixedWithTargets_66 : decode cX2_mixedWithTargets 66 = .ok (.i2l, 1) := by decide +kernel
theorem dX2_mixedWithTargets_67 : decode cX2_mixedWithTargets 67 = .ok (.invokestatic 160, 3) := by decide +kernel
theorem dX2_mixedWithTargets_70 : decode cX2_mixedWithTargets 70 = .ok (.lstore_n 3, 1) := by decide +kernel
theorem dX2_mixedWithTargets_71 : decode cX2_mixedWithTargets 71 = .ok (.iinc 5 1, 3) := by decide +kernel
theorem dX2_mixedWithTargets_74 : decode cX2_mixedWithTargets 74 = .ok (.goto (-69), 3) := by decide +kernel
theorem dX2_mixedWithTargets_77 : decode cX2_mixedWithTargets 77 = .ok (.lload_n 3, 1) := by decide +kernel
theorem dX2_mixedWithTargets_78 : decode cX2_mixedWithTargets 78 = .ok (.lreturn, 1) := by decide +kernel
theorem dX2_mixed_0 : decode cX2_mixed 0 = .ok (.lload_n 0, 1) := by decide +kernel
theorem dX2_mixed_1 : decode cX2_mixed 1 = .ok (.ldc2_w 219, 3) := by decide +kernel
theorem dX2_mixed_4 : decode cX2_mixed 4 = .ok (.lmul, 1) := by decide +kernel
theorem dX2_mixed_5 : decode cX2_mixed 5 = .ok (.lload_n 2, 1) := by decide +kernel
theorem dX2_mixed_6 : decode cX2_mixed 6 = .ok (.ladd, 1) := by decide +kernel
theorem dX2_mixed_7 : decode cX2_mixed 7 = .ok (.lreturn, 1) := by decide +kernel
set_option maxRecDepth 20000 in
theorem ggX2_requirePlace_X0_size : GoodIn wsX2_requirePlace wsX0_size := goodIn_r _ [8, 9, 16, 17] (by decide +kernel) (by decide +kernel)
set_option maxRecDepth 20000 in
theorem gX2_requirePlace_X0_size : GoodIn wsX2_requirePlace (wsV RX2 44 RX0 yX0_size wsX0_size) := goodIn_app (goodIn_of _ (by decide +kernel)) ggX2_requirePlace_X0_size
theorem dX2_requirePlace_0 : decode cX2_requirePlace 0 = .ok (.iload_n 1, 1) := by decide +kernel
theorem dX2_requirePlace_1 : decode cX2_requirePlace 1 = .ok (.ifCond .lt 14, 3) := by decide +kernel
theorem dX2_requirePlace_4 : decode cX2_requirePlace 4 = .ok (.iload_n 1, 1) := by decide +kernel
theorem dX2_requirePlace_5 : decode cX2_requirePlace 5 = .ok (.aload_n 0, 1) := by decide +kernel
theorem dX2_requirePlace_6 : decode cX2_requirePlace 6 = .ok (.getfield 10, 3) := by decide +kernel
theorem dX2_requirePlace_9 : decode cX2_requirePlace 9 = .ok (.invokevirtual 44, 3) := by decide +kernel
theorem dX2_requirePlace_12 : decode cX2_requirePlace 12 = .ok (.if_icmp .lt 13, 3) := by decide +kernel
theorem dX2_requirePlace_15 : decode cX2_requirePlace 15 = .ok (.new 221, 3) := by decide +kernel
theorem dX2_requirePlace_18 : decode cX2_requirePlace 18 = .ok (.dup, 1) := by decide +kernel
theorem dX2_requirePlace_19 : decode cX2_requirePlace 19 = .ok (.ldc 223, 2) := by decide +kernel
theorem dX2_requirePlace_21 : decode cX2_requirePlace 21 = .ok (.invokespecial 225, 3) := by decide +kernel
theorem dX2_requirePlace_24 : decode cX2_requirePlace 24 = .ok (.athrow, 1) := by decide +kernel
theorem dX2_requirePlace_25 : decode cX2_requirePlace 25 = .ok (.return_, 1) := by decide +kernel
theorem dX2_requireNumber_0 : decode cX2_requireNumber 0 = .ok (.iload_n 1, 1) := by decide +kernel
theorem dX2_requireNumber_1 : decode cX2_requireNumber 1 = .ok (.sipush (-999), 3) := by decide +kernel
theorem dX2_requireNumber_4 : decode cX2_requireNumber 4 = .ok (.if_icmp .lt 10, 3) := by decide +kernel
theorem dX2_requireNumber_7 : decode cX2_requireNumber 7 = .ok (.iload_n 1, 1) := by decide +kernel
theorem dX2_requireNumber_8 : decode cX2_requireNumber 8 = .ok (.sipush 999, 3) := by decide +kernel
theorem dX2_requireNumber_11 : decode cX2_requireNumber 11 = .ok (.if_icmp .le 13, 3) := by decide +kernel
theorem dX2_requireNumber_14 : decode cX2_requireNumber 14 = .ok (.new 37, 3) := by decide +kernel
theorem dX2_requireNumber_17 : decode cX2_requireNumber 17 = .ok (.dup, 1) := by decide +kernel
theorem dX2_requireNumber_18 : decode cX2_requireNumber 18 = .ok (.ldc 226, 2) := by decide +kernel
theorem dX2_requireNumber_20 : decode cX2_requireNumber 20 = .ok (.invokespecial 41, 3) := by decide +kernel
theorem dX2_requireNumber_23 : decode cX2_requireNumber 23 = .ok (.athrow, 1) := by decide +kernel
theorem dX2_requireNumber_24 : decode cX2_requireNumber 24 = .ok (.return_, 1) := by decide +kernel
theorem dX2_requireTimes_0 : decode cX2_requireTimes 0 = .ok (.iload_n 1, 1) := by decide +kernel
theorem dX2_requireTimes_1 : decode cX2_requireTimes 1 = .ok (.bipush (-50), 2) := by decide +kernel
theorem dX2_requireTimes_3 : decode cX2_requireTimes 3 = .ok (.if_icmp .lt 9, 3) := by decide +kernel
theorem dX2_requireTimes_6 : decode cX2_requireTimes 6 = .ok (.iload_n 1, 1) := by decide +kernel
theorem dX2_requireTimes_7 : decode cX2_requireTimes 7 = .ok (.bipush 50, 2) := by decide +kernel
theorem dX2_requireTimes_9 : decode cX2_requireTimes 9 = .ok (.if_icmp .le 13, 3) := by decide +kernel
theorem dX2_requireTimes_12 : decode cX2_requireTimes 12 = .ok (.new 37, 3) := by decide +kernel
theorem dX2_requireTimes_15 : decode cX2_requireTimes 15 = .ok (.dup, 1) := by decide +kernel
theorem dX2_requireTimes_16 : decode cX2_requireTimes 16 = .ok (.ldc 228, 2) := by decide +kernel
theorem dX2_requireTimes_18 : decode cX2_requireTimes 18 = .ok (.invokespecial 41, 3) := by decide +kernel
theorem dX2_requireTimes_21 : decode cX2_requireTimes 21 = .ok (.athrow, 1) := by decide +kernel
theorem dX2_requireTimes_22 : decode cX2_requireTimes 22 = .ok (.return_, 1) := by decide +kernel
set_option maxRecDepth 20000 in
theorem ggX2_requireWayTo_X0_canBecome : GoodIn wsX2_requireWayTo wsX0_canBecome := goodIn_r _ [8, 9, 10, 11, 7, 12, 13, 14, 15, 16, 17, 18, 19, 20, 21, 22, 23, 24, 25, 26, 33, 34] (by decide +kernel) (by decide +kernel)
set_option maxRecDepth 20000 in
theorem gX2_requireWayTo_X0_canBecome : GoodIn wsX2_requireWayTo (wsV RX2 130 RX0 yX0_canBecome wsX0_canBecome) := goodIn_app (goodIn_of _ (by decide +kernel)) ggX2_requireWayTo_X0_canBecome
theorem dX2_requireWayTo_0 : decode cX2_requireWayTo 0 = .ok (.aload_n 0, 1) := by decide +kernel
theorem dX2_requireWayTo_1 : decode cX2_requireWayTo 1 = .ok (.getfield 10, 3) := by decide +kernel
theorem dX2_requireWayTo_4 : decode cX2_requireWayTo 4 = .ok (.aload_n 1, 1) := by decide +kernel
theorem dX2_requireWayTo_5 : decode cX2_requireWayTo 5 = .ok (.invokevirtual 130, 3) := by decide +kernel
theorem dX2_requireWayTo_8 : decode cX2_requireWayTo 8 = .ok (.ifCond .ne 13, 3) := by decide +kernel
theorem dX2_requireWayTo_11 : decode cX2_requireWayTo 11 = .ok (.new 80, 3) := by decide +kernel
theorem dX2_requireWayTo_14 : decode cX2_requireWayTo 14 = .ok (.dup, 1) := by decide +kernel
theorem dX2_requireWayTo_15 : decode cX2_requireWayTo 15 = .ok (.ldc 230, 2) := by decide +kernel
theorem dX2_requireWayTo_17 : decode cX2_requireWayTo 17 = .ok (.invokespecial 84, 3) := by decide +kernel
theorem dX2_requireWayTo_20 : decode cX2_requireWayTo 20 = .ok (.athrow, 1) := by decide +kernel
theorem dX2_requireWayTo_21 : decode cX2_requireWayTo 21 = .ok (.return_, 1) := by decide +kernel
theorem dX2_keptRing_0 : decode cX2_keptRing 0 = .ok (.iload_n 1, 1) := by decide +kernel
theorem dX2_keptRing_1 : decode cX2_keptRing 1 = .ok (.ifCond .lt 20, 3) := by decide +kernel
theorem dX2_keptRing_4 : decode cX2_keptRing 4 = .ok (.iload_n 1, 1) := by decide +kernel
theorem dX2_keptRing_5 : decode cX2_keptRing 5 = .ok (.aload_n 0, 1) := by decide +kernel
theorem dX2_keptRing_6 : decode cX2_keptRing 6 = .ok (.getfield 20, 3) := by decide +kernel
theorem dX2_keptRing_9 : decode cX2_keptRing 9 = .ok (.if_icmp .ge 12, 3) := by decide +kernel
theorem dX2_keptRing_12 : decode cX2_keptRing 12 = .ok (.iload_n 1, 1) := by decide +kernel
theorem dX2_keptRing_13 : decode cX2_keptRing 13 = .ok (.aload_n 0, 1) := by decide +kernel
theorem dX2_keptRing_14 : decode cX2_keptRing 14 = .ok (.getfield 16, 3) := by decide +kernel
theorem dX2_keptRing_17 : decode cX2_keptRing 17 = .ok (.arraylength, 1) := by decide +kernel
theorem dX2_keptRing_18 : decode cX2_keptRing 18 = .ok (.if_icmp .lt 13, 3) := by decide +kernel
theorem dX2_keptRing_21 : decode cX2_keptRing 21 = .ok (.new 221, 3) := by decide +kernel
theorem dX2_keptRing_24 : decode cX2_keptRing 24 = .ok (.dup, 1) := by decide +kernel
theorem dX2_keptRing_25 : decode cX2_keptRing 25 = .ok (.ldc 232, 2) := by decide +kernel
theorem dX2_keptRing_27 : decode cX2_keptRing 27 = .ok (.invokespecial 225, 3) := by decide +kernel
theorem dX2_keptRing_30 : decode cX2_keptRing 30 = .ok (.athrow, 1) := by decide +kernel
theorem dX2_keptRing_31 : decode cX2_keptRing 31 = .ok (.aload_n 0, 1) := by decide +kernel
theorem dX2_keptRing_32 : decode cX2_keptRing 32 = .ok (.getfield 16, 3) := by decide +kernel
theorem dX2_keptRing_35 : decode cX2_keptRing 35 = .ok (.iload_n 1, 1) := by decide +kernel
theorem dX2_keptRing_36 : decode cX2_keptRing 36 = .ok (.aaload, 1) := by decide +kernel
theorem dX2_keptRing_37 : decode cX2_keptRing 37 = .ok (.astore_n 2, 1) := by decide +kernel
theorem dX2_keptRing_38 : decode cX2_keptRing 38 = .ok (.aload_n 2, 1) := by decide +kernel
theorem dX2_keptRing_39 : decode cX2_keptRing 39 = .ok (.ifnonnull 13, 3) := by decide +kernel
theorem dX2_keptRing_42 : decode cX2_keptRing 42 = .ok (.new 221, 3) := by decide +kernel
theorem dX2_keptRing_45 : decode cX2_keptRing 45 = .ok (.dup, 1) := by decide +kernel
theorem dX2_keptRing_46 : decode cX2_keptRing 46 = .ok (.ldc 232, 2) := by decide +kernel
theorem dX2_keptRing_48 : decode cX2_keptRing 48 = .ok (.invokespecial 225, 3) := by decide +kernel
theorem dX2_keptRing_51 : decode cX2_keptRing 51 = .ok (.athrow, 1) := by decide +kernel
theorem dX2_keptRing_52 : decode cX2_keptRing 52 = .ok (.aload_n 2, 1) := by decide +kernel
theorem dX2_keptRing_53 : decode cX2_keptRing 53 = .ok (.areturn, 1) := by decide +kernel
set_option maxRecDepth 20000 in
theorem ggX2_fewestTo_X0_canBecome : GoodIn wsX2_fewestTo wsX0_canBecome := goodIn_r _ [7, 8, 9, 10, 6, 11, 12, 13, 14, 15, 16, 17, 18, 19, 20, 21, 22, 23, 24, 25, 67, 68] (by decide +kernel) (by decide +kernel)
set_option maxRecDepth 20000 in
theorem gX2_fewestTo_X0_canBecome : GoodIn wsX2_fewestTo (wsV RX2 130 RX0 yX0_canBecome wsX0_canBecome) := goodIn_app (goodIn_of _ (by decide +kernel)) ggX2_fewestTo_X0_canBecome
set_option maxRecDepth 20000 in
theorem ggX2_fewestTo_X1_find : GoodIn wsX2_fewestTo wsX1_find := goodIn_r _ [30, 31, 32, 33, 34, 35, 6, 36, 12, 37, 38, 39, 29, 40, 41, 14, 15, 16, 17, 69, 70, 67, 68] (by decide +kernel) (by decide +kernel)
set_option maxRecDepth 20000 in
theorem gX2_fewestTo_X1_find : GoodIn wsX2_fewestTo (wsV RX2 134 RX1 yX1_find wsX1_find) := goodIn_app (goodIn_of _ (by decide +kernel)) ggX2_fewestTo_X1_find
set_option maxRecDepth 20000 in
theorem ggX2_fewestTo_X1_fewest : GoodIn wsX2_fewestTo wsX1_fewest := goodIn_r _ [45, 31, 46, 47, 48, 49, 50, 51, 52, 29, 53, 32, 54, 55, 56, 57, 58, 59, 60, 69, 70] (by decide +kernel) (by decide +kernel)
set_option maxRecDepth 20000 in
theorem gX2_fewestTo_X1_fewest : GoodIn wsX2_fewestTo (wsV RX2 234 RX1 yX1_fewest wsX1_fewest) := goodIn_app (goodIn_of _ (by decide +kernel)) ggX2_fewestTo_X1_fewest
theorem dX2_fewestTo_0 : decode cX2_fewestTo 0 = .ok (.aload_n 0, 1) := by decide +kernel
theorem dX2_fewestTo_1 : decode cX2_fewestTo 1 = .ok (.getfield 10, 3) := by decide +kernel
theorem dX2_fewestTo_4 : decode cX2_fewestTo 4 = .ok (.aload_n 1, 1) := by decide +kernel
theorem dX2_fewestTo_5 : decode cX2_fewestTo 5 = .ok (.invokevirtual 130, 3) := by decide +kernel
theorem dX2_fewestTo_8 : decode cX2_fewestTo 8 = .ok (.ifCond .ne 5, 3) := by decide +kernel
theorem dX2_fewestTo_11 : decode cX2_fewestTo 11 = .ok (.iconst (-1), 1) := by decide +kernel
theorem dX2_fewestTo_12 : decode cX2_fewestTo 12 = .ok (.ireturn, 1) := by decide +kernel
theorem dX2_fewestTo_13 : decode cX2_fewestTo 13 = .ok (.aload_n 0, 1) := by decide +kernel
theorem dX2_fewestTo_14 : decode cX2_fewestTo 14 = .ok (.getfield 33, 3) := by decide +kernel
theorem dX2_fewestTo_17 : decode cX2_fewestTo 17 = .ok (.aload_n 0, 1) := by decide +kernel
theorem dX2_fewestTo_18 : decode cX2_fewestTo 18 = .ok (.getfield 10, 3) := by decide +kernel
theorem dX2_fewestTo_21 : decode cX2_fewestTo 21 = .ok (.aload_n 1, 1) := by decide +kernel
theorem dX2_fewestTo_22 : decode cX2_fewestTo 22 = .ok (.invokevirtual 134, 3) := by decide +kernel
theorem dX2_fewestTo_25 : decode cX2_fewestTo 25 = .ok (.aload_n 0, 1) := by decide +kernel
theorem dX2_fewestTo_26 : decode cX2_fewestTo 26 = .ok (.getfield 33, 3) := by decide +kernel
theorem dX2_fewestTo_29 : decode cX2_fewestTo 29 = .ok (.invokevirtual 234, 3) := by decide +kernel
theorem dX2_fewestTo_32 : decode cX2_fewestTo 32 = .ok (.ireturn, 1) := by decide +kernel
set_option maxRecDepth 20000 in
theorem ggX2_tryToRest_X0_copyFrom : GoodIn wsX2_tryToRest wsX0_copyFrom := goodIn_r _ [7, 8, 9, 10, 11, 12, 6, 13, 14, 15, 16, 17, 49, 50] (by decide +kernel) (by decide +kernel)
set_option maxRecDepth 20000 in
theorem gX2_tryToRest_X0_copyFrom : GoodIn wsX2_tryToRest (wsV RX2 89 RX0 yX0_copyFrom wsX0_copyFrom) := goodIn_app (goodIn_of _ (by decide +kernel)) ggX2_tryToRest_X0_copyFrom
set_option maxRecDepth 20000 in
theorem ggX2_tryToRest_X0_settleBy : GoodIn wsX2_tryToRest wsX0_settleBy := goodIn_r _ [21, 22, 23, 24, 6, 25, 8, 26, 27, 28, 29, 10, 11, 12, 13, 9, 30, 31, 32, 33, 34, 35, 36, 37, 38, 39, 40, 41, 14, 15, 16, 17, 49, 50] (by decide +kernel) (by decide +kernel)
set_option maxRecDepth 20000 in
theorem gX2_tryToRest_X0_settleBy : GoodIn wsX2_tryToRest (wsV RX2 95 RX0 yX0_settleBy wsX0_settleBy) := goodIn_app (goodIn_of _ (by decide +kernel)) ggX2_tryToRest_X0_settleBy
set_option maxRecDepth 20000 in
theorem ggX2_tryToRest_X0_firstSteep : GoodIn wsX2_tryToRest wsX0_firstSteep := goodIn_r _ [25, 8, 26, 27, 28, 6, 29, 10, 11, 12, 13, 9, 30, 31, 32, 33, 49, 50] (by decide +kernel) (by decide +kernel)
set_option maxRecDepth 20000 in
theorem gX2_tryToRest_X0_firstSteep : GoodIn wsX2_tryToRest (wsV RX2 121 RX0 yX0_firstSteep wsX0_firstSteep) := goodIn_app (goodIn_of _ (by decide +kernel)) ggX2_tryToRest_X0_firstSteep
theorem dX2_tryToRest_0 : decode cX2_tryToRest 0 = .ok (.aload_n 0, 1) := by decide +kernel
theorem dX2_tryToRest_1 : decode cX2_tryToRest 1 = .ok (.getfield 27, 3) := by decide +kernel
theorem dX2_tryToRest_4 : decode cX2_tryToRest 4 = .ok (.aload_n 0, 1) := by decide +kernel
theorem dX2_tryToRest_5 : decode cX2_tryToRest 5 = .ok (.getfield 10, 3) := by decide +kernel
theorem dX2_tryToRest_8 : decode cX2_tryToRest 8 = .ok (.invokevirtual 89, 3) := by decide +kernel
theorem dX2_tryToRest_11 : decode cX2_tryToRest 11 = .ok (.aload_n 0, 1) := by decide +kernel
theorem dX2_tryToRest_12 : decode cX2_tryToRest 12 = .ok (.getfield 27, 3) := by decide +kernel
theorem dX2_tryToRest_15 : decode cX2_tryToRest 15 = .ok (.sipush 300, 3) := by decide +kernel
theorem dX2_tryToRest_18 : decode cX2_tryToRest 18 = .ok (.invokevirtual 95, 3) := by decide +kernel
theorem dX2_tryToRest_21 : decode cX2_tryToRest 21 = .ok (.istore_n 1, 1) := by decide +kernel
theorem dX2_tryToRest_22 : decode cX2_tryToRest 22 = .ok (.aload_n 0, 1) := by decide +kernel
theorem dX2_tryToRest_23 : decode cX2_tryToRest 23 = .ok (.getfield 27, 3) := by decide +kernel
theorem dX2_tryToRest_26 : decode cX2_tryToRest 26 = .ok (.invokevirtual 121, 3) := by decide +kernel
theorem dX2_tryToRest_29 : decode cX2_tryToRest 29 = .ok (.ifCond .ge 7, 3) := by decide +kernel
theorem dX2_tryToRest_32 : decode cX2_tryToRest 32 = .ok (.iload_n 1, 1) := by decide +kernel
theorem dX2_tryToRest_33 : decode cX2_tryToRest 33 = .ok (.goto 4, 3) := by decide +kernel
theorem dX2_tryToRest_36 : decode cX2_tryToRest 36 = .ok (.iconst (-1), 1) := by decide +kernel
theorem dX2_tryToRest_37 : decode cX2_tryToRest 37 = .ok (.ireturn, 1) := by decide +kernel
set_option maxRecDepth 20000 in
theorem ggX2_spanAfter_X0_copyFrom : GoodIn wsX2_spanAfter wsX0_copyFrom := goodIn_r _ [7, 8, 9, 10, 11, 12, 6, 13, 14, 15, 16, 17, 48, 49] (by decide +kernel) (by decide +kernel)
set_option maxRecDepth 20000 in
theorem gX2_spanAfter_X0_copyFrom : GoodIn wsX2_spanAfter (wsV RX2 89 RX0 yX0_copyFrom wsX0_copyFrom) := goodIn_app (goodIn_of _ (by decide +kernel)) ggX2_spanAfter_X0_copyFrom
set_option maxRecDepth 20000 in
theorem ggX2_spanAfter_X0_tipBy : GoodIn wsX2_spanAfter wsX0_tipBy := goodIn_r _ [21, 22, 23, 24, 6, 25, 10, 11, 12, 13, 9, 14, 15, 16, 17, 26, 27, 28, 29, 8, 48, 49] (by decide +kernel) (by decide +kernel)
set_option maxRecDepth 20000 in
theorem gX2_spanAfter_X0_tipBy : GoodIn wsX2_spanAfter (wsV RX2 69 RX0 yX0_tipBy wsX0_tipBy) := goodIn_app (goodIn_of _ (by decide +kernel)) ggX2_spanAfter_X0_tipBy
set_option maxRecDepth 20000 in
theorem ggX2_spanAfter_X0_span : GoodIn wsX2_spanAfter wsX0_span := goodIn_r _ [33, 8, 34, 35, 36, 37, 10, 11, 12, 6, 13, 9, 38, 39, 40, 41, 48, 49] (by decide +kernel) (by decide +kernel)
set_option maxRecDepth 20000 in
theorem gX2_spanAfter_X0_span : GoodIn wsX2_spanAfter (wsV RX2 111 RX0 yX0_span wsX0_span) := goodIn_app (goodIn_of _ (by decide +kernel)) ggX2_spanAfter_X0_span
theorem dX2_spanAfter_0 : decode cX2_spanAfter 0 = .ok (.aload_n 0, 1) := by decide +kernel
theorem dX2_spanAfter_1 : decode cX2_spanAfter 1 = .ok (.getfield 27, 3) := by decide +kernel
theorem dX2_spanAfter_4 : decode cX2_spanAfter 4 = .ok (.aload_n 0, 1) := by decide +kernel
theorem dX2_spanAfter_5 : decode cX2_spanAfter 5 = .ok (.getfield 10, 3) := by decide +kernel
theorem dX2_spanAfter_8 : decode cX2_spanAfter 8 = .ok (.invokevirtual 89, 3) := by decide +kernel
theorem dX2_spanAfter_11 : decode cX2_spanAfter 11 = .ok (.aload_n 0, 1) := by decide +kernel
theorem dX2_spanAfter_12 : decode cX2_spanAfter 12 = .ok (.getfield 27, 3) := by decide +kernel
theorem dX2_spanAfter_15 : decode cX2_spanAfter 15 = .ok (.iload_n 1, 1) := by decide +kernel
theorem dX2_spanAfter_16 : decode cX2_spanAfter 16 = .ok (.iload_n 2, 1) := by decide +kernel
theorem dX2_spanAfter_17 : decode cX2_spanAfter 17 = .ok (.invokevirtual 69, 3) := by decide +kernel
theorem dX2_spanAfter_20 : decode cX2_spanAfter 20 = .ok (.aload_n 0, 1) := by decide +kernel
theorem dX2_spanAfter_21 : decode cX2_spanAfter 21 = .ok (.getfield 27, 3) := by decide +kernel
theorem dX2_spanAfter_24 : decode cX2_spanAfter 24 = .ok (.invokevirtual 111, 3) := by decide +kernel
theorem dX2_spanAfter_27 : decode cX2_spanAfter 27 = .ok (.ireturn, 1) := by decide +kernel
set_option maxRecDepth 20000 in
theorem ggX2_firstPlaceFor_X0_size : GoodIn wsX2_firstPlaceFor wsX0_size := goodIn_r _ [7, 8, 45, 46] (by decide +kernel) (by decide +kernel)
set_option maxRecDepth 20000 in
theorem gX2_firstPlaceFor_X0_size : GoodIn wsX2_firstPlaceFor (wsV RX2 44 RX0 yX0_size wsX0_size) := goodIn_app (goodIn_of _ (by decide +kernel)) ggX2_firstPlaceFor_X0_size
set_option maxRecDepth 20000 in
theorem ggX2_firstPlaceFor_X0_copyFrom : GoodIn wsX2_firstPlaceFor wsX0_copyFrom := goodIn_r _ [12, 8, 13, 14, 15, 16, 6, 17, 18, 19, 20, 21, 45, 46] (by decide +kernel) (by decide +kernel)
set_option maxRecDepth 20000 in
theorem gX2_firstPlaceFor_X0_copyFrom : GoodIn wsX2_firstPlaceFor (wsV RX2 89 RX0 yX0_copyFrom wsX0_copyFrom) := goodIn_app (goodIn_of _ (by decide +kernel)) ggX2_firstPlaceFor_X0_copyFrom
set_option maxRecDepth 20000 in
theorem ggX2_firstPlaceFor_X0_write : GoodIn wsX2_firstPlaceFor wsX0_write := goodIn_r _ [21, 13, 45, 46] (by decide +kernel) (by decide +kernel)
set_option maxRecDepth 20000 in
theorem gX2_firstPlaceFor_X0_write : GoodIn wsX2_firstPlaceFor (wsV RX2 62 RX0 yX0_write wsX0_write) := goodIn_app (goodIn_of _ (by decide +kernel)) ggX2_firstPlaceFor_X0_write
set_option maxRecDepth 20000 in
theorem ggX2_firstPlaceFor_X0_canBecome : GoodIn wsX2_firstPlaceFor wsX0_canBecome := goodIn_r _ [26, 27, 28, 29, 6, 30, 8, 14, 15, 16, 17, 13, 31, 32, 33, 34, 35, 36, 37, 38, 45, 46] (by decide +kernel) (by decide +kernel)
set_option maxRecDepth 20000 in
theorem gX2_firstPlaceFor_X0_canBecome : GoodIn wsX2_firstPlaceFor (wsV RX2 130 RX0 yX0_canBecome wsX0_canBecome) := goodIn_app (goodIn_of _ (by decide +kernel)) ggX2_firstPlaceFor_X0_canBecome
theorem dX2_firstPlaceFor_0 : decode cX2_firstPlaceFor 0 = .ok (.iconst 0, 1) := by decide +kernel
theorem dX2_firstPlaceFor_1 : decode cX2_firstPlaceFor 1 = .ok (.istore_n 3, 1) := by decide +kernel
theorem dX2_firstPlaceFor_2 : decode cX2_firstPlaceFor 2 = .ok (.iload_n 3, 1) := by decide +kernel
theorem dX2_firstPlaceFor_3 : decode cX2_firstPlaceFor 3 = .ok (.aload_n 0, 1) := by decide +kernel
theorem dX2_firstPlaceFor_4 : decode cX2_firstPlaceFor 4 = .ok (.getfield 10, 3) := by decide +kernel
theorem dX2_firstPlaceFor_7 : decode cX2_firstPlaceFor 7 = .ok (.invokevirtual 44, 3) := by decide +kernel
theorem dX2_firstPlaceFor_10 : decode cX2_firstPlaceFor 10 = .ok (.if_icmp .ge 42, 3) := by decide +kernel
theorem dX2_firstPlaceFor_13 : decode cX2_firstPlaceFor 13 = .ok (.aload_n 0, 1) := by decide +kernel
theorem dX2_firstPlaceFor_14 : decode cX2_firstPlaceFor 14 = .ok (.getfield 27, 3) := by decide +kernel
theorem dX2_firstPlaceFor_17 : decode cX2_firstPlaceFor 17 = .ok (.aload_n 0, 1) := by decide +kernel
theorem dX2_firstPlaceFor_18 : decode cX2_firstPlaceFor 18 = .ok (.getfield 10, 3) := by decide +kernel
theorem dX2_firstPlaceFor_21 : decode cX2_firstPlaceFor 21 = .ok (.invokevirtual 89, 3) := by decide +kernel
theorem dX2_firstPlaceFor_24 : decode cX2_firstPlaceFor 24 = .ok (.aload_n 0, 1) := by decide +kernel
theorem dX2_firstPlaceFor_25 : decode cX2_firstPlaceFor 25 = .ok (.getfield 27, 3) := by decide +kernel
theorem dX2_firstPlaceFor_28 : decode cX2_firstPlaceFor 28 = .ok (.iload_n 3, 1) := by decide +kernel
theorem dX2_firstPlaceFor_29 : decode cX2_firstPlaceFor 29 = .ok (.iload_n 1, 1) := by decide +kernel
theorem dX2_firstPlaceFor_30 : decode cX2_firstPlaceFor 30 = .ok (.invokevirtual 62, 3) := by decide +kernel
theorem dX2_firstPlaceFor_33 : decode cX2_firstPlaceFor 33 = .ok (.aload_n 0, 1) := by decide +kernel
theorem dX2_firstPlaceFor_34 : decode cX2_firstPlaceFor 34 = .ok (.getfield 27, 3) := by decide +kernel
theorem dX2_firstPlaceFor_37 : decode cX2_firstPlaceFor 37 = .ok (.aload_n 2, 1) := by decide +kernel
theorem dX2_firstPlaceFor_38 : decode cX2_firstPlaceFor 38 = .ok (.invokevirtual 130, 3) := by decide +kernel
theorem dX2_firstPlaceFor_41 : decode cX2_firstPlaceFor 41 = .ok (.ifCond .eq 5, 3) := by decide +kernel
theorem dX2_firstPlaceFor_44 : decode cX2_firstPlaceFor 44 = .ok (.iload_n 3, 1) := by decide +kernel
theorem dX2_firstPlaceFor_45 : decode cX2_firstPlaceFor 45 = .ok (.ireturn, 1) := by decide +kernel
theorem dX2_firstPlaceFor_46 : decode cX2_firstPlaceFor 46 = .ok (.iinc 3 1, 3) := by decide +kernel
theorem dX2_firstPlaceFor_49 : decode cX2_firstPlaceFor 49 = .ok (.goto (-47), 3) := by decide +kernel
theorem dX2_firstPlaceFor_52 : decode cX2_firstPlaceFor 52 = .ok (.iconst (-1), 1) := by decide +kernel
theorem dX2_firstPlaceFor_53 : decode cX2_firstPlaceFor 53 = .ok (.ireturn, 1) := by decide +kernel
