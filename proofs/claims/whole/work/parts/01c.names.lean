theorem dX4_spread_26 : decode cX4_spread 26 = .ok (.istore_n 3, 1) := by decide +kernel
theorem dX4_spread_27 : decode cX4_spread 27 = .ok (.iload_n 3, 1) := by decide +kernel
theorem dX4_spread_28 : decode cX4_spread 28 = .ok (.aload_n 0, 1) := by decide +kernel
theorem dX4_spread_29 : decode cX4_spread 29 = .ok (.getfield 28, 3) := by decide +kernel
theorem dX4_spread_32 : decode cX4_spread 32 = .ok (.if_icmp .ge 16, 3) := by decide +kernel
theorem dX4_spread_35 : decode cX4_spread 35 = .ok (.aload_n 0, 1) := by decide +kernel
theorem dX4_spread_36 : decode cX4_spread 36 = .ok (.iload_n 2, 1) := by decide +kernel
theorem dX4_spread_37 : decode cX4_spread 37 = .ok (.iload_n 3, 1) := by decide +kernel
theorem dX4_spread_38 : decode cX4_spread 38 = .ok (.iconst 2, 1) := by decide +kernel
theorem dX4_spread_39 : decode cX4_spread 39 = .ok (.invokevirtual 32, 3) := by decide +kernel
theorem dX4_spread_42 : decode cX4_spread 42 = .ok (.iinc 3 1, 3) := by decide +kernel
theorem dX4_spread_45 : decode cX4_spread 45 = .ok (.goto (-18), 3) := by decide +kernel
theorem dX4_spread_48 : decode cX4_spread 48 = .ok (.iinc 2 1, 3) := by decide +kernel
theorem dX4_spread_51 : decode cX4_spread 51 = .ok (.goto (-36), 3) := by decide +kernel
theorem dX4_spread_54 : decode cX4_spread 54 = .ok (.return_, 1) := by decide +kernel
theorem dX4_become_0 : decode cX4_become 0 = .ok (.aload_n 0, 1) := by decide +kernel
theorem dX4_become_1 : decode cX4_become 1 = .ok (.aload_n 1, 1) := by decide +kernel
theorem dX4_become_2 : decode cX4_become 2 = .ok (.getfield 28, 3) := by decide +kernel
theorem dX4_become_5 : decode cX4_become 5 = .ok (.putfield 28, 3) := by decide +kernel
theorem dX4_become_8 : decode cX4_become 8 = .ok (.aload_n 1, 1) := by decide +kernel
theorem dX4_become_9 : decode cX4_become 9 = .ok (.getfield 9, 3) := by decide +kernel
theorem dX4_become_12 : decode cX4_become 12 = .ok (.iconst 0, 1) := by decide +kernel
theorem dX4_become_13 : decode cX4_become 13 = .ok (.aload_n 0, 1) := by decide +kernel
theorem dX4_become_14 : decode cX4_become 14 = .ok (.getfield 9, 3) := by decide +kernel
theorem dX4_become_17 : decode cX4_become 17 = .ok (.iconst 0, 1) := by decide +kernel
theorem dX4_become_18 : decode cX4_become 18 = .ok (.aload_n 0, 1) := by decide +kernel
theorem dX4_become_19 : decode cX4_become 19 = .ok (.getfield 9, 3) := by decide +kernel
theorem dX4_become_22 : decode cX4_become 22 = .ok (.arraylength, 1) := by decide +kernel
theorem dX4_become_23 : decode cX4_become 23 = .ok (.invokestatic 36, 3) := by decide +kernel
theorem dX4_become_26 : decode cX4_become 26 = .ok (.return_, 1) := by decide +kernel
theorem dX4_has_0 : decode cX4_has 0 = .ok (.iload_n 1, 1) := by decide +kernel
theorem dX4_has_1 : decode cX4_has 1 = .ok (.ifCond .lt 15, 3) := by decide +kernel
theorem dX4_has_4 : decode cX4_has 4 = .ok (.iload_n 1, 1) := by decide +kernel
theorem dX4_has_5 : decode cX4_has 5 = .ok (.aload_n 0, 1) := by decide +kernel
theorem dX4_has_6 : decode cX4_has 6 = .ok (.getfield 28, 3) := by decide +kernel
theorem dX4_has_9 : decode cX4_has 9 = .ok (.if_icmp .ge 7, 3) := by decide +kernel
theorem dX4_has_12 : decode cX4_has 12 = .ok (.iconst 1, 1) := by decide +kernel
theorem dX4_has_13 : decode cX4_has 13 = .ok (.goto 4, 3) := by decide +kernel
theorem dX4_has_16 : decode cX4_has 16 = .ok (.iconst 0, 1) := by decide +kernel
theorem dX4_has_17 : decode cX4_has 17 = .ok (.ireturn, 1) := by decide +kernel
theorem dX4_areTwo_0 : decode cX4_areTwo 0 = .ok (.iload_n 1, 1) := by decide +kernel
theorem dX4_areTwo_1 : decode cX4_areTwo 1 = .ok (.ifCond .lt 32, 3) := by decide +kernel
theorem dX4_areTwo_4 : decode cX4_areTwo 4 = .ok (.iload_n 1, 1) := by decide +kernel
theorem dX4_areTwo_5 : decode cX4_areTwo 5 = .ok (.aload_n 0, 1) := by decide +kernel
theorem dX4_areTwo_6 : decode cX4_areTwo 6 = .ok (.getfield 28, 3) := by decide +kernel
theorem dX4_areTwo_9 : decode cX4_areTwo 9 = .ok (.if_icmp .ge 24, 3) := by decide +kernel
theorem dX4_areTwo_12 : decode cX4_areTwo 12 = .ok (.iload_n 2, 1) := by decide +kernel
theorem dX4_areTwo_13 : decode cX4_areTwo 13 = .ok (.ifCond .lt 20, 3) := by decide +kernel
theorem dX4_areTwo_16 : decode cX4_areTwo 16 = .ok (.iload_n 2, 1) := by decide +kernel
theorem dX4_areTwo_17 : decode cX4_areTwo 17 = .ok (.aload_n 0, 1) := by decide +kernel
theorem dX4_areTwo_18 : decode cX4_areTwo 18 = .ok (.getfield 28, 3) := by decide +kernel
theorem dX4_areTwo_21 : decode cX4_areTwo 21 = .ok (.if_icmp .ge 12, 3) := by decide +kernel
theorem dX4_areTwo_24 : decode cX4_areTwo 24 = .ok (.iload_n 1, 1) := by decide +kernel
theorem dX4_areTwo_25 : decode cX4_areTwo 25 = .ok (.iload_n 2, 1) := by decide +kernel
theorem dX4_areTwo_26 : decode cX4_areTwo 26 = .ok (.if_icmp .eq 7, 3) := by decide +kernel
theorem dX4_areTwo_29 : decode cX4_areTwo 29 = .ok (.iconst 1, 1) := by decide +kernel
theorem dX4_areTwo_30 : decode cX4_areTwo 30 = .ok (.goto 4, 3) := by decide +kernel
theorem dX4_areTwo_33 : decode cX4_areTwo 33 = .ok (.iconst 0, 1) := by decide +kernel
theorem dX4_areTwo_34 : decode cX4_areTwo 34 = .ok (.ireturn, 1) := by decide +kernel
theorem dX4_gap_0 : decode cX4_gap 0 = .ok (.iload_n 1, 1) := by decide +kernel
theorem dX4_gap_1 : decode cX4_gap 1 = .ok (.ifCond .lt 27, 3) := by decide +kernel
theorem dX4_gap_4 : decode cX4_gap 4 = .ok (.iload_n 1, 1) := by decide +kernel
theorem dX4_gap_5 : decode cX4_gap 5 = .ok (.aload_n 0, 1) := by decide +kernel
theorem dX4_gap_6 : decode cX4_gap 6 = .ok (.getfield 28, 3) := by decide +kernel
theorem dX4_gap_9 : decode cX4_gap 9 = .ok (.if_icmp .ge 19, 3) := by decide +kernel
theorem dX4_gap_12 : decode cX4_gap 12 = .ok (.iload_n 2, 1) := by decide +kernel
theorem dX4_gap_13 : decode cX4_gap 13 = .ok (.ifCond .lt 15, 3) := by decide +kernel
theorem dX4_gap_16 : decode cX4_gap 16 = .ok (.iload_n 2, 1) := by decide +kernel
theorem dX4_gap_17 : decode cX4_gap 17 = .ok (.aload_n 0, 1) := by decide +kernel
theorem dX4_gap_18 : decode cX4_gap 18 = .ok (.getfield 28, 3) := by decide +kernel
theorem dX4_gap_21 : decode cX4_gap 21 = .ok (.if_icmp .ge 7, 3) := by decide +kernel
theorem dX4_gap_24 : decode cX4_gap 24 = .ok (.iconst 1, 1) := by decide +kernel
theorem dX4_gap_25 : decode cX4_gap 25 = .ok (.goto 4, 3) := by decide +kernel
theorem dX4_gap_28 : decode cX4_gap 28 = .ok (.iconst 0, 1) := by decide +kernel
theorem dX4_gap_29 : decode cX4_gap 29 = .ok (.istore_n 3, 1) := by decide +kernel
theorem dX4_gap_30 : decode cX4_gap 30 = .ok (.iload_n 3, 1) := by decide +kernel
theorem dX4_gap_31 : decode cX4_gap 31 = .ok (.ifCond .eq 16, 3) := by decide +kernel
theorem dX4_gap_34 : decode cX4_gap 34 = .ok (.aload_n 0, 1) := by decide +kernel
theorem dX4_gap_35 : decode cX4_gap 35 = .ok (.getfield 9, 3) := by decide +kernel
theorem dX4_gap_38 : decode cX4_gap 38 = .ok (.iconst 5, 1) := by decide +kernel
theorem dX4_gap_39 : decode cX4_gap 39 = .ok (.iload_n 1, 1) := by decide +kernel
theorem dX4_gap_40 : decode cX4_gap 40 = .ok (.imul, 1) := by decide +kernel
theorem dX4_gap_41 : decode cX4_gap 41 = .ok (.iload_n 2, 1) := by decide +kernel
theorem dX4_gap_42 : decode cX4_gap 42 = .ok (.iadd, 1) := by decide +kernel
theorem dX4_gap_43 : decode cX4_gap 43 = .ok (.iaload, 1) := by decide +kernel
theorem dX4_gap_44 : decode cX4_gap 44 = .ok (.goto 4, 3) := by decide +kernel
theorem dX4_gap_47 : decode cX4_gap 47 = .ok (.iconst 0, 1) := by decide +kernel
theorem dX4_gap_48 : decode cX4_gap 48 = .ok (.ireturn, 1) := by decide +kernel
set_option maxRecDepth 20000 in
theorem ggX4_put_X4_areTwo : GoodIn wsX4_put wsX4_areTwo := goodIn_r _ [6, 7, 8, 9] (by decide +kernel) (by decide +kernel)
set_option maxRecDepth 20000 in
theorem gX4_put_X4_areTwo : GoodIn wsX4_put (wsV RX4 42 RX4 yX4_areTwo wsX4_areTwo) := goodIn_app (goodIn_of _ (by decide +kernel)) ggX4_put_X4_areTwo
theorem dX4_put_0 : decode cX4_put 0 = .ok (.aload_n 0, 1) := by decide +kernel
theorem dX4_put_1 : decode cX4_put 1 = .ok (.iload_n 1, 1) := by decide +kernel
theorem dX4_put_2 : decode cX4_put 2 = .ok (.iload_n 2, 1) := by decide +kernel
theorem dX4_put_3 : decode cX4_put 3 = .ok (.invokevirtual 42, 3) := by decide +kernel
theorem dX4_put_6 : decode cX4_put 6 = .ok (.ifCond .eq 25, 3) := by decide +kernel
theorem dX4_put_9 : decode cX4_put 9 = .ok (.aload_n 0, 1) := by decide +kernel
theorem dX4_put_10 : decode cX4_put 10 = .ok (.getfield 9, 3) := by decide +kernel
theorem dX4_put_13 : decode cX4_put 13 = .ok (.iconst 5, 1) := by decide +kernel
theorem dX4_put_14 : decode cX4_put 14 = .ok (.iload_n 1, 1) := by decide +kernel
theorem dX4_put_15 : decode cX4_put 15 = .ok (.imul, 1) := by decide +kernel
theorem dX4_put_16 : decode cX4_put 16 = .ok (.iload_n 2, 1) := by decide +kernel
theorem dX4_put_17 : decode cX4_put 17 = .ok (.iadd, 1) := by decide +kernel
theorem dX4_put_18 : decode cX4_put 18 = .ok (.iload_n 3, 1) := by decide +kernel
theorem dX4_put_19 : decode cX4_put 19 = .ok (.iastore, 1) := by decide +kernel
theorem dX4_put_20 : decode cX4_put 20 = .ok (.aload_n 0, 1) := by decide +kernel
theorem dX4_put_21 : decode cX4_put 21 = .ok (.getfield 9, 3) := by decide +kernel
theorem dX4_put_24 : decode cX4_put 24 = .ok (.iconst 5, 1) := by decide +kernel
theorem dX4_put_25 : decode cX4_put 25 = .ok (.iload_n 2, 1) := by decide +kernel
theorem dX4_put_26 : decode cX4_put 26 = .ok (.imul, 1) := by decide +kernel
theorem dX4_put_27 : decode cX4_put 27 = .ok (.iload_n 1, 1) := by decide +kernel
theorem dX4_put_28 : decode cX4_put 28 = .ok (.iadd, 1) := by decide +kernel
theorem dX4_put_29 : decode cX4_put 29 = .ok (.iload_n 3, 1) := by decide +kernel
theorem dX4_put_30 : decode cX4_put 30 = .ok (.iastore, 1) := by decide +kernel
theorem dX4_put_31 : decode cX4_put 31 = .ok (.return_, 1) := by decide +kernel
theorem dX4_manyTwos_0 : decode cX4_manyTwos 0 = .ok (.aload_n 0, 1) := by decide +kernel
theorem dX4_manyTwos_1 : decode cX4_manyTwos 1 = .ok (.getfield 28, 3) := by decide +kernel
theorem dX4_manyTwos_4 : decode cX4_manyTwos 4 = .ok (.aload_n 0, 1) := by decide +kernel
theorem dX4_manyTwos_5 : decode cX4_manyTwos 5 = .ok (.getfield 28, 3) := by decide +kernel
theorem dX4_manyTwos_8 : decode cX4_manyTwos 8 = .ok (.iconst 1, 1) := by decide +kernel
theorem dX4_manyTwos_9 : decode cX4_manyTwos 9 = .ok (.isub, 1) := by decide +kernel
theorem dX4_manyTwos_10 : decode cX4_manyTwos 10 = .ok (.imul, 1) := by decide +kernel
theorem dX4_manyTwos_11 : decode cX4_manyTwos 11 = .ok (.iconst 2, 1) := by decide +kernel
theorem dX4_manyTwos_12 : decode cX4_manyTwos 12 = .ok (.idiv, 1) := by decide +kernel
theorem dX4_manyTwos_13 : decode cX4_manyTwos 13 = .ok (.ireturn, 1) := by decide +kernel
set_option maxRecDepth 20000 in
theorem ggX4_otherwiseThan_X4_gap : GoodIn wsX4_otherwiseThan wsX4_gap := goodIn_r _ [6, 1, 7, 8, 9] (by decide +kernel) (by decide +kernel)
set_option maxRecDepth 20000 in
theorem gX4_otherwiseThan_X4_gap : GoodIn wsX4_otherwiseThan (wsV RX4 46 RX4 yX4_gap wsX4_gap) := goodIn_app (goodIn_of _ (by decide +kernel)) ggX4_otherwiseThan_X4_gap
theorem dX4_otherwiseThan_0 : decode cX4_otherwiseThan 0 = .ok (.iconst 0, 1) := by decide +kernel
theorem dX4_otherwiseThan_1 : decode cX4_otherwiseThan 1 = .ok (.istore_n 2, 1) := by decide +kernel
theorem dX4_otherwiseThan_2 : decode cX4_otherwiseThan 2 = .ok (.iconst 0, 1) := by decide +kernel
theorem dX4_otherwiseThan_3 : decode cX4_otherwiseThan 3 = .ok (.istore_n 3, 1) := by decide +kernel
theorem dX4_otherwiseThan_4 : decode cX4_otherwiseThan 4 = .ok (.iload_n 3, 1) := by decide +kernel
theorem dX4_otherwiseThan_5 : decode cX4_otherwiseThan 5 = .ok (.aload_n 0, 1) := by decide +kernel
theorem dX4_otherwiseThan_6 : decode cX4_otherwiseThan 6 = .ok (.getfield 28, 3) := by decide +kernel
theorem dX4_otherwiseThan_9 : decode cX4_otherwiseThan 9 = .ok (.if_icmp .ge 54, 3) := by decide +kernel
theorem dX4_otherwiseThan_12 : decode cX4_otherwiseThan 12 = .ok (.iload_n 3, 1) := by decide +kernel
theorem dX4_otherwiseThan_13 : decode cX4_otherwiseThan 13 = .ok (.iconst 1, 1) := by decide +kernel
theorem dX4_otherwiseThan_14 : decode cX4_otherwiseThan 14 = .ok (.iadd, 1) := by decide +kernel
theorem dX4_otherwiseThan_15 : decode cX4_otherwiseThan 15 = .ok (.istore 4, 2) := by decide +kernel
theorem dX4_otherwiseThan_17 : decode cX4_otherwiseThan 17 = .ok (.iload 4, 2) := by decide +kernel
theorem dX4_otherwiseThan_19 : decode cX4_otherwiseThan 19 = .ok (.aload_n 0, 1) := by decide +kernel
theorem dX4_otherwiseThan_20 : decode cX4_otherwiseThan 20 = .ok (.getfield 28, 3) := by decide +kernel
theorem dX4_otherwiseThan_23 : decode cX4_otherwiseThan 23 = .ok (.if_icmp .ge 34, 3) := by decide +kernel
theorem dX4_otherwiseThan_26 : decode cX4_otherwiseThan 26 = .ok (.iload_n 2, 1) := by decide +kernel
theorem dX4_otherwiseThan_27 : decode cX4_otherwiseThan 27 = .ok (.aload_n 0, 1) := by decide +kernel
theorem dX4_otherwiseThan_28 : decode cX4_otherwiseThan 28 = .ok (.iload_n 3, 1) := by decide +kernel
theorem dX4_otherwiseThan_29 : decode cX4_otherwiseThan 29 = .ok (.iload 4, 2) := by decide +kernel
theorem dX4_otherwiseThan_31 : decode cX4_otherwiseThan 31 = .ok (.invokevirtual 46, 3) := by decide +kernel
theorem dX4_otherwiseThan_34 : decode cX4_otherwiseThan 34 = .ok (.aload_n 1, 1) := by decide +kernel
theorem dX4_otherwiseThan_35 : decode cX4_otherwiseThan 35 = .ok (.iload_n 3, 1) := by decide +kernel
theorem dX4_otherwiseThan_36 : decode cX4_otherwiseThan 36 = .ok (.iload 4, 2) := by decide +kernel
theorem dX4_otherwiseThan_38 : decode cX4_otherwiseThan 38 = .ok (.invokevirtual 46, 3) := by decide +kernel
theorem dX4_otherwiseThan_41 : decode cX4_otherwiseThan 41 = .ok (.if_icmp .eq 7, 3) := by decide +kernel
theorem dX4_otherwiseThan_44 : decode cX4_otherwiseThan 44 = .ok (.iconst 1, 1) := by decide +kernel
theorem dX4_otherwiseThan_45 : decode cX4_otherwiseThan 45 = .ok (.goto 4, 3) := by decide +kernel
theorem dX4_otherwiseThan_48 : decode cX4_otherwiseThan 48 = .ok (.iconst 0, 1) := by decide +kernel
theorem dX4_otherwiseThan_49 : decode cX4_otherwiseThan 49 = .ok (.iadd, 1) := by decide +kernel
theorem dX4_otherwiseThan_50 : decode cX4_otherwiseThan 50 = .ok (.istore_n 2, 1) := by decide +kernel
theorem dX4_otherwiseThan_51 : decode cX4_otherwiseThan 51 = .ok (.iinc 4 1, 3) := by decide +kernel
theorem dX4_otherwiseThan_54 : decode cX4_otherwiseThan 54 = .ok (.goto (-37), 3) := by decide +kernel
theorem dX4_otherwiseThan_57 : decode cX4_otherwiseThan 57 = .ok (.iinc 3 1, 3) := by decide +kernel
theorem dX4_otherwiseThan_60 : decode cX4_otherwiseThan 60 = .ok (.goto (-56), 3) := by decide +kernel
theorem dX4_otherwiseThan_63 : decode cX4_otherwiseThan 63 = .ok (.iload_n 2, 1) := by decide +kernel
theorem dX4_otherwiseThan_64 : decode cX4_otherwiseThan 64 = .ok (.ireturn, 1) := by decide +kernel
set_option maxRecDepth 20000 in
theorem ggX4_isLike_X4_otherwiseThan : GoodIn wsX4_isLike wsX4_otherwiseThan := goodIn_r _ [6, 1, 7, 8, 9, 5, 10, 11, 12, 13] (by decide +kernel) (by decide +kernel)
set_option maxRecDepth 20000 in
theorem gX4_isLike_X4_otherwiseThan : GoodIn wsX4_isLike (wsV RX4 49 RX4 yX4_otherwiseThan wsX4_otherwiseThan) := goodIn_app (goodIn_of _ (by decide +kernel)) ggX4_isLike_X4_otherwiseThan
theorem dX4_isLike_0 : decode cX4_isLike 0 = .ok (.aload_n 0, 1) := by decide +kernel
theorem dX4_isLike_1 : decode cX4_isLike 1 = .ok (.getfield 28, 3) := by decide +kernel
theorem dX4_isLike_4 : decode cX4_isLike 4 = .ok (.aload_n 1, 1) := by decide +kernel
theorem dX4_isLike_5 : decode cX4_isLike 5 = .ok (.getfield 28, 3) := by decide +kernel
theorem dX4_isLike_8 : decode cX4_isLike 8 = .ok (.if_icmp .ne 15, 3) := by decide +kernel
theorem dX4_isLike_11 : decode cX4_isLike 11 = .ok (.aload_n 0, 1) := by decide +kernel
theorem dX4_isLike_12 : decode cX4_isLike 12 = .ok (.aload_n 1, 1) := by decide +kernel
theorem dX4_isLike_13 : decode cX4_isLike 13 = .ok (.invokevirtual 49, 3) := by decide +kernel
theorem dX4_isLike_16 : decode cX4_isLike 16 = .ok (.ifCond .ne 7, 3) := by decide +kernel
theorem dX4_isLike_19 : decode cX4_isLike 19 = .ok (.iconst 1, 1) := by decide +kernel
theorem dX4_isLike_20 : decode cX4_isLike 20 = .ok (.goto 4, 3) := by decide +kernel
theorem dX4_isLike_23 : decode cX4_isLike 23 = .ok (.iconst 0, 1) := by decide +kernel
theorem dX4_isLike_24 : decode cX4_isLike 24 = .ok (.ireturn, 1) := by decide +kernel
set_option maxRecDepth 20000 in
theorem ggX4_firstBarred_X4_gap : GoodIn wsX4_firstBarred wsX4_gap := goodIn_r _ [6, 1, 7, 8, 9] (by decide +kernel) (by decide +kernel)
set_option maxRecDepth 20000 in
theorem gX4_firstBarred_X4_gap : GoodIn wsX4_firstBarred (wsV RX4 46 RX4 yX4_gap wsX4_gap) := goodIn_app (goodIn_of _ (by decide +kernel)) ggX4_firstBarred_X4_gap
theorem dX4_firstBarred_0 : decode cX4_firstBarred 0 = .ok (.iconst 0, 1) := by decide +kernel
theorem dX4_firstBarred_1 : decode cX4_firstBarred 1 = .ok (.istore_n 1, 1) := by decide +kernel
theorem dX4_firstBarred_2 : decode cX4_firstBarred 2 = .ok (.iload_n 1, 1) := by decide +kernel
theorem dX4_firstBarred_3 : decode cX4_firstBarred 3 = .ok (.aload_n 0, 1) := by decide +kernel
theorem dX4_firstBarred_4 : decode cX4_firstBarred 4 = .ok (.getfield 28, 3) := by decide +kernel
theorem dX4_firstBarred_7 : decode cX4_firstBarred 7 = .ok (.if_icmp .ge 77, 3) := by decide +kernel
theorem dX4_firstBarred_10 : decode cX4_firstBarred 10 = .ok (.iconst 0, 1) := by decide +kernel
theorem dX4_firstBarred_11 : decode cX4_firstBarred 11 = .ok (.istore_n 2, 1) := by decide +kernel
theorem dX4_firstBarred_12 : decode cX4_firstBarred 12 = .ok (.iload_n 2, 1) := by decide +kernel
theorem dX4_firstBarred_13 : decode cX4_firstBarred 13 = .ok (.aload_n 0, 1) := by decide +kernel
theorem dX4_firstBarred_14 : decode cX4_firstBarred 14 = .ok (.getfield 28, 3) := by decide +kernel
theorem dX4_firstBarred_17 : decode cX4_firstBarred 17 = .ok (.if_icmp .ge 61, 3) := by decide +kernel
theorem dX4_firstBarred_20 : decode cX4_firstBarred 20 = .ok (.iload_n 1, 1) := by decide +kernel
theorem dX4_firstBarred_21 : decode cX4_firstBarred 21 = .ok (.iconst 1, 1) := by decide +kernel
theorem dX4_firstBarred_22 : decode cX4_firstBarred 22 = .ok (.iadd, 1) := by decide +kernel
theorem dX4_firstBarred_23 : decode cX4_firstBarred 23 = .ok (.istore_n 3, 1) := by decide +kernel
theorem dX4_firstBarred_24 : decode cX4_firstBarred 24 = .ok (.iload_n 3, 1) := by decide +kernel
theorem dX4_firstBarred_25 : decode cX4_firstBarred 25 = .ok (.aload_n 0, 1) := by decide +kernel
theorem dX4_firstBarred_26 : decode cX4_firstBarred 26 = .ok (.getfield 28, 3) := by decide +kernel
theorem dX4_firstBarred_29 : decode cX4_firstBarred 29 = .ok (.if_icmp .ge 43, 3) := by decide +kernel
theorem dX4_firstBarred_32 : decode cX4_firstBarred 32 = .ok (.aload_n 0, 1) := by decide +kernel
theorem dX4_firstBarred_33 : decode cX4_firstBarred 33 = .ok (.iload_n 1, 1) := by decide +kernel
theorem dX4_firstBarred_34 : decode cX4_firstBarred 34 = .ok (.iload_n 3, 1) := by decide +kernel
theorem dX4_firstBarred_35 : decode cX4_firstBarred 35 = .ok (.invokevirtual 46, 3) := by decide +kernel
theorem dX4_firstBarred_38 : decode cX4_firstBarred 38 = .ok (.aload_n 0, 1) := by decide +kernel
theorem dX4_firstBarred_39 : decode cX4_firstBarred 39 = .ok (.iload_n 1, 1) := by decide +kernel
theorem dX4_firstBarred_40 : decode cX4_firstBarred 40 = .ok (.iload_n 2, 1) := by decide +kernel
theorem dX4_firstBarred_41 : decode cX4_firstBarred 41 = .ok (.invokevirtual 46, 3) := by decide +kernel
theorem dX4_firstBarred_44 : decode cX4_firstBarred 44 = .ok (.aload_n 0, 1) := by decide +kernel
theorem dX4_firstBarred_45 : decode cX4_firstBarred 45 = .ok (.iload_n 2, 1) := by decide +kernel
theorem dX4_firstBarred_46 : decode cX4_firstBarred 46 = .ok (.iload_n 3, 1) := by decide +kernel
theorem dX4_firstBarred_47 : decode cX4_firstBarred 47 = .ok (.invokevirtual 46, 3) := by decide +kernel
theorem dX4_firstBarred_50 : decode cX4_firstBarred 50 = .ok (.iadd, 1) := by decide +kernel
theorem dX4_firstBarred_51 : decode cX4_firstBarred 51 = .ok (.if_icmp .le 15, 3) := by decide +kernel
theorem dX4_firstBarred_54 : decode cX4_firstBarred 54 = .ok (.bipush 100, 2) := by decide +kernel
theorem dX4_firstBarred_56 : decode cX4_firstBarred 56 = .ok (.iload_n 1, 1) := by decide +kernel
theorem dX4_firstBarred_57 : decode cX4_firstBarred 57 = .ok (.imul, 1) := by decide +kernel
theorem dX4_firstBarred_58 : decode cX4_firstBarred 58 = .ok (.bipush 10, 2) := by decide +kernel
theorem dX4_firstBarred_60 : decode cX4_firstBarred 60 = .ok (.iload_n 2, 1) := by decide +kernel
theorem dX4_firstBarred_61 : decode cX4_firstBarred 61 = .ok (.imul, 1) := by decide +kernel
theorem dX4_firstBarred_62 : decode cX4_firstBarred 62 = .ok (.iadd, 1) := by decide +kernel
theorem dX4_firstBarred_63 : decode cX4_firstBarred 63 = .ok (.iload_n 3, 1) := by decide +kernel
theorem dX4_firstBarred_64 : decode cX4_firstBarred 64 = .ok (.iadd, 1) := by decide +kernel
theorem dX4_firstBarred_65 : decode cX4_firstBarred 65 = .ok (.ireturn, 1) := by decide +kernel
theorem dX4_firstBarred_66 : decode cX4_firstBarred 66 = .ok (.iinc 3 1, 3) := by decide +kernel
theorem dX4_firstBarred_69 : decode cX4_firstBarred 69 = .ok (.goto (-45), 3) := by decide +kernel
theorem dX4_firstBarred_72 : decode cX4_firstBarred 72 = .ok (.iinc 2 1, 3) := by decide +kernel
theorem dX4_firstBarred_75 : decode cX4_firstBarred 75 = .ok (.goto (-63), 3) := by decide +kernel
theorem dX4_firstBarred_78 : decode cX4_firstBarred 78 = .ok (.iinc 1 1, 3) := by decide +kernel
theorem dX4_firstBarred_81 : decode cX4_firstBarred 81 = .ok (.goto (-79), 3) := by decide +kernel
theorem dX4_firstBarred_84 : decode cX4_firstBarred 84 = .ok (.bipush (-5), 2) := by decide +kernel
theorem dX4_firstBarred_86 : decode cX4_firstBarred 86 = .ok (.ireturn, 1) := by decide +kernel
set_option maxRecDepth 20000 in
theorem ggX4_isTable_X4_firstBarred : GoodIn wsX4_isTable wsX4_firstBarred := goodIn_r _ [5, 6, 7, 8, 9, 4, 10, 11, 12, 13] (by decide +kernel) (by decide +kernel)
set_option maxRecDepth 20000 in
theorem gX4_isTable_X4_firstBarred : GoodIn wsX4_isTable (wsV RX4 53 RX4 yX4_firstBarred wsX4_firstBarred) := goodIn_app (goodIn_of _ (by decide +kernel)) ggX4_isTable_X4_firstBarred
theorem dX4_isTable_0 : decode cX4_isTable 0 = .ok (.aload_n 0, 1) := by decide +kernel
theorem dX4_isTable_1 : decode cX4_isTable 1 = .ok (.invokevirtual 53, 3) := by decide +kernel
theorem dX4_isTable_4 : decode cX4_isTable 4 = .ok (.bipush (-5), 2) := by decide +kernel
theorem dX4_isTable_6 : decode cX4_isTable 6 = .ok (.if_icmp .ne 7, 3) := by decide +kernel
theorem dX4_isTable_9 : decode cX4_isTable 9 = .ok (.iconst 1, 1) := by decide +kernel
theorem dX4_isTable_10 : decode cX4_isTable 10 = .ok (.goto 4, 3) := by decide +kernel
theorem dX4_isTable_13 : decode cX4_isTable 13 = .ok (.iconst 0, 1) := by decide +kernel
theorem dX4_isTable_14 : decode cX4_isTable 14 = .ok (.ireturn, 1) := by decide +kernel
set_option maxRecDepth 20000 in
theorem ggX4_takeShortWays_X4_gap : GoodIn wsX4_takeShortWays wsX4_gap := goodIn_r _ [10, 1, 11, 20, 21] (by decide +kernel) (by decide +kernel)
set_option maxRecDepth 20000 in
theorem gX4_takeShortWays_X4_gap : GoodIn wsX4_takeShortWays (wsV RX4 46 RX4 yX4_gap wsX4_gap) := goodIn_app (goodIn_of _ (by decide +kernel)) ggX4_takeShortWays_X4_gap
set_option maxRecDepth 20000 in
theorem ggX4_takeShortWays_X4_put : GoodIn wsX4_takeShortWays wsX4_put := goodIn_r _ [15, 11, 16, 17, 18, 9, 19, 1, 20, 21] (by decide +kernel) (by decide +kernel)
set_option maxRecDepth 20000 in
theorem gX4_takeShortWays_X4_put : GoodIn wsX4_takeShortWays (wsV RX4 32 RX4 yX4_put wsX4_put) := goodIn_app (goodIn_of _ (by decide +kernel)) ggX4_takeShortWays_X4_put
theorem dX4_takeShortWays_0 : decode cX4_takeShortWays 0 = .ok (.iconst 0, 1) := by decide +kernel
theorem dX4_takeShortWays_1 : decode cX4_takeShortWays 1 = .ok (.istore_n 1, 1) := by decide +kernel
theorem dX4_takeShortWays_2 : decode cX4_takeShortWays 2 = .ok (.iload_n 1, 1) := by decide +kernel
theorem dX4_takeShortWays_3 : decode cX4_takeShortWays 3 = .ok (.aload_n 0, 1) := by decide +kernel
theorem dX4_takeShortWays_4 : decode cX4_takeShortWays 4 = .ok (.getfield 28, 3) := by decide +kernel
theorem dX4_takeShortWays_7 : decode cX4_takeShortWays 7 = .ok (.if_icmp .ge 71, 3) := by decide +kernel
theorem dX4_takeShortWays_10 : decode cX4_takeShortWays 10 = .ok (.iconst 0, 1) := by decide +kernel
theorem dX4_takeShortWays_11 : decode cX4_takeShortWays 11 = .ok (.istore_n 2, 1) := by decide +kernel
theorem dX4_takeShortWays_12 : decode cX4_takeShortWays 12 = .ok (.iload_n 2, 1) := by decide +kernel
theorem dX4_takeShortWays_13 : decode cX4_takeShortWays 13 = .ok (.aload_n 0, 1) := by decide +kernel
theorem dX4_takeShortWays_14 : decode cX4_takeShortWays 14 = .ok (.getfield 28, 3) := by decide +kernel
theorem dX4_takeShortWays_17 : decode cX4_takeShortWays 17 = .ok (.if_icmp .ge 55, 3) := by decide +kernel
theorem dX4_takeShortWays_20 : decode cX4_takeShortWays 20 = .ok (.iload_n 2, 1) := by decide +kernel
theorem dX4_takeShortWays_21 : decode cX4_takeShortWays 21 = .ok (.iconst 1, 1) := by decide +kernel
theorem dX4_takeShortWays_22 : decode cX4_takeShortWays 22 = .ok (.iadd, 1) := by decide +kernel
theorem dX4_takeShortWays_23 : decode cX4_takeShortWays 23 = .ok (.istore_n 3, 1) := by decide +kernel
theorem dX4_takeShortWays_24 : decode cX4_takeShortWays 24 = .ok (.iload_n 3, 1) := by decide +kernel
theorem dX4_takeShortWays_25 : decode cX4_takeShortWays 25 = .ok (.aload_n 0, 1) := by decide +kernel
theorem dX4_takeShortWays_26 : decode cX4_takeShortWays 26 = .ok (.getfield 28, 3) := by decide +kernel
theorem dX4_takeShortWays_29 : decode cX4_takeShortWays 29 = .ok (.if_icmp .ge 37, 3) := by decide +kernel
theorem dX4_takeShortWays_32 : decode cX4_takeShortWays 32 = .ok (.aload_n 0, 1) := by decide +kernel
theorem dX4_takeShortWays_33 : decode cX4_takeShortWays 33 = .ok (.iload_n 2, 1) := by decide +kernel
theorem dX4_takeShortWays_34 : decode cX4_takeShortWays 34 = .ok (.iload_n 3, 1) := by decide +kernel
theorem dX4_takeShortWays_35 : decode cX4_takeShortWays 35 = .ok (.aload_n 0, 1) := by decide +kernel
theorem dX4_takeShortWays_36 : decode cX4_takeShortWays 36 = .ok (.iload_n 2, 1) := by decide +kernel
theorem dX4_takeShortWays_37 : decode cX4_takeShortWays 37 = .ok (.iload_n 3, 1) := by decide +kernel
theorem dX4_takeShortWays_38 : decode cX4_takeShortWays 38 = .ok (.invokevirtual 46, 3) := by decide +kernel
theorem dX4_takeShortWays_41 : decode cX4_takeShortWays 41 = .ok (.aload_n 0, 1) := by decide +kernel
theorem dX4_takeShortWays_42 : decode cX4_takeShortWays 42 = .ok (.iload_n 2, 1) := by decide +kernel
theorem dX4_takeShortWays_43 : decode cX4_takeShortWays 43 = .ok (.iload_n 1, 1) := by decide +kernel
theorem dX4_takeShortWays_44 : decode cX4_takeShortWays 44 = .ok (.invokevirtual 46, 3) := by decide +kernel
theorem dX4_takeShortWays_47 : decode cX4_takeShortWays 47 = .ok (.aload_n 0, 1) := by decide +kernel
theorem dX4_takeShortWays_48 : decode cX4_takeShortWays 48 = .ok (.iload_n 1, 1) := by decide +kernel
theorem dX4_takeShortWays_49 : decode cX4_takeShortWays 49 = .ok (.iload_n 3, 1) := by decide +kernel
theorem dX4_takeShortWays_50 : decode cX4_takeShortWays 50 = .ok (.invokevirtual 46, 3) := by decide +kernel
theorem dX4_takeShortWays_53 : decode cX4_takeShortWays 53 = .ok (.iadd, 1) := by decide +kernel
theorem dX4_takeShortWays_54 : decode cX4_takeShortWays 54 = .ok (.invokestatic 19, 3) := by decide +kernel
theorem dX4_takeShortWays_57 : decode cX4_takeShortWays 57 = .ok (.invokevirtual 32, 3) := by decide +kernel
theorem dX4_takeShortWays_60 : decode cX4_takeShortWays 60 = .ok (.iinc 3 1, 3) := by decide +kernel
theorem dX4_takeShortWays_63 : decode cX4_takeShortWays 63 = .ok (.goto (-39), 3) := by decide +kernel
theorem dX4_takeShortWays_66 : decode cX4_takeShortWays 66 = .ok (.iinc 2 1, 3) := by decide +kernel
theorem dX4_takeShortWays_69 : decode cX4_takeShortWays 69 = .ok (.goto (-57), 3) := by decide +kernel
theorem dX4_takeShortWays_72 : decode cX4_takeShortWays 72 = .ok (.iinc 1 1, 3) := by decide +kernel
theorem dX4_takeShortWays_75 : decode cX4_takeShortWays 75 = .ok (.goto (-73), 3) := by decide +kernel
theorem dX4_takeShortWays_78 : decode cX4_takeShortWays 78 = .ok (.return_, 1) := by decide +kernel
set_option maxRecDepth 20000 in
theorem ggX4_span_X4_gap : GoodIn wsX4_span wsX4_gap := goodIn_r _ [10, 1, 11, 12, 13] (by decide +kernel) (by decide +kernel)
set_option maxRecDepth 20000 in
theorem gX4_span_X4_gap : GoodIn wsX4_span (wsV RX4 46 RX4 yX4_gap wsX4_gap) := goodIn_app (goodIn_of _ (by decide +kernel)) ggX4_span_X4_gap
theorem dX4_span_0 : decode cX4_span 0 = .ok (.iconst 0, 1) := by decide +kernel
theorem dX4_span_1 : decode cX4_span 1 = .ok (.istore_n 1, 1) := by decide +kernel
theorem dX4_span_2 : decode cX4_span 2 = .ok (.iconst 0, 1) := by decide +kernel
theorem dX4_span_3 : decode cX4_span 3 = .ok (.istore_n 2, 1) := by decide +kernel
theorem dX4_span_4 : decode cX4_span 4 = .ok (.iload_n 2, 1) := by decide +kernel
theorem dX4_span_5 : decode cX4_span 5 = .ok (.aload_n 0, 1) := by decide +kernel
theorem dX4_span_6 : decode cX4_span 6 = .ok (.getfield 28, 3) := by decide +kernel
theorem dX4_span_9 : decode cX4_span 9 = .ok (.if_icmp .ge 38, 3) := by decide +kernel
theorem dX4_span_12 : decode cX4_span 12 = .ok (.iload_n 2, 1) := by decide +kernel
theorem dX4_span_13 : decode cX4_span 13 = .ok (.iconst 1, 1) := by decide +kernel
theorem dX4_span_14 : decode cX4_span 14 = .ok (.iadd, 1) := by decide +kernel
theorem dX4_span_15 : decode cX4_span 15 = .ok (.istore_n 3, 1) := by decide +kernel
theorem dX4_span_16 : decode cX4_span 16 = .ok (.iload_n 3, 1) := by decide +kernel
theorem dX4_span_17 : decode cX4_span 17 = .ok (.aload_n 0, 1) := by decide +kernel
theorem dX4_span_18 : decode cX4_span 18 = .ok (.getfield 28, 3) := by decide +kernel
theorem dX4_span_21 : decode cX4_span 21 = .ok (.if_icmp .ge 20, 3) := by decide +kernel
theorem dX4_span_24 : decode cX4_span 24 = .ok (.iload_n 1, 1) := by decide +kernel
theorem dX4_span_25 : decode cX4_span 25 = .ok (.aload_n 0, 1) := by decide +kernel
theorem dX4_span_26 : decode cX4_span 26 = .ok (.iload_n 2, 1) := by decide +kernel
theorem dX4_span_27 : decode cX4_span 27 = .ok (.iload_n 3, 1) := by decide +kernel
theorem dX4_span_28 : decode cX4_span 28 = .ok (.invokevirtual 46, 3) := by decide +kernel
theorem dX4_span_31 : decode cX4_span 31 = .ok (.invokestatic 25, 3) := by decide +kernel
theorem dX4_span_34 : decode cX4_span 34 = .ok (.istore_n 1, 1) := by decide +kernel
theorem dX4_span_35 : decode cX4_span 35 = .ok (.iinc 3 1, 3) := by decide +kernel
theorem dX4_span_38 : decode cX4_span 38 = .ok (.goto (-22), 3) := by decide +kernel
theorem dX4_span_41 : decode cX4_span 41 = .ok (.iinc 2 1, 3) := by decide +kernel
theorem dX4_span_44 : decode cX4_span 44 = .ok (.goto (-40), 3) := by decide +kernel
theorem dX4_span_47 : decode cX4_span 47 = .ok (.iload_n 1, 1) := by decide +kernel
theorem dX4_span_48 : decode cX4_span 48 = .ok (.ireturn, 1) := by decide +kernel
set_option maxRecDepth 20000 in
theorem ggX4_girth_X4_gap : GoodIn wsX4_girth wsX4_gap := goodIn_r _ [6, 1, 7, 8, 9] (by decide +kernel) (by decide +kernel)
set_option maxRecDepth 20000 in
theorem gX4_girth_X4_gap : GoodIn wsX4_girth (wsV RX4 46 RX4 yX4_gap wsX4_gap) := goodIn_app (goodIn_of _ (by decide +kernel)) ggX4_girth_X4_gap
theorem dX4_girth_0 : decode cX4_girth 0 = .ok (.iconst 0, 1) := by decide +kernel
theorem dX4_girth_1 : decode cX4_girth 1 = .ok (.istore_n 1, 1) := by decide +kernel
theorem dX4_girth_2 : decode cX4_girth 2 = .ok (.iconst 0, 1) := by decide +kernel
theorem dX4_girth_3 : decode cX4_girth 3 = .ok (.istore_n 2, 1) := by decide +kernel
theorem dX4_girth_4 : decode cX4_girth 4 = .ok (.iload_n 2, 1) := by decide +kernel
theorem dX4_girth_5 : decode cX4_girth 5 = .ok (.aload_n 0, 1) := by decide +kernel
theorem dX4_girth_6 : decode cX4_girth 6 = .ok (.getfield 28, 3) := by decide +kernel
theorem dX4_girth_9 : decode cX4_girth 9 = .ok (.if_icmp .ge 36, 3) := by decide +kernel
theorem dX4_girth_12 : decode cX4_girth 12 = .ok (.iload_n 2, 1) := by decide +kernel
theorem dX4_girth_13 : decode cX4_girth 13 = .ok (.iconst 1, 1) := by decide +kernel
theorem dX4_girth_14 : decode cX4_girth 14 = .ok (.iadd, 1) := by decide +kernel
theorem dX4_girth_15 : decode cX4_girth 15 = .ok (.istore_n 3, 1) := by decide +kernel
theorem dX4_girth_16 : decode cX4_girth 16 = .ok (.iload_n 3, 1) := by decide +kernel
theorem dX4_girth_17 : decode cX4_girth 17 = .ok (.aload_n 0, 1) := by decide +kernel
theorem dX4_girth_18 : decode cX4_girth 18 = .ok (.getfield 28, 3) := by decide +kernel
theorem dX4_girth_21 : decode cX4_girth 21 = .ok (.if_icmp .ge 18, 3) := by decide +kernel
theorem dX4_girth_24 : decode cX4_girth 24 = .ok (.iload_n 1, 1) := by decide +kernel
theorem dX4_girth_25 : decode cX4_girth 25 = .ok (.aload_n 0, 1) := by decide +kernel
theorem dX4_girth_26 : decode cX4_girth 26 = .ok (.iload_n 2, 1) := by decide +kernel
theorem dX4_girth_27 : decode cX4_girth 27 = .ok (.iload_n 3, 1) := by decide +kernel
theorem dX4_girth_28 : decode cX4_girth 28 = .ok (.invokevirtual 46, 3) := by decide +kernel
theorem dX4_girth_31 : decode cX4_girth 31 = .ok (.iadd, 1) := by decide +kernel
theorem dX4_girth_32 : decode cX4_girth 32 = .ok (.istore_n 1, 1) := by decide +kernel
theorem dX4_girth_33 : decode cX4_girth 33 = .ok (.iinc 3 1, 3) := by decide +kernel
theorem dX4_girth_36 : decode cX4_girth 36 = .ok (.goto (-20), 3) := by decide +kernel
theorem dX4_girth_39 : decode cX4_girth 39 = .ok (.iinc 2 1, 3) := by decide +kernel
theorem dX4_girth_42 : decode cX4_girth 42 = .ok (.goto (-38), 3) := by decide +kernel
theorem dX4_girth_45 : decode cX4_girth 45 = .ok (.iload_n 1, 1) := by decide +kernel
theorem dX4_girth_46 : decode cX4_girth 46 = .ok (.ireturn, 1) := by decide +kernel
set_option maxRecDepth 20000 in
theorem ggX4_usual_X4_manyOf : GoodIn wsX4_usual wsX4_manyOf := goodIn_r _ [5, 6, 7, 8, 9, 4, 10, 11, 12, 13] (by decide +kernel) (by decide +kernel)
set_option maxRecDepth 20000 in
theorem gX4_usual_X4_manyOf : GoodIn wsX4_usual (wsV RX4 57 RX4 yX4_manyOf wsX4_manyOf) := goodIn_app (goodIn_of _ (by decide +kernel)) ggX4_usual_X4_manyOf
theorem dX4_usual_0 : decode cX4_usual 0 = .ok (.iconst 0, 1) := by decide +kernel
theorem dX4_usual_1 : decode cX4_usual 1 = .ok (.istore_n 1, 1) := by decide +kernel
theorem dX4_usual_2 : decode cX4_usual 2 = .ok (.iconst 0, 1) := by decide +kernel
theorem dX4_usual_3 : decode cX4_usual 3 = .ok (.istore_n 2, 1) := by decide +kernel
theorem dX4_usual_4 : decode cX4_usual 4 = .ok (.iconst 0, 1) := by decide +kernel
theorem dX4_usual_5 : decode cX4_usual 5 = .ok (.istore_n 3, 1) := by decide +kernel
theorem dX4_usual_6 : decode cX4_usual 6 = .ok (.iload_n 3, 1) := by decide +kernel
theorem dX4_usual_7 : decode cX4_usual 7 = .ok (.bipush 40, 2) := by decide +kernel
theorem dX4_usual_9 : decode cX4_usual 9 = .ok (.if_icmp .gt 27, 3) := by decide +kernel
theorem dX4_usual_12 : decode cX4_usual 12 = .ok (.aload_n 0, 1) := by decide +kernel
theorem dX4_usual_13 : decode cX4_usual 13 = .ok (.iload_n 3, 1) := by decide +kernel
theorem dX4_usual_14 : decode cX4_usual 14 = .ok (.invokevirtual 57, 3) := by decide +kernel
theorem dX4_usual_17 : decode cX4_usual 17 = .ok (.istore 4, 2) := by decide +kernel
theorem dX4_usual_19 : decode cX4_usual 19 = .ok (.iload 4, 2) := by decide +kernel
theorem dX4_usual_21 : decode cX4_usual 21 = .ok (.iload_n 2, 1) := by decide +kernel
theorem dX4_usual_22 : decode cX4_usual 22 = .ok (.if_icmp .le 8, 3) := by decide +kernel
theorem dX4_usual_25 : decode cX4_usual 25 = .ok (.iload 4, 2) := by decide +kernel
theorem dX4_usual_27 : decode cX4_usual 27 = .ok (.istore_n 2, 1) := by decide +kernel
theorem dX4_usual_28 : decode cX4_usual 28 = .ok (.iload_n 3, 1) := by decide +kernel
theorem dX4_usual_29 : decode cX4_usual 29 = .ok (.istore_n 1, 1) := by decide +kernel
theorem dX4_usual_30 : decode cX4_usual 30 = .ok (.iinc 3 1, 3) := by decide +kernel
theorem dX4_usual_33 : decode cX4_usual 33 = .ok (.goto (-27), 3) := by decide +kernel
theorem dX4_usual_36 : decode cX4_usual 36 = .ok (.iload_n 1, 1) := by decide +kernel
theorem dX4_usual_37 : decode cX4_usual 37 = .ok (.ireturn, 1) := by decide +kernel
set_option maxRecDepth 20000 in
theorem ggX4_manyOf_X4_gap : GoodIn wsX4_manyOf wsX4_gap := goodIn_r _ [6, 1, 7, 8, 9] (by decide +kernel) (by decide +kernel)
set_option maxRecDepth 20000 in
theorem gX4_manyOf_X4_gap : GoodIn wsX4_manyOf (wsV RX4 46 RX4 yX4_gap wsX4_gap) := goodIn_app (goodIn_of _ (by decide +kernel)) ggX4_manyOf_X4_gap
theorem dX4_manyOf_0 : decode cX4_manyOf 0 = .ok (.iconst 0, 1) := by decide +kernel
theorem dX4_manyOf_1 : decode cX4_manyOf 1 = .ok (.istore_n 2, 1) := by decide +kernel
theorem dX4_manyOf_2 : decode cX4_manyOf 2 = .ok (.iconst 0, 1) := by decide +kernel
theorem dX4_manyOf_3 : decode cX4_manyOf 3 = .ok (.istore_n 3, 1) := by decide +kernel
theorem dX4_manyOf_4 : decode cX4_manyOf 4 = .ok (.iload_n 3, 1) := by decide +kernel
theorem dX4_manyOf_5 : decode cX4_manyOf 5 = .ok (.aload_n 0, 1) := by decide +kernel
theorem dX4_manyOf_6 : decode cX4_manyOf 6 = .ok (.getfield 28, 3) := by decide +kernel
theorem dX4_manyOf_9 : decode cX4_manyOf 9 = .ok (.if_icmp .ge 48, 3) := by decide +kernel
theorem dX4_manyOf_12 : decode cX4_manyOf 12 = .ok (.iload_n 3, 1) := by decide +kernel
theorem dX4_manyOf_13 : decode cX4_manyOf 13 = .ok (.iconst 1, 1) := by decide +kernel
theorem dX4_manyOf_14 : decode cX4_manyOf 14 = .ok (.iadd, 1) := by decide +kernel
theorem dX4_manyOf_15 : decode cX4_manyOf 15 = .ok (.istore 4, 2) := by decide +kernel
theorem dX4_manyOf_17 : decode cX4_manyOf 17 = .ok (.iload 4, 2) := by decide +kernel
theorem dX4_manyOf_19 : decode cX4_manyOf 19 = .ok (.aload_n 0, 1) := by decide +kernel
theorem dX4_manyOf_20 : decode cX4_manyOf 20 = .ok (.getfield 28, 3) := by decide +kernel
theorem dX4_manyOf_23 : decode cX4_manyOf 23 = .ok (.if_icmp .ge 28, 3) := by decide +kernel
theorem dX4_manyOf_26 : decode cX4_manyOf 26 = .ok (.iload_n 2, 1) := by decide +kernel
theorem dX4_manyOf_27 : decode cX4_manyOf 27 = .ok (.aload_n 0, 1) := by decide +kernel
theorem dX4_manyOf_28 : decode cX4_manyOf 28 = .ok (.iload_n 3, 1) := by decide +kernel
theorem dX4_manyOf_29 : decode cX4_manyOf 29 = .ok (.iload 4, 2) := by decide +kernel
theorem dX4_manyOf_31 : decode cX4_manyOf 31 = .ok (.invokevirtual 46, 3) := by decide +kernel
theorem dX4_manyOf_34 : decode cX4_manyOf 34 = .ok (.iload_n 1, 1) := by decide +kernel
theorem dX4_manyOf_35 : decode cX4_manyOf 35 = .ok (.if_icmp .ne 7, 3) := by decide +kernel
theorem dX4_manyOf_38 : decode cX4_manyOf 38 = .ok (.iconst 1, 1) := by decide +kernel
theorem dX4_manyOf_39 : decode cX4_manyOf 39 = .ok (.goto 4, 3) := by decide +kernel
theorem dX4_manyOf_42 : decode cX4_manyOf 42 = .ok (.iconst 0, 1) := by decide +kernel
theorem dX4_manyOf_43 : decode cX4_manyOf 43 = .ok (.iadd, 1) := by decide +kernel
theorem dX4_manyOf_44 : decode cX4_manyOf 44 = .ok (.istore_n 2, 1) := by decide +kernel
theorem dX4_manyOf_45 : decode cX4_manyOf 45 = .ok (.iinc 4 1, 3) := by decide +kernel
theorem dX4_manyOf_48 : decode cX4_manyOf 48 = .ok (.goto (-31), 3) := by decide +kernel
theorem dX4_manyOf_51 : decode cX4_manyOf 51 = .ok (.iinc 3 1, 3) := by decide +kernel
theorem dX4_manyOf_54 : decode cX4_manyOf 54 = .ok (.goto (-50), 3) := by decide +kernel
theorem dX4_manyOf_57 : decode cX4_manyOf 57 = .ok (.iload_n 2, 1) := by decide +kernel
theorem dX4_manyOf_58 : decode cX4_manyOf 58 = .ok (.ireturn, 1) := by decide +kernel
set_option maxRecDepth 20000 in
theorem ggX4_leastRound_X4_wayHome : GoodIn wsX4_leastRound wsX4_wayHome := goodIn_r _ [5, 1, 6, 7, 8, 9, 10, 11, 12, 4, 13, 14, 2, 3, 15, 16] (by decide +kernel) (by decide +kernel)
set_option maxRecDepth 20000 in
theorem gX4_leastRound_X4_wayHome : GoodIn wsX4_leastRound (va_wsS RX4 61 yX4_wayHome wsX4_wayHome) := goodIn_app (goodIn_of _ (by decide +kernel)) ggX4_leastRound_X4_wayHome
theorem dX4_leastRound_0 : decode cX4_leastRound 0 = .ok (.aload_n 0, 1) := by decide +kernel
theorem dX4_leastRound_1 : decode cX4_leastRound 1 = .ok (.iconst 0, 1) := by decide +kernel
theorem dX4_leastRound_2 : decode cX4_leastRound 2 = .ok (.iconst 1, 1) := by decide +kernel
theorem dX4_leastRound_3 : decode cX4_leastRound 3 = .ok (.aload_n 0, 1) := by decide +kernel
theorem dX4_leastRound_4 : decode cX4_leastRound 4 = .ok (.getfield 28, 3) := by decide +kernel
theorem dX4_leastRound_7 : decode cX4_leastRound 7 = .ok (.iconst 1, 1) := by decide +kernel
theorem dX4_leastRound_8 : decode cX4_leastRound 8 = .ok (.isub, 1) := by decide +kernel
theorem dX4_leastRound_9 : decode cX4_leastRound 9 = .ok (.invokestatic 61, 3) := by decide +kernel
theorem dX4_leastRound_12 : decode cX4_leastRound 12 = .ok (.ireturn, 1) := by decide +kernel
set_option maxRecDepth 20000 in
theorem ggX4_wayHome_X4_gap : GoodIn wsX4_wayHome wsX4_gap := goodIn_r _ [10, 1, 11, 14, 15] (by decide +kernel) (by decide +kernel)
set_option maxRecDepth 20000 in
theorem gX4_wayHome_X4_gap : GoodIn wsX4_wayHome (wsV RX4 46 RX4 yX4_gap wsX4_gap) := goodIn_app (goodIn_of _ (by decide +kernel)) ggX4_wayHome_X4_gap
set_option maxRecDepth 20000 in
theorem ggX4_wayHome_X4_wayHome : GoodIn wsX4_wayHome wsX4_wayHome := goodIn_r _ [0, 1, 2, 3, 4, 5, 6, 7, 8, 9, 10, 11, 12, 13, 14, 15] (by decide +kernel) (by decide +kernel)
set_option maxRecDepth 20000 in
theorem gX4_wayHome_X4_wayHome : GoodIn wsX4_wayHome (va_wsS RX4 61 yX4_wayHome wsX4_wayHome) := goodIn_app (goodIn_of _ (by decide +kernel)) ggX4_wayHome_X4_wayHome
theorem dX4_wayHome_0 : decode cX4_wayHome 0 = .ok (.iload_n 3, 1) := by decide +kernel
theorem dX4_wayHome_1 : decode cX4_wayHome 1 = .ok (.ifCond .gt 10, 3) := by decide +kernel
theorem dX4_wayHome_4 : decode cX4_wayHome 4 = .ok (.aload_n 0, 1) := by decide +kernel
theorem dX4_wayHome_5 : decode cX4_wayHome 5 = .ok (.iload_n 1, 1) := by decide +kernel
theorem dX4_wayHome_6 : decode cX4_wayHome 6 = .ok (.iconst 0, 1) := by decide +kernel
theorem dX4_wayHome_7 : decode cX4_wayHome 7 = .ok (.invokevirtual 46, 3) := by decide +kernel
theorem dX4_wayHome_10 : decode cX4_wayHome 10 = .ok (.ireturn, 1) := by decide +kernel
theorem dX4_wayHome_11 : decode cX4_wayHome 11 = .ok (.sipush 1000, 3) := by decide +kernel
theorem dX4_wayHome_14 : decode cX4_wayHome 14 = .ok (.istore 4, 2) := by decide +kernel
theorem dX4_wayHome_16 : decode cX4_wayHome 16 = .ok (.iconst 1, 1) := by decide +kernel
theorem dX4_wayHome_17 : decode cX4_wayHome 17 = .ok (.istore 5, 2) := by decide +kernel
theorem dX4_wayHome_19 : decode cX4_wayHome 19 = .ok (.iload 5, 2) := by decide +kernel
theorem dX4_wayHome_21 : decode cX4_wayHome 21 = .ok (.aload_n 0, 1) := by decide +kernel
theorem dX4_wayHome_22 : decode cX4_wayHome 22 = .ok (.getfield 28, 3) := by decide +kernel
theorem dX4_wayHome_25 : decode cX4_wayHome 25 = .ok (.if_icmp .ge 52, 3) := by decide +kernel
theorem dX4_wayHome_28 : decode cX4_wayHome 28 = .ok (.iload_n 2, 1) := by decide +kernel
theorem dX4_wayHome_29 : decode cX4_wayHome 29 = .ok (.iconst 1, 1) := by decide +kernel
theorem dX4_wayHome_30 : decode cX4_wayHome 30 = .ok (.iload 5, 2) := by decide +kernel
theorem dX4_wayHome_32 : decode cX4_wayHome 32 = .ok (.ishl, 1) := by decide +kernel
theorem dX4_wayHome_33 : decode cX4_wayHome 33 = .ok (.iand, 1) := by decide +kernel
theorem dX4_wayHome_34 : decode cX4_wayHome 34 = .ok (.ifCond .ne 37, 3) := by decide +kernel
theorem dX4_wayHome_37 : decode cX4_wayHome 37 = .ok (.aload_n 0, 1) := by decide +kernel
theorem dX4_wayHome_38 : decode cX4_wayHome 38 = .ok (.iload_n 1, 1) := by decide +kernel
theorem dX4_wayHome_39 : decode cX4_wayHome 39 = .ok (.iload 5, 2) := by decide +kernel
theorem dX4_wayHome_41 : decode cX4_wayHome 41 = .ok (.invokevirtual 46, 3) := by decide +kernel
theorem dX4_wayHome_44 : decode cX4_wayHome 44 = .ok (.aload_n 0, 1) := by decide +kernel
theorem dX4_wayHome_45 : decode cX4_wayHome 45 = .ok (.iload 5, 2) := by decide +kernel
theorem dX4_wayHome_47 : decode cX4_wayHome 47 = .ok (.iload_n 2, 1) := by decide +kernel
theorem dX4_wayHome_48 : decode cX4_wayHome 48 = .ok (.iconst 1, 1) := by decide +kernel
theorem dX4_wayHome_49 : decode cX4_wayHome 49 = .ok (.iload 5, 2) := by decide +kernel
theorem dX4_wayHome_51 : decode cX4_wayHome 51 = .ok (.ishl, 1) := by decide +kernel
theorem dX4_wayHome_52 : decode cX4_wayHome 52 = .ok (.ior, 1) := by decide +kernel
theorem dX4_wayHome_53 : decode cX4_wayHome 53 = .ok (.iload_n 3, 1) := by decide +kernel
theorem dX4_wayHome_54 : decode cX4_wayHome 54 = .ok (.iconst 1, 1) := by decide +kernel
theorem dX4_wayHome_55 : decode cX4_wayHome 55 = .ok (.isub, 1) := by decide +kernel
theorem dX4_wayHome_56 : decode cX4_wayHome 56 = .ok (.invokestatic 61, 3) := by decide +kernel
theorem dX4_wayHome_59 : decode cX4_wayHome 59 = .ok (.iadd, 1) := by decide +kernel
theorem dX4_wayHome_60 : decode cX4_wayHome 60 = .ok (.istore 6, 2) := by decide +kernel
theorem dX4_wayHome_62 : decode cX4_wayHome 62 = .ok (.iload 4, 2) := by decide +kernel
theorem dX4_wayHome_64 : decode cX4_wayHome 64 = .ok (.iload 6, 2) := by decide +kernel
theorem dX4_wayHome_66 : decode cX4_wayHome 66 = .ok (.invokestatic 19, 3) := by decide +kernel
theorem dX4_wayHome_69 : decode cX4_wayHome 69 = .ok (.istore 4, 2) := by decide +kernel
theorem dX4_wayHome_71 : decode cX4_wayHome 71 = .ok (.iinc 5 1, 3) := by decide +kernel
theorem dX4_wayHome_74 : decode cX4_wayHome 74 = .ok (.goto (-55), 3) := by decide +kernel
theorem dX4_wayHome_77 : decode cX4_wayHome 77 = .ok (.iload 4, 2) := by decide +kernel
theorem dX4_wayHome_79 : decode cX4_wayHome 79 = .ok (.ireturn, 1) := by decide +kernel
set_option maxRecDepth 20000 in
theorem ggX4_keepers_X4_keepersWith : GoodIn wsX4_keepers wsX4_keepersWith := goodIn_r _ [4, 5, 6, 7, 3, 8, 9, 10, 11, 12, 13, 1, 2, 14, 15] (by decide +kernel) (by decide +kernel)
set_option maxRecDepth 20000 in
theorem gX4_keepers_X4_keepersWith : GoodIn wsX4_keepers (va_wsS RX4 65 yX4_keepersWith wsX4_keepersWith) := goodIn_app (goodIn_of _ (by decide +kernel)) ggX4_keepers_X4_keepersWith
theorem dX4_keepers_0 : decode cX4_keepers 0 = .ok (.aload_n 0, 1) := by decide +kernel
theorem dX4_keepers_1 : decode cX4_keepers 1 = .ok (.iconst 0, 1) := by decide +kernel
theorem dX4_keepers_2 : decode cX4_keepers 2 = .ok (.iconst 0, 1) := by decide +kernel
theorem dX4_keepers_3 : decode cX4_keepers 3 = .ok (.invokestatic 65, 3) := by decide +kernel
theorem dX4_keepers_6 : decode cX4_keepers 6 = .ok (.ireturn, 1) := by decide +kernel
set_option maxRecDepth 20000 in
theorem ggX4_keepersWith_X4_mayGo : GoodIn wsX4_keepersWith wsX4_mayGo := goodIn_r _ [5, 6, 7, 8, 4, 9, 1, 10, 13, 14] (by decide +kernel) (by decide +kernel)
set_option maxRecDepth 20000 in
theorem gX4_keepersWith_X4_mayGo : GoodIn wsX4_keepersWith (va_wsS RX4 69 yX4_mayGo wsX4_mayGo) := goodIn_app (goodIn_of _ (by decide +kernel)) ggX4_keepersWith_X4_mayGo
set_option maxRecDepth 20000 in
theorem ggX4_keepersWith_X4_keepersWith : GoodIn wsX4_keepersWith wsX4_keepersWith := goodIn_r _ [0, 1, 2, 3, 4, 5, 6, 7, 8, 9, 10, 11, 12, 13, 14] (by decide +kernel) (by decide +kernel)
set_option maxRecDepth 20000 in
theorem gX4_keepersWith_X4_keepersWith : GoodIn wsX4_keepersWith (va_wsS RX4 65 yX4_keepersWith wsX4_keepersWith) := goodIn_app (goodIn_of _ (by decide +kernel)) ggX4_keepersWith_X4_keepersWith
theorem dX4_keepersWith_0 : decode cX4_keepersWith 0 = .ok (.iload_n 1, 1) := by decide +kernel
theorem dX4_keepersWith_1 : decode cX4_keepersWith 1 = .ok (.aload_n 0, 1) := by decide +kernel
theorem dX4_keepersWith_2 : decode cX4_keepersWith 2 = .ok (.getfield 28, 3) := by decide +kernel
theorem dX4_keepersWith_5 : decode cX4_keepersWith 5 = .ok (.if_icmp .lt 5, 3) := by decide +kernel
theorem dX4_keepersWith_8 : decode cX4_keepersWith 8 = .ok (.iconst 1, 1) := by decide +kernel
theorem dX4_keepersWith_9 : decode cX4_keepersWith 9 = .ok (.ireturn, 1) := by decide +kernel
theorem dX4_keepersWith_10 : decode cX4_keepersWith 10 = .ok (.iconst 0, 1) := by decide +kernel
theorem dX4_keepersWith_11 : decode cX4_keepersWith 11 = .ok (.istore_n 3, 1) := by decide +kernel
theorem dX4_keepersWith_12 : decode cX4_keepersWith 12 = .ok (.iconst 0, 1) := by decide +kernel
theorem dX4_keepersWith_13 : decode cX4_keepersWith 13 = .ok (.istore 4, 2) := by decide +kernel
theorem dX4_keepersWith_15 : decode cX4_keepersWith 15 = .ok (.iload 4, 2) := by decide +kernel
theorem dX4_keepersWith_17 : decode cX4_keepersWith 17 = .ok (.aload_n 0, 1) := by decide +kernel
theorem dX4_keepersWith_18 : decode cX4_keepersWith 18 = .ok (.getfield 28, 3) := by decide +kernel
theorem dX4_keepersWith_21 : decode cX4_keepersWith 21 = .ok (.if_icmp .ge 38, 3) := by decide +kernel
theorem dX4_keepersWith_24 : decode cX4_keepersWith 24 = .ok (.aload_n 0, 1) := by decide +kernel
theorem dX4_keepersWith_25 : decode cX4_keepersWith 25 = .ok (.iload_n 1, 1) := by decide +kernel
theorem dX4_keepersWith_26 : decode cX4_keepersWith 26 = .ok (.iload 4, 2) := by decide +kernel
theorem dX4_keepersWith_28 : decode cX4_keepersWith 28 = .ok (.iload_n 2, 1) := by decide +kernel
theorem dX4_keepersWith_29 : decode cX4_keepersWith 29 = .ok (.invokestatic 69, 3) := by decide +kernel
theorem dX4_keepersWith_32 : decode cX4_keepersWith 32 = .ok (.ifCond .eq 21, 3) := by decide +kernel
theorem dX4_keepersWith_35 : decode cX4_keepersWith 35 = .ok (.iload_n 3, 1) := by decide +kernel
theorem dX4_keepersWith_36 : decode cX4_keepersWith 36 = .ok (.aload_n 0, 1) := by decide +kernel
theorem dX4_keepersWith_37 : decode cX4_keepersWith 37 = .ok (.iload_n 1, 1) := by decide +kernel
theorem dX4_keepersWith_38 : decode cX4_keepersWith 38 = .ok (.iconst 1, 1) := by decide +kernel
theorem dX4_keepersWith_39 : decode cX4_keepersWith 39 = .ok (.iadd, 1) := by decide +kernel
theorem dX4_keepersWith_40 : decode cX4_keepersWith 40 = .ok (.iload_n 2, 1) := by decide +kernel
theorem dX4_keepersWith_41 : decode cX4_keepersWith 41 = .ok (.iload 4, 2) := by decide +kernel
theorem dX4_keepersWith_43 : decode cX4_keepersWith 43 = .ok (.iconst 3, 1) := by decide +kernel
theorem dX4_keepersWith_44 : decode cX4_keepersWith 44 = .ok (.iload_n 1, 1) := by decide +kernel
theorem dX4_keepersWith_45 : decode cX4_keepersWith 45 = .ok (.imul, 1) := by decide +kernel
theorem dX4_keepersWith_46 : decode cX4_keepersWith 46 = .ok (.ishl, 1) := by decide +kernel
theorem dX4_keepersWith_47 : decode cX4_keepersWith 47 = .ok (.ior, 1) := by decide +kernel
theorem dX4_keepersWith_48 : decode cX4_keepersWith 48 = .ok (.invokestatic 65, 3) := by decide +kernel
theorem dX4_keepersWith_51 : decode cX4_keepersWith 51 = .ok (.iadd, 1) := by decide +kernel
theorem dX4_keepersWith_52 : decode cX4_keepersWith 52 = .ok (.istore_n 3, 1) := by decide +kernel
theorem dX4_keepersWith_53 : decode cX4_keepersWith 53 = .ok (.iinc 4 1, 3) := by decide +kernel
theorem dX4_keepersWith_56 : decode cX4_keepersWith 56 = .ok (.goto (-41), 3) := by decide +kernel
theorem dX4_keepersWith_59 : decode cX4_keepersWith 59 = .ok (.iload_n 3, 1) := by decide +kernel
theorem dX4_keepersWith_60 : decode cX4_keepersWith 60 = .ok (.ireturn, 1) := by decide +kernel
set_option maxRecDepth 20000 in
theorem ggX4_mayGo_X4_gap : GoodIn wsX4_mayGo wsX4_gap := goodIn_r _ [5, 6, 7, 8, 9] (by decide +kernel) (by decide +kernel)
set_option maxRecDepth 20000 in
theorem gX4_mayGo_X4_gap : GoodIn wsX4_mayGo (wsV RX4 46 RX4 yX4_gap wsX4_gap) := goodIn_app (goodIn_of _ (by decide +kernel)) ggX4_mayGo_X4_gap
theorem dX4_mayGo_0 : decode cX4_mayGo 0 = .ok (.iconst 0, 1) := by decide +kernel
theorem dX4_mayGo_1 : decode cX4_mayGo 1 = .ok (.istore 4, 2) := by decide +kernel
theorem dX4_mayGo_3 : decode cX4_mayGo 3 = .ok (.iload 4, 2) := by decide +kernel
theorem dX4_mayGo_5 : decode cX4_mayGo 5 = .ok (.iload_n 1, 1) := by decide +kernel
theorem dX4_mayGo_6 : decode cX4_mayGo 6 = .ok (.if_icmp .ge 45, 3) := by decide +kernel
theorem dX4_mayGo_9 : decode cX4_mayGo 9 = .ok (.iload_n 3, 1) := by decide +kernel
theorem dX4_mayGo_10 : decode cX4_mayGo 10 = .ok (.iconst 3, 1) := by decide +kernel
theorem dX4_mayGo_11 : decode cX4_mayGo 11 = .ok (.iload 4, 2) := by decide +kernel
theorem dX4_mayGo_13 : decode cX4_mayGo 13 = .ok (.imul, 1) := by decide +kernel
theorem dX4_mayGo_14 : decode cX4_mayGo 14 = .ok (.ishr, 1) := by decide +kernel
theorem dX4_mayGo_15 : decode cX4_mayGo 15 = .ok (.bipush 7, 2) := by decide +kernel
theorem dX4_mayGo_17 : decode cX4_mayGo 17 = .ok (.iand, 1) := by decide +kernel
theorem dX4_mayGo_18 : decode cX4_mayGo 18 = .ok (.istore 5, 2) := by decide +kernel
theorem dX4_mayGo_20 : decode cX4_mayGo 20 = .ok (.iload 5, 2) := by decide +kernel
theorem dX4_mayGo_22 : decode cX4_mayGo 22 = .ok (.iload_n 2, 1) := by decide +kernel
theorem dX4_mayGo_23 : decode cX4_mayGo 23 = .ok (.if_icmp .eq 20, 3) := by decide +kernel
theorem dX4_mayGo_26 : decode cX4_mayGo 26 = .ok (.aload_n 0, 1) := by decide +kernel
theorem dX4_mayGo_27 : decode cX4_mayGo 27 = .ok (.iload 5, 2) := by decide +kernel
theorem dX4_mayGo_29 : decode cX4_mayGo 29 = .ok (.iload_n 2, 1) := by decide +kernel
theorem dX4_mayGo_30 : decode cX4_mayGo 30 = .ok (.invokevirtual 46, 3) := by decide +kernel
theorem dX4_mayGo_33 : decode cX4_mayGo 33 = .ok (.aload_n 0, 1) := by decide +kernel
theorem dX4_mayGo_34 : decode cX4_mayGo 34 = .ok (.iload 4, 2) := by decide +kernel
theorem dX4_mayGo_36 : decode cX4_mayGo 36 = .ok (.iload_n 1, 1) := by decide +kernel
theorem dX4_mayGo_37 : decode cX4_mayGo 37 = .ok (.invokevirtual 46, 3) := by decide +kernel
theorem dX4_mayGo_40 : decode cX4_mayGo 40 = .ok (.if_icmp .eq 5, 3) := by decide +kernel
theorem dX4_mayGo_43 : decode cX4_mayGo 43 = .ok (.iconst 0, 1) := by decide +kernel
theorem dX4_mayGo_44 : decode cX4_mayGo 44 = .ok (.ireturn, 1) := by decide +kernel
theorem dX4_mayGo_45 : decode cX4_mayGo 45 = .ok (.iinc 4 1, 3) := by decide +kernel
theorem dX4_mayGo_48 : decode cX4_mayGo 48 = .ok (.goto (-45), 3) := by decide +kernel
theorem dX4_mayGo_51 : decode cX4_mayGo 51 = .ok (.iconst 1, 1) := by decide +kernel
theorem dX4_mayGo_52 : decode cX4_mayGo 52 = .ok (.ireturn, 1) := by decide +kernel
set_option maxRecDepth 20000 in
theorem ggX4_isTree_X4_isTable : GoodIn wsX4_isTree wsX4_isTable := goodIn_r _ [6, 7, 8, 9, 5, 10, 1, 11, 12, 13, 14, 15, 24, 25] (by decide +kernel) (by decide +kernel)
set_option maxRecDepth 20000 in
theorem gX4_isTree_X4_isTable : GoodIn wsX4_isTree (wsV RX4 73 RX4 yX4_isTable wsX4_isTable) := goodIn_app (goodIn_of _ (by decide +kernel)) ggX4_isTree_X4_isTable
set_option maxRecDepth 20000 in
theorem ggX4_isTree_X4_hangsWithAll : GoodIn wsX4_isTree wsX4_hangsWithAll := goodIn_r _ [19, 1, 20, 21, 22, 23, 11, 12, 13, 5, 14, 15, 24, 25] (by decide +kernel) (by decide +kernel)
set_option maxRecDepth 20000 in
theorem gX4_isTree_X4_hangsWithAll : GoodIn wsX4_isTree (wsV RX4 77 RX4 yX4_hangsWithAll wsX4_hangsWithAll) := goodIn_app (goodIn_of _ (by decide +kernel)) ggX4_isTree_X4_hangsWithAll
theorem dX4_isTree_0 : decode cX4_isTree 0 = .ok (.aload_n 0, 1) := by decide +kernel
theorem dX4_isTree_1 : decode cX4_isTree 1 = .ok (.invokevirtual 73, 3) := by decide +kernel
theorem dX4_isTree_4 : decode cX4_isTree 4 = .ok (.ifCond .ne 5, 3) := by decide +kernel
theorem dX4_isTree_7 : decode cX4_isTree 7 = .ok (.iconst 0, 1) := by decide +kernel
theorem dX4_isTree_8 : decode cX4_isTree 8 = .ok (.ireturn, 1) := by decide +kernel
theorem dX4_isTree_9 : decode cX4_isTree 9 = .ok (.iconst 0, 1) := by decide +kernel
theorem dX4_isTree_10 : decode cX4_isTree 10 = .ok (.istore_n 1, 1) := by decide +kernel
theorem dX4_isTree_11 : decode cX4_isTree 11 = .ok (.iload_n 1, 1) := by decide +kernel
theorem dX4_isTree_12 : decode cX4_isTree 12 = .ok (.aload_n 0, 1) := by decide +kernel
theorem dX4_isTree_13 : decode cX4_isTree 13 = .ok (.getfield 28, 3) := by decide +kernel
theorem dX4_isTree_16 : decode cX4_isTree 16 = .ok (.if_icmp .ge 57, 3) := by decide +kernel
theorem dX4_isTree_19 : decode cX4_isTree 19 = .ok (.iload_n 1, 1) := by decide +kernel
theorem dX4_isTree_20 : decode cX4_isTree 20 = .ok (.iconst 1, 1) := by decide +kernel
theorem dX4_isTree_21 : decode cX4_isTree 21 = .ok (.iadd, 1) := by decide +kernel
theorem dX4_isTree_22 : decode cX4_isTree 22 = .ok (.istore_n 2, 1) := by decide +kernel
theorem dX4_isTree_23 : decode cX4_isTree 23 = .ok (.iload_n 2, 1) := by decide +kernel
theorem dX4_isTree_24 : decode cX4_isTree 24 = .ok (.aload_n 0, 1) := by decide +kernel
theorem dX4_isTree_25 : decode cX4_isTree 25 = .ok (.getfield 28, 3) := by decide +kernel
theorem dX4_isTree_28 : decode cX4_isTree 28 = .ok (.if_icmp .ge 39, 3) := by decide +kernel
theorem dX4_isTree_31 : decode cX4_isTree 31 = .ok (.iload_n 2, 1) := by decide +kernel
theorem dX4_isTree_32 : decode cX4_isTree 32 = .ok (.iconst 1, 1) := by decide +kernel
theorem dX4_isTree_33 : decode cX4_isTree 33 = .ok (.iadd, 1) := by decide +kernel
theorem dX4_isTree_34 : decode cX4_isTree 34 = .ok (.istore_n 3, 1) := by decide +kernel
theorem dX4_isTree_35 : decode cX4_isTree 35 = .ok (.iload_n 3, 1) := by decide +kernel
theorem dX4_isTree_36 : decode cX4_isTree 36 = .ok (.aload_n 0, 1) := by decide +kernel
theorem dX4_isTree_37 : decode cX4_isTree 37 = .ok (.getfield 28, 3) := by decide +kernel
theorem dX4_isTree_40 : decode cX4_isTree 40 = .ok (.if_icmp .ge 21, 3) := by decide +kernel
theorem dX4_isTree_43 : decode cX4_isTree 43 = .ok (.aload_n 0, 1) := by decide +kernel
theorem dX4_isTree_44 : decode cX4_isTree 44 = .ok (.iload_n 1, 1) := by decide +kernel
theorem dX4_isTree_45 : decode cX4_isTree 45 = .ok (.iload_n 2, 1) := by decide +kernel
theorem dX4_isTree_46 : decode cX4_isTree 46 = .ok (.iload_n 3, 1) := by decide +kernel
theorem dX4_isTree_47 : decode cX4_isTree 47 = .ok (.invokevirtual 77, 3) := by decide +kernel
theorem dX4_isTree_50 : decode cX4_isTree 50 = .ok (.ifCond .ne 5, 3) := by decide +kernel
theorem dX4_isTree_53 : decode cX4_isTree 53 = .ok (.iconst 0, 1) := by decide +kernel
theorem dX4_isTree_54 : decode cX4_isTree 54 = .ok (.ireturn, 1) := by decide +kernel
theorem dX4_isTree_55 : decode cX4_isTree 55 = .ok (.iinc 3 1, 3) := by decide +kernel
theorem dX4_isTree_58 : decode cX4_isTree 58 = .ok (.goto (-23), 3) := by decide +kernel
theorem dX4_isTree_61 : decode cX4_isTree 61 = .ok (.iinc 2 1, 3) := by decide +kernel
theorem dX4_isTree_64 : decode cX4_isTree 64 = .ok (.goto (-41), 3) := by decide +kernel
theorem dX4_isTree_67 : decode cX4_isTree 67 = .ok (.iinc 1 1, 3) := by decide +kernel
theorem dX4_isTree_70 : decode cX4_isTree 70 = .ok (.goto (-59), 3) := by decide +kernel
theorem dX4_isTree_73 : decode cX4_isTree 73 = .ok (.iconst 1, 1) := by decide +kernel
theorem dX4_isTree_74 : decode cX4_isTree 74 = .ok (.ireturn, 1) := by decide +kernel
set_option maxRecDepth 20000 in
theorem ggX4_hangsWithAll_X4_gap : GoodIn wsX4_hangsWithAll wsX4_gap := goodIn_r _ [10, 1, 11, 12, 13] (by decide +kernel) (by decide +kernel)
set_option maxRecDepth 20000 in
theorem gX4_hangsWithAll_X4_gap : GoodIn wsX4_hangsWithAll (wsV RX4 46 RX4 yX4_gap wsX4_gap) := goodIn_app (goodIn_of _ (by decide +kernel)) ggX4_hangsWithAll_X4_gap
theorem dX4_hangsWithAll_0 : decode cX4_hangsWithAll 0 = .ok (.iload_n 3, 1) := by decide +kernel
theorem dX4_hangsWithAll_1 : decode cX4_hangsWithAll 1 = .ok (.iconst 1, 1) := by decide +kernel
theorem dX4_hangsWithAll_2 : decode cX4_hangsWithAll 2 = .ok (.iadd, 1) := by decide +kernel
theorem dX4_hangsWithAll_3 : decode cX4_hangsWithAll 3 = .ok (.istore 4, 2) := by decide +kernel
theorem dX4_hangsWithAll_5 : decode cX4_hangsWithAll 5 = .ok (.iload 4, 2) := by decide +kernel
theorem dX4_hangsWithAll_7 : decode cX4_hangsWithAll 7 = .ok (.aload_n 0, 1) := by decide +kernel
theorem dX4_hangsWithAll_8 : decode cX4_hangsWithAll 8 = .ok (.getfield 28, 3) := by decide +kernel
theorem dX4_hangsWithAll_11 : decode cX4_hangsWithAll 11 = .ok (.if_icmp .ge 105, 3) := by decide +kernel
theorem dX4_hangsWithAll_14 : decode cX4_hangsWithAll 14 = .ok (.aload_n 0, 1) := by decide +kernel
theorem dX4_hangsWithAll_15 : decode cX4_hangsWithAll 15 = .ok (.iload_n 1, 1) := by decide +kernel
theorem dX4_hangsWithAll_16 : decode cX4_hangsWithAll 16 = .ok (.iload_n 2, 1) := by decide +kernel
theorem dX4_hangsWithAll_17 : decode cX4_hangsWithAll 17 = .ok (.invokevirtual 46, 3) := by decide +kernel
theorem dX4_hangsWithAll_20 : decode cX4_hangsWithAll 20 = .ok (.aload_n 0, 1) := by decide +kernel
theorem dX4_hangsWithAll_21 : decode cX4_hangsWithAll 21 = .ok (.iload_n 3, 1) := by decide +kernel
theorem dX4_hangsWithAll_22 : decode cX4_hangsWithAll 22 = .ok (.iload 4, 2) := by decide +kernel
theorem dX4_hangsWithAll_24 : decode cX4_hangsWithAll 24 = .ok (.invokevirtual 46, 3) := by decide +kernel
theorem dX4_hangsWithAll_27 : decode cX4_hangsWithAll 27 = .ok (.iadd, 1) := by decide +kernel
theorem dX4_hangsWithAll_28 : decode cX4_hangsWithAll 28 = .ok (.istore 5, 2) := by decide +kernel
theorem dX4_hangsWithAll_30 : decode cX4_hangsWithAll 30 = .ok (.aload_n 0, 1) := by decide +kernel
theorem dX4_hangsWithAll_31 : decode cX4_hangsWithAll 31 = .ok (.iload_n 1, 1) := by decide +kernel
theorem dX4_hangsWithAll_32 : decode cX4_hangsWithAll 32 = .ok (.iload_n 3, 1) := by decide +kernel
theorem dX4_hangsWithAll_33 : decode cX4_hangsWithAll 33 = .ok (.invokevirtual 46, 3) := by decide +kernel
theorem dX4_hangsWithAll_36 : decode cX4_hangsWithAll 36 = .ok (.aload_n 0, 1) := by decide +kernel
theorem dX4_hangsWithAll_37 : decode cX4_hangsWithAll 37 = .ok (.iload_n 2, 1) := by decide +kernel
theorem dX4_hangsWithAll_38 : decode cX4_hangsWithAll 38 = .ok (.iload 4, 2) := by decide +kernel
theorem dX4_hangsWithAll_40 : decode cX4_hangsWithAll 40 = .ok (.invokevirtual 46, 3) := by decide +kernel
theorem dX4_hangsWithAll_43 : decode cX4_hangsWithAll 43 = .ok (.iadd, 1) := by decide +kernel
theorem dX4_hangsWithAll_44 : decode cX4_hangsWithAll 44 = .ok (.istore 6, 2) := by decide +kernel
theorem dX4_hangsWithAll_46 : decode cX4_hangsWithAll 46 = .ok (.aload_n 0, 1) := by decide +kernel
theorem dX4_hangsWithAll_47 : decode cX4_hangsWithAll 47 = .ok (.iload_n 1, 1) := by decide +kernel
theorem dX4_hangsWithAll_48 : decode cX4_hangsWithAll 48 = .ok (.iload 4, 2) := by decide +kernel
theorem dX4_hangsWithAll_50 : decode cX4_hangsWithAll 50 = .ok (.invokevirtual 46, 3) := by decide +kernel
theorem dX4_hangsWithAll_53 : decode cX4_hangsWithAll 53 = .ok (.aload_n 0, 1) := by decide +kernel
theorem dX4_hangsWithAll_54 : decode cX4_hangsWithAll 54 = .ok (.iload_n 2, 1) := by decide +kernel
theorem dX4_hangsWithAll_55 : decode cX4_hangsWithAll 55 = .ok (.iload_n 3, 1) := by decide +kernel
theorem dX4_hangsWithAll_56 : decode cX4_hangsWithAll 56 = .ok (.invokevirtual 46, 3) := by decide +kernel
theorem dX4_hangsWithAll_59 : decode cX4_hangsWithAll 59 = .ok (.iadd, 1) := by decide +kernel
theorem dX4_hangsWithAll_60 : decode cX4_hangsWithAll 60 = .ok (.istore 7, 2) := by decide +kernel
theorem dX4_hangsWithAll_62 : decode cX4_hangsWithAll 62 = .ok (.iload 5, 2) := by decide +kernel
theorem dX4_hangsWithAll_64 : decode cX4_hangsWithAll 64 = .ok (.iload 6, 2) := by decide +kernel
theorem dX4_hangsWithAll_66 : decode cX4_hangsWithAll 66 = .ok (.if_icmp .ne 18, 3) := by decide +kernel
theorem dX4_hangsWithAll_69 : decode cX4_hangsWithAll 69 = .ok (.iload 7, 2) := by decide +kernel
theorem dX4_hangsWithAll_71 : decode cX4_hangsWithAll 71 = .ok (.iload 5, 2) := by decide +kernel
theorem dX4_hangsWithAll_73 : decode cX4_hangsWithAll 73 = .ok (.if_icmp .gt 7, 3) := by decide +kernel
theorem dX4_hangsWithAll_76 : decode cX4_hangsWithAll 76 = .ok (.iconst 1, 1) := by decide +kernel
theorem dX4_hangsWithAll_77 : decode cX4_hangsWithAll 77 = .ok (.goto 24, 3) := by decide +kernel
theorem dX4_hangsWithAll_80 : decode cX4_hangsWithAll 80 = .ok (.iconst 0, 1) := by decide +kernel
theorem dX4_hangsWithAll_81 : decode cX4_hangsWithAll 81 = .ok (.goto 20, 3) := by decide +kernel
theorem dX4_hangsWithAll_84 : decode cX4_hangsWithAll 84 = .ok (.iload 5, 2) := by decide +kernel
theorem dX4_hangsWithAll_86 : decode cX4_hangsWithAll 86 = .ok (.iload 6, 2) := by decide +kernel
theorem dX4_hangsWithAll_88 : decode cX4_hangsWithAll 88 = .ok (.invokestatic 25, 3) := by decide +kernel
theorem dX4_hangsWithAll_91 : decode cX4_hangsWithAll 91 = .ok (.iload 7, 2) := by decide +kernel
theorem dX4_hangsWithAll_93 : decode cX4_hangsWithAll 93 = .ok (.if_icmp .ne 7, 3) := by decide +kernel
theorem dX4_hangsWithAll_96 : decode cX4_hangsWithAll 96 = .ok (.iconst 1, 1) := by decide +kernel
theorem dX4_hangsWithAll_97 : decode cX4_hangsWithAll 97 = .ok (.goto 4, 3) := by decide +kernel
theorem dX4_hangsWithAll_100 : decode cX4_hangsWithAll 100 = .ok (.iconst 0, 1) := by decide +kernel
theorem dX4_hangsWithAll_101 : decode cX4_hangsWithAll 101 = .ok (.istore 8, 2) := by decide +kernel
theorem dX4_hangsWithAll_103 : decode cX4_hangsWithAll 103 = .ok (.iload 8, 2) := by decide +kernel
theorem dX4_hangsWithAll_105 : decode cX4_hangsWithAll 105 = .ok (.ifCond .ne 5, 3) := by decide +kernel
theorem dX4_hangsWithAll_108 : decode cX4_hangsWithAll 108 = .ok (.iconst 0, 1) := by decide +kernel
theorem dX4_hangsWithAll_109 : decode cX4_hangsWithAll 109 = .ok (.ireturn, 1) := by decide +kernel
theorem dX4_hangsWithAll_110 : decode cX4_hangsWithAll 110 = .ok (.iinc 4 1, 3) := by decide +kernel
theorem dX4_hangsWithAll_113 : decode cX4_hangsWithAll 113 = .ok (.goto (-108), 3) := by decide +kernel
theorem dX4_hangsWithAll_116 : decode cX4_hangsWithAll 116 = .ok (.iconst 1, 1) := by decide +kernel
theorem dX4_hangsWithAll_117 : decode cX4_hangsWithAll 117 = .ok (.ireturn, 1) := by decide +kernel
theorem dX4_isSplit_0 : decode cX4_isSplit 0 = .ok (.iload_n 1, 1) := by decide +kernel
theorem dX4_isSplit_1 : decode cX4_isSplit 1 = .ok (.ifCond .le 23, 3) := by decide +kernel
theorem dX4_isSplit_4 : decode cX4_isSplit 4 = .ok (.iload_n 1, 1) := by decide +kernel
theorem dX4_isSplit_5 : decode cX4_isSplit 5 = .ok (.iconst 1, 1) := by decide +kernel
theorem dX4_isSplit_6 : decode cX4_isSplit 6 = .ok (.iand, 1) := by decide +kernel
theorem dX4_isSplit_7 : decode cX4_isSplit 7 = .ok (.ifCond .ne 17, 3) := by decide +kernel
theorem dX4_isSplit_10 : decode cX4_isSplit 10 = .ok (.iload_n 1, 1) := by decide +kernel
theorem dX4_isSplit_11 : decode cX4_isSplit 11 = .ok (.iconst 1, 1) := by decide +kernel
theorem dX4_isSplit_12 : decode cX4_isSplit 12 = .ok (.aload_n 0, 1) := by decide +kernel
theorem dX4_isSplit_13 : decode cX4_isSplit 13 = .ok (.getfield 28, 3) := by decide +kernel
theorem dX4_isSplit_16 : decode cX4_isSplit 16 = .ok (.ishl, 1) := by decide +kernel
theorem dX4_isSplit_17 : decode cX4_isSplit 17 = .ok (.if_icmp .ge 7, 3) := by decide +kernel
theorem dX4_isSplit_20 : decode cX4_isSplit 20 = .ok (.iconst 1, 1) := by decide +kernel
theorem dX4_isSplit_21 : decode cX4_isSplit 21 = .ok (.goto 4, 3) := by decide +kernel
theorem dX4_isSplit_24 : decode cX4_isSplit 24 = .ok (.iconst 0, 1) := by decide +kernel
theorem dX4_isSplit_25 : decode cX4_isSplit 25 = .ok (.ireturn, 1) := by decide +kernel
set_option maxRecDepth 20000 in
theorem ggX4_weightOf_X4_weightBy : GoodIn wsX4_weightOf wsX4_weightBy := goodIn_r _ [10, 1, 11, 12, 4, 13, 2, 3, 5, 14, 15, 16, 9, 17, 18, 19, 20] (by decide +kernel) (by decide +kernel)
set_option maxRecDepth 20000 in
theorem gX4_weightOf_X4_weightBy : GoodIn wsX4_weightOf (wsV RX4 81 RX4 yX4_weightBy wsX4_weightBy) := goodIn_app (goodIn_of _ (by decide +kernel)) ggX4_weightOf_X4_weightBy
theorem dX4_weightOf_0 : decode cX4_weightOf 0 = .ok (.sipush 1000, 3) := by decide +kernel
theorem dX4_weightOf_3 : decode cX4_weightOf 3 = .ok (.istore_n 2, 1) := by decide +kernel
theorem dX4_weightOf_4 : decode cX4_weightOf 4 = .ok (.iconst 0, 1) := by decide +kernel
theorem dX4_weightOf_5 : decode cX4_weightOf 5 = .ok (.istore_n 3, 1) := by decide +kernel
theorem dX4_weightOf_6 : decode cX4_weightOf 6 = .ok (.iload_n 3, 1) := by decide +kernel
theorem dX4_weightOf_7 : decode cX4_weightOf 7 = .ok (.aload_n 0, 1) := by decide +kernel
theorem dX4_weightOf_8 : decode cX4_weightOf 8 = .ok (.getfield 28, 3) := by decide +kernel
theorem dX4_weightOf_11 : decode cX4_weightOf 11 = .ok (.if_icmp .ge 59, 3) := by decide +kernel
theorem dX4_weightOf_14 : decode cX4_weightOf 14 = .ok (.iload_n 3, 1) := by decide +kernel
theorem dX4_weightOf_15 : decode cX4_weightOf 15 = .ok (.istore 4, 2) := by decide +kernel
theorem dX4_weightOf_17 : decode cX4_weightOf 17 = .ok (.iload 4, 2) := by decide +kernel
theorem dX4_weightOf_19 : decode cX4_weightOf 19 = .ok (.aload_n 0, 1) := by decide +kernel
theorem dX4_weightOf_20 : decode cX4_weightOf 20 = .ok (.getfield 28, 3) := by decide +kernel
theorem dX4_weightOf_23 : decode cX4_weightOf 23 = .ok (.if_icmp .ge 41, 3) := by decide +kernel
theorem dX4_weightOf_26 : decode cX4_weightOf 26 = .ok (.iload_n 1, 1) := by decide +kernel
theorem dX4_weightOf_27 : decode cX4_weightOf 27 = .ok (.iload_n 3, 1) := by decide +kernel
theorem dX4_weightOf_28 : decode cX4_weightOf 28 = .ok (.ishr, 1) := by decide +kernel
theorem dX4_weightOf_29 : decode cX4_weightOf 29 = .ok (.iconst 1, 1) := by decide +kernel
theorem dX4_weightOf_30 : decode cX4_weightOf 30 = .ok (.iand, 1) := by decide +kernel
theorem dX4_weightOf_31 : decode cX4_weightOf 31 = .ok (.iconst 1, 1) := by decide +kernel
theorem dX4_weightOf_32 : decode cX4_weightOf 32 = .ok (.if_icmp .ne 26, 3) := by decide +kernel
theorem dX4_weightOf_35 : decode cX4_weightOf 35 = .ok (.iload_n 1, 1) := by decide +kernel
theorem dX4_weightOf_36 : decode cX4_weightOf 36 = .ok (.iload 4, 2) := by decide +kernel
theorem dX4_weightOf_38 : decode cX4_weightOf 38 = .ok (.ishr, 1) := by decide +kernel
theorem dX4_weightOf_39 : decode cX4_weightOf 39 = .ok (.iconst 1, 1) := by decide +kernel
theorem dX4_weightOf_40 : decode cX4_weightOf 40 = .ok (.iand, 1) := by decide +kernel
theorem dX4_weightOf_41 : decode cX4_weightOf 41 = .ok (.iconst 1, 1) := by decide +kernel
theorem dX4_weightOf_42 : decode cX4_weightOf 42 = .ok (.if_icmp .ne 16, 3) := by decide +kernel
theorem dX4_weightOf_45 : decode cX4_weightOf 45 = .ok (.iload_n 2, 1) := by decide +kernel
theorem dX4_weightOf_46 : decode cX4_weightOf 46 = .ok (.aload_n 0, 1) := by decide +kernel
theorem dX4_weightOf_47 : decode cX4_weightOf 47 = .ok (.iload_n 1, 1) := by decide +kernel
theorem dX4_weightOf_48 : decode cX4_weightOf 48 = .ok (.iload_n 3, 1) := by decide +kernel
theorem dX4_weightOf_49 : decode cX4_weightOf 49 = .ok (.iload 4, 2) := by decide +kernel
theorem dX4_weightOf_51 : decode cX4_weightOf 51 = .ok (.invokevirtual 81, 3) := by decide +kernel
theorem dX4_weightOf_54 : decode cX4_weightOf 54 = .ok (.invokestatic 19, 3) := by decide +kernel
theorem dX4_weightOf_57 : decode cX4_weightOf 57 = .ok (.istore_n 2, 1) := by decide +kernel
theorem dX4_weightOf_58 : decode cX4_weightOf 58 = .ok (.iinc 4 1, 3) := by decide +kernel
theorem dX4_weightOf_61 : decode cX4_weightOf 61 = .ok (.goto (-44), 3) := by decide +kernel
theorem dX4_weightOf_64 : decode cX4_weightOf 64 = .ok (.iinc 3 1, 3) := by decide +kernel
theorem dX4_weightOf_67 : decode cX4_weightOf 67 = .ok (.goto (-61), 3) := by decide +kernel
theorem dX4_weightOf_70 : decode cX4_weightOf 70 = .ok (.iload_n 2, 1) := by decide +kernel
theorem dX4_weightOf_71 : decode cX4_weightOf 71 = .ok (.ireturn, 1) := by decide +kernel
set_option maxRecDepth 20000 in
theorem ggX4_weightBy_X4_gap : GoodIn wsX4_weightBy wsX4_gap := goodIn_r _ [13, 1, 14, 15, 16] (by decide +kernel) (by decide +kernel)
set_option maxRecDepth 20000 in
theorem gX4_weightBy_X4_gap : GoodIn wsX4_weightBy (wsV RX4 46 RX4 yX4_gap wsX4_gap) := goodIn_app (goodIn_of _ (by decide +kernel)) ggX4_weightBy_X4_gap
theorem dX4_weightBy_0 : decode cX4_weightBy 0 = .ok (.sipush 1000, 3) := by decide +kernel
theorem dX4_weightBy_3 : decode cX4_weightBy 3 = .ok (.istore 4, 2) := by decide +kernel
theorem dX4_weightBy_5 : decode cX4_weightBy 5 = .ok (.iconst 0, 1) := by decide +kernel
theorem dX4_weightBy_6 : decode cX4_weightBy 6 = .ok (.istore 5, 2) := by decide +kernel
theorem dX4_weightBy_8 : decode cX4_weightBy 8 = .ok (.iload 5, 2) := by decide +kernel
theorem dX4_weightBy_10 : decode cX4_weightBy 10 = .ok (.aload_n 0, 1) := by decide +kernel
theorem dX4_weightBy_11 : decode cX4_weightBy 11 = .ok (.getfield 28, 3) := by decide +kernel
theorem dX4_weightBy_14 : decode cX4_weightBy 14 = .ok (.if_icmp .ge 115, 3) := by decide +kernel
theorem dX4_weightBy_17 : decode cX4_weightBy 17 = .ok (.iload 5, 2) := by decide +kernel
theorem dX4_weightBy_19 : decode cX4_weightBy 19 = .ok (.istore 6, 2) := by decide +kernel
theorem dX4_weightBy_21 : decode cX4_weightBy 21 = .ok (.iload 6, 2) := by decide +kernel
theorem dX4_weightBy_23 : decode cX4_weightBy 23 = .ok (.aload_n 0, 1) := by decide +kernel
theorem dX4_weightBy_24 : decode cX4_weightBy 24 = .ok (.getfield 28, 3) := by decide +kernel
theorem dX4_weightBy_27 : decode cX4_weightBy 27 = .ok (.if_icmp .ge 96, 3) := by decide +kernel
theorem dX4_weightBy_30 : decode cX4_weightBy 30 = .ok (.iload_n 1, 1) := by decide +kernel
theorem dX4_weightBy_31 : decode cX4_weightBy 31 = .ok (.iload 5, 2) := by decide +kernel
theorem dX4_weightBy_33 : decode cX4_weightBy 33 = .ok (.ishr, 1) := by decide +kernel
theorem dX4_weightBy_34 : decode cX4_weightBy 34 = .ok (.iconst 1, 1) := by decide +kernel
theorem dX4_weightBy_35 : decode cX4_weightBy 35 = .ok (.iand, 1) := by decide +kernel
theorem dX4_weightBy_36 : decode cX4_weightBy 36 = .ok (.ifCond .ne 81, 3) := by decide +kernel
theorem dX4_weightBy_39 : decode cX4_weightBy 39 = .ok (.iload_n 1, 1) := by decide +kernel
theorem dX4_weightBy_40 : decode cX4_weightBy 40 = .ok (.iload 6, 2) := by decide +kernel
theorem dX4_weightBy_42 : decode cX4_weightBy 42 = .ok (.ishr, 1) := by decide +kernel
theorem dX4_weightBy_43 : decode cX4_weightBy 43 = .ok (.iconst 1, 1) := by decide +kernel
theorem dX4_weightBy_44 : decode cX4_weightBy 44 = .ok (.iand, 1) := by decide +kernel
theorem dX4_weightBy_45 : decode cX4_weightBy 45 = .ok (.ifCond .ne 72, 3) := by decide +kernel
theorem dX4_weightBy_48 : decode cX4_weightBy 48 = .ok (.aload_n 0, 1) := by decide +kernel
theorem dX4_weightBy_49 : decode cX4_weightBy 49 = .ok (.iload_n 2, 1) := by decide +kernel
theorem dX4_weightBy_50 : decode cX4_weightBy 50 = .ok (.iload_n 3, 1) := by decide +kernel
theorem dX4_weightBy_51 : decode cX4_weightBy 51 = .ok (.invokevirtual 46, 3) := by decide +kernel
theorem dX4_weightBy_54 : decode cX4_weightBy 54 = .ok (.aload_n 0, 1) := by decide +kernel
theorem dX4_weightBy_55 : decode cX4_weightBy 55 = .ok (.iload 5, 2) := by decide +kernel
theorem dX4_weightBy_57 : decode cX4_weightBy 57 = .ok (.iload 6, 2) := by decide +kernel
theorem dX4_weightBy_59 : decode cX4_weightBy 59 = .ok (.invokevirtual 46, 3) := by decide +kernel
theorem dX4_weightBy_62 : decode cX4_weightBy 62 = .ok (.iadd, 1) := by decide +kernel
theorem dX4_weightBy_63 : decode cX4_weightBy 63 = .ok (.istore 7, 2) := by decide +kernel
theorem dX4_weightBy_65 : decode cX4_weightBy 65 = .ok (.aload_n 0, 1) := by decide +kernel
theorem dX4_weightBy_66 : decode cX4_weightBy 66 = .ok (.iload_n 2, 1) := by decide +kernel
theorem dX4_weightBy_67 : decode cX4_weightBy 67 = .ok (.iload 5, 2) := by decide +kernel
theorem dX4_weightBy_69 : decode cX4_weightBy 69 = .ok (.invokevirtual 46, 3) := by decide +kernel
theorem dX4_weightBy_72 : decode cX4_weightBy 72 = .ok (.aload_n 0, 1) := by decide +kernel
theorem dX4_weightBy_73 : decode cX4_weightBy 73 = .ok (.iload_n 3, 1) := by decide +kernel
theorem dX4_weightBy_74 : decode cX4_weightBy 74 = .ok (.iload 6, 2) := by decide +kernel
theorem dX4_weightBy_76 : decode cX4_weightBy 76 = .ok (.invokevirtual 46, 3) := by decide +kernel
theorem dX4_weightBy_79 : decode cX4_weightBy 79 = .ok (.iadd, 1) := by decide +kernel
theorem dX4_weightBy_80 : decode cX4_weightBy 80 = .ok (.aload_n 0, 1) := by decide +kernel
theorem dX4_weightBy_81 : decode cX4_weightBy 81 = .ok (.iload_n 2, 1) := by decide +kernel
theorem dX4_weightBy_82 : decode cX4_weightBy 82 = .ok (.iload 6, 2) := by decide +kernel
theorem dX4_weightBy_84 : decode cX4_weightBy 84 = .ok (.invokevirtual 46, 3) := by decide +kernel
theorem dX4_weightBy_87 : decode cX4_weightBy 87 = .ok (.aload_n 0, 1) := by decide +kernel
theorem dX4_weightBy_88 : decode cX4_weightBy 88 = .ok (.iload_n 3, 1) := by decide +kernel
theorem dX4_weightBy_89 : decode cX4_weightBy 89 = .ok (.iload 5, 2) := by decide +kernel
theorem dX4_weightBy_91 : decode cX4_weightBy 91 = .ok (.invokevirtual 46, 3) := by decide +kernel
theorem dX4_weightBy_94 : decode cX4_weightBy 94 = .ok (.iadd, 1) := by decide +kernel
theorem dX4_weightBy_95 : decode cX4_weightBy 95 = .ok (.invokestatic 25, 3) := by decide +kernel
theorem dX4_weightBy_98 : decode cX4_weightBy 98 = .ok (.istore 8, 2) := by decide +kernel
theorem dX4_weightBy_100 : decode cX4_weightBy 100 = .ok (.iload 4, 2) := by decide +kernel
theorem dX4_weightBy_102 : decode cX4_weightBy 102 = .ok (.iload 7, 2) := by decide +kernel
theorem dX4_weightBy_104 : decode cX4_weightBy 104 = .ok (.iload 8, 2) := by decide +kernel
theorem dX4_weightBy_106 : decode cX4_weightBy 106 = .ok (.invokestatic 25, 3) := by decide +kernel
theorem dX4_weightBy_109 : decode cX4_weightBy 109 = .ok (.iload 7, 2) := by decide +kernel
theorem dX4_weightBy_111 : decode cX4_weightBy 111 = .ok (.isub, 1) := by decide +kernel
theorem dX4_weightBy_112 : decode cX4_weightBy 112 = .ok (.invokestatic 19, 3) := by decide +kernel
theorem dX4_weightBy_115 : decode cX4_weightBy 115 = .ok (.istore 4, 2) := by decide +kernel
theorem dX4_weightBy_117 : decode cX4_weightBy 117 = .ok (.iinc 6 1, 3) := by decide +kernel
theorem dX4_weightBy_120 : decode cX4_weightBy 120 = .ok (.goto (-99), 3) := by decide +kernel
theorem dX4_weightBy_123 : decode cX4_weightBy 123 = .ok (.iinc 5 1, 3) := by decide +kernel
theorem dX4_weightBy_126 : decode cX4_weightBy 126 = .ok (.goto (-118), 3) := by decide +kernel
theorem dX4_weightBy_129 : decode cX4_weightBy 129 = .ok (.iload 4, 2) := by decide +kernel
theorem dX4_weightBy_131 : decode cX4_weightBy 131 = .ok (.ireturn, 1) := by decide +kernel
theorem dX5_init_0 : decode cX5_init 0 = .ok (.aload_n 0, 1) := by decide +kernel
theorem dX5_init_1 : decode cX5_init 1 = .ok (.invokespecial 1, 3) := by decide +kernel
theorem dX5_init_4 : decode cX5_init 4 = .ok (.aload_n 0, 1) := by decide +kernel
theorem dX5_init_5 : decode cX5_init 5 = .ok (.bipush 6, 2) := by decide +kernel
theorem dX5_init_7 : decode cX5_init 7 = .ok (.bipush 60, 2) := by decide +kernel
theorem dX5_init_9 : decode cX5_init 9 = .ok (.multianewarray 9 2, 4) := by decide +kernel
theorem dX5_init_13 : decode cX5_init 13 = .ok (.putfield 11, 3) := by decide +kernel
theorem dX5_init_16 : decode cX5_init 16 = .ok (.aload_n 0, 1) := by decide +kernel
theorem dX5_init_17 : decode cX5_init 17 = .ok (.bipush 6, 2) := by decide +kernel
theorem dX5_init_19 : decode cX5_init 19 = .ok (.newarray .int, 2) := by decide +kernel
theorem dX5_init_21 : decode cX5_init 21 = .ok (.putfield 14, 3) := by decide +kernel
theorem dX5_init_24 : decode cX5_init 24 = .ok (.aload_n 0, 1) := by decide +kernel
theorem dX5_init_25 : decode cX5_init 25 = .ok (.bipush 6, 2) := by decide +kernel
theorem dX5_init_27 : decode cX5_init 27 = .ok (.newarray .int, 2) := by decide +kernel
theorem dX5_init_29 : decode cX5_init 29 = .ok (.putfield 18, 3) := by decide +kernel
theorem dX5_init_32 : decode cX5_init 32 = .ok (.iconst 0, 1) := by decide +kernel
theorem dX5_init_33 : decode cX5_init 33 = .ok (.istore_n 1, 1) := by decide +kernel
theorem dX5_init_34 : decode cX5_init 34 = .ok (.iload_n 1, 1) := by decide +kernel
theorem dX5_init_35 : decode cX5_init 35 = .ok (.bipush 6, 2) := by decide +kernel
theorem dX5_init_37 : decode cX5_init 37 = .ok (.if_icmp .ge 16, 3) := by decide +kernel
theorem dX5_init_40 : decode cX5_init 40 = .ok (.aload_n 0, 1) := by decide +kernel
theorem dX5_init_41 : decode cX5_init 41 = .ok (.getfield 14, 3) := by decide +kernel
theorem dX5_init_44 : decode cX5_init 44 = .ok (.iload_n 1, 1) := by decide +kernel
theorem dX5_init_45 : decode cX5_init 45 = .ok (.iconst (-1), 1) := by decide +kernel
theorem dX5_init_46 : decode cX5_init 46 = .ok (.iastore, 1) := by decide +kernel
theorem dX5_init_47 : decode cX5_init 47 = .ok (.iinc 1 1, 3) := by decide +kernel
theorem dX5_init_50 : decode cX5_init 50 = .ok (.goto (-16), 3) := by decide +kernel
theorem dX5_init_53 : decode cX5_init 53 = .ok (.return_, 1) := by decide +kernel
theorem dX5_has_0 : decode cX5_has 0 = .ok (.iload_n 1, 1) := by decide +kernel
theorem dX5_has_1 : decode cX5_has 1 = .ok (.ifCond .lt 13, 3) := by decide +kernel
theorem dX5_has_4 : decode cX5_has 4 = .ok (.iload_n 1, 1) := by decide +kernel
theorem dX5_has_5 : decode cX5_has 5 = .ok (.bipush 6, 2) := by decide +kernel
theorem dX5_has_7 : decode cX5_has 7 = .ok (.if_icmp .ge 7, 3) := by decide +kernel
theorem dX5_has_10 : decode cX5_has 10 = .ok (.iconst 1, 1) := by decide +kernel
theorem dX5_has_11 : decode cX5_has 11 = .ok (.goto 4, 3) := by decide +kernel
theorem dX5_has_14 : decode cX5_has 14 = .ok (.iconst 0, 1) := by decide +kernel
theorem dX5_has_15 : decode cX5_has 15 = .ok (.ireturn, 1) := by decide +kernel
set_option maxRecDepth 20000 in
theorem ggX5_holdsNothing_X5_has : GoodIn wsX5_holdsNothing wsX5_has := goodIn_r _ [6] (by decide +kernel) (by decide +kernel)
set_option maxRecDepth 20000 in
theorem gX5_holdsNothing_X5_has : GoodIn wsX5_holdsNothing (wsV RX5 21 RX5 yX5_has wsX5_has) := goodIn_app (goodIn_of _ (by decide +kernel)) ggX5_holdsNothing_X5_has
theorem dX5_holdsNothing_0 : decode cX5_holdsNothing 0 = .ok (.aload_n 0, 1) := by decide +kernel
theorem dX5_holdsNothing_1 : decode cX5_holdsNothing 1 = .ok (.iload_n 1, 1) := by decide +kernel
theorem dX5_holdsNothing_2 : decode cX5_holdsNothing 2 = .ok (.invokevirtual 21, 3) := by decide +kernel
theorem dX5_holdsNothing_5 : decode cX5_holdsNothing 5 = .ok (.ifCond .eq 13, 3) := by decide +kernel
theorem dX5_holdsNothing_8 : decode cX5_holdsNothing 8 = .ok (.aload_n 0, 1) := by decide +kernel
theorem dX5_holdsNothing_9 : decode cX5_holdsNothing 9 = .ok (.getfield 14, 3) := by decide +kernel
theorem dX5_holdsNothing_12 : decode cX5_holdsNothing 12 = .ok (.iload_n 1, 1) := by decide +kernel
theorem dX5_holdsNothing_13 : decode cX5_holdsNothing 13 = .ok (.iaload, 1) := by decide +kernel
theorem dX5_holdsNothing_14 : decode cX5_holdsNothing 14 = .ok (.iconst (-1), 1) := by decide +kernel
theorem dX5_holdsNothing_15 : decode cX5_holdsNothing 15 = .ok (.if_icmp .ne 7, 3) := by decide +kernel
theorem dX5_holdsNothing_18 : decode cX5_holdsNothing 18 = .ok (.iconst 1, 1) := by decide +kernel
theorem dX5_holdsNothing_19 : decode cX5_holdsNothing 19 = .ok (.goto 4, 3) := by decide +kernel
theorem dX5_holdsNothing_22 : decode cX5_holdsNothing 22 = .ok (.iconst 0, 1) := by decide +kernel
theorem dX5_holdsNothing_23 : decode cX5_holdsNothing 23 = .ok (.ireturn, 1) := by decide +kernel
set_option maxRecDepth 20000 in
theorem ggX5_hasItem_X5_holdsNothing : GoodIn wsX5_hasItem wsX5_holdsNothing := goodIn_r _ [6, 7, 8, 9, 10, 5, 11, 12, 13, 14] (by decide +kernel) (by decide +kernel)
set_option maxRecDepth 20000 in
theorem gX5_hasItem_X5_holdsNothing : GoodIn wsX5_hasItem (wsV RX5 25 RX5 yX5_holdsNothing wsX5_holdsNothing) := goodIn_app (goodIn_of _ (by decide +kernel)) ggX5_hasItem_X5_holdsNothing
theorem dX5_hasItem_0 : decode cX5_hasItem 0 = .ok (.aload_n 0, 1) := by decide +kernel
theorem dX5_hasItem_1 : decode cX5_hasItem 1 = .ok (.iload_n 1, 1) := by decide +kernel
theorem dX5_hasItem_2 : decode cX5_hasItem 2 = .ok (.invokevirtual 25, 3) := by decide +kernel
theorem dX5_hasItem_5 : decode cX5_hasItem 5 = .ok (.ifCond .ne 21, 3) := by decide +kernel
theorem dX5_hasItem_8 : decode cX5_hasItem 8 = .ok (.iload_n 2, 1) := by decide +kernel
theorem dX5_hasItem_9 : decode cX5_hasItem 9 = .ok (.ifCond .lt 17, 3) := by decide +kernel
theorem dX5_hasItem_12 : decode cX5_hasItem 12 = .ok (.iload_n 2, 1) := by decide +kernel
theorem dX5_hasItem_13 : decode cX5_hasItem 13 = .ok (.aload_n 0, 1) := by decide +kernel
theorem dX5_hasItem_14 : decode cX5_hasItem 14 = .ok (.getfield 18, 3) := by decide +kernel
theorem dX5_hasItem_17 : decode cX5_hasItem 17 = .ok (.iload_n 1, 1) := by decide +kernel
theorem dX5_hasItem_18 : decode cX5_hasItem 18 = .ok (.iaload, 1) := by decide +kernel
theorem dX5_hasItem_19 : decode cX5_hasItem 19 = .ok (.if_icmp .ge 7, 3) := by decide +kernel
theorem dX5_hasItem_22 : decode cX5_hasItem 22 = .ok (.iconst 1, 1) := by decide +kernel
theorem dX5_hasItem_23 : decode cX5_hasItem 23 = .ok (.goto 4, 3) := by decide +kernel
theorem dX5_hasItem_26 : decode cX5_hasItem 26 = .ok (.iconst 0, 1) := by decide +kernel
theorem dX5_hasItem_27 : decode cX5_hasItem 27 = .ok (.ireturn, 1) := by decide +kernel
set_option maxRecDepth 20000 in
theorem ggX5_hasRun_X5_holdsNothing : GoodIn wsX5_hasRun wsX5_holdsNothing := goodIn_r _ [6, 7, 8, 9, 10, 5, 11, 12, 13, 14] (by decide +kernel) (by decide +kernel)
set_option maxRecDepth 20000 in
theorem gX5_hasRun_X5_holdsNothing : GoodIn wsX5_hasRun (wsV RX5 25 RX5 yX5_holdsNothing wsX5_holdsNothing) := goodIn_app (goodIn_of _ (by decide +kernel)) ggX5_hasRun_X5_holdsNothing
theorem dX5_hasRun_0 : decode cX5_hasRun 0 = .ok (.aload_n 0, 1) := by decide +kernel
theorem dX5_hasRun_1 : decode cX5_hasRun 1 = .ok (.iload_n 1, 1) := by decide +kernel
theorem dX5_hasRun_2 : decode cX5_hasRun 2 = .ok (.invokevirtual 25, 3) := by decide +kernel
theorem dX5_hasRun_5 : decode cX5_hasRun 5 = .ok (.ifCond .ne 11, 3) := by decide +kernel
theorem dX5_hasRun_8 : decode cX5_hasRun 8 = .ok (.iload_n 3, 1) := by decide +kernel
theorem dX5_hasRun_9 : decode cX5_hasRun 9 = .ok (.ifCond .lt 7, 3) := by decide +kernel
theorem dX5_hasRun_12 : decode cX5_hasRun 12 = .ok (.iload_n 2, 1) := by decide +kernel
theorem dX5_hasRun_13 : decode cX5_hasRun 13 = .ok (.ifCond .ge 5, 3) := by decide +kernel
theorem dX5_hasRun_16 : decode cX5_hasRun 16 = .ok (.iconst 0, 1) := by decide +kernel
theorem dX5_hasRun_17 : decode cX5_hasRun 17 = .ok (.ireturn, 1) := by decide +kernel
theorem dX5_hasRun_18 : decode cX5_hasRun 18 = .ok (.iload_n 3, 1) := by decide +kernel
theorem dX5_hasRun_19 : decode cX5_hasRun 19 = .ok (.aload_n 0, 1) := by decide +kernel
theorem dX5_hasRun_20 : decode cX5_hasRun 20 = .ok (.getfield 18, 3) := by decide +kernel
theorem dX5_hasRun_23 : decode cX5_hasRun 23 = .ok (.iload_n 1, 1) := by decide +kernel
theorem dX5_hasRun_24 : decode cX5_hasRun 24 = .ok (.iaload, 1) := by decide +kernel
theorem dX5_hasRun_25 : decode cX5_hasRun 25 = .ok (.if_icmp .gt 19, 3) := by decide +kernel
theorem dX5_hasRun_28 : decode cX5_hasRun 28 = .ok (.iload_n 2, 1) := by decide +kernel
theorem dX5_hasRun_29 : decode cX5_hasRun 29 = .ok (.aload_n 0, 1) := by decide +kernel
theorem dX5_hasRun_30 : decode cX5_hasRun 30 = .ok (.getfield 18, 3) := by decide +kernel
theorem dX5_hasRun_33 : decode cX5_hasRun 33 = .ok (.iload_n 1, 1) := by decide +kernel
theorem dX5_hasRun_34 : decode cX5_hasRun 34 = .ok (.iaload, 1) := by decide +kernel
theorem dX5_hasRun_35 : decode cX5_hasRun 35 = .ok (.iload_n 3, 1) := by decide +kernel
theorem dX5_hasRun_36 : decode cX5_hasRun 36 = .ok (.isub, 1) := by decide +kernel
theorem dX5_hasRun_37 : decode cX5_hasRun 37 = .ok (.if_icmp .gt 7, 3) := by decide +kernel
theorem dX5_hasRun_40 : decode cX5_hasRun 40 = .ok (.iconst 1, 1) := by decide +kernel
theorem dX5_hasRun_41 : decode cX5_hasRun 41 = .ok (.goto 4, 3) := by decide +kernel
theorem dX5_hasRun_44 : decode cX5_hasRun 44 = .ok (.iconst 0, 1) := by decide +kernel
theorem dX5_hasRun_45 : decode cX5_hasRun 45 = .ok (.ireturn, 1) := by decide +kernel
theorem dX5_lay_0 : decode cX5_lay 0 = .ok (.aload_n 0, 1) := by decide +kernel
theorem dX5_lay_1 : decode cX5_lay 1 = .ok (.getfield 14, 3) := by decide +kernel
theorem dX5_lay_4 : decode cX5_lay 4 = .ok (.iload_n 1, 1) := by decide +kernel
theorem dX5_lay_5 : decode cX5_lay 5 = .ok (.iload_n 2, 1) := by decide +kernel
theorem dX5_lay_6 : decode cX5_lay 6 = .ok (.iastore, 1) := by decide +kernel
theorem dX5_lay_7 : decode cX5_lay 7 = .ok (.aload_n 0, 1) := by decide +kernel
theorem dX5_lay_8 : decode cX5_lay 8 = .ok (.getfield 18, 3) := by decide +kernel
theorem dX5_lay_11 : decode cX5_lay 11 = .ok (.iload_n 1, 1) := by decide +kernel
theorem dX5_lay_12 : decode cX5_lay 12 = .ok (.iload_n 3, 1) := by decide +kernel
theorem dX5_lay_13 : decode cX5_lay 13 = .ok (.iastore, 1) := by decide +kernel
theorem dX5_lay_14 : decode cX5_lay 14 = .ok (.iconst 0, 1) := by decide +kernel
theorem dX5_lay_15 : decode cX5_lay 15 = .ok (.istore 4, 2) := by decide +kernel
theorem dX5_lay_17 : decode cX5_lay 17 = .ok (.iload 4, 2) := by decide +kernel
theorem dX5_lay_19 : decode cX5_lay 19 = .ok (.bipush 60, 2) := by decide +kernel
theorem dX5_lay_21 : decode cX5_lay 21 = .ok (.if_icmp .ge 19, 3) := by decide +kernel
theorem dX5_lay_24 : decode cX5_lay 24 = .ok (.aload_n 0, 1) := by decide +kernel
theorem dX5_lay_25 : decode cX5_lay 25 = .ok (.getfield 11, 3) := by decide +kernel
theorem dX5_lay_28 : decode cX5_lay 28 = .ok (.iload_n 1, 1) := by decide +kernel
theorem dX5_lay_29 : decode cX5_lay 29 = .ok (.aaload, 1) := by decide +kernel
theorem dX5_lay_30 : decode cX5_lay 30 = .ok (.iload 4, 2) := by decide +kernel
theorem dX5_lay_32 : decode cX5_lay 32 = .ok (.lconst 0, 1) := by decide +kernel
theorem dX5_lay_33 : decode cX5_lay 33 = .ok (.lastore, 1) := by decide +kernel
theorem dX5_lay_34 : decode cX5_lay 34 = .ok (.iinc 4 1, 3) := by decide +kernel
theorem dX5_lay_37 : decode cX5_lay 37 = .ok (.goto (-20), 3) := by decide +kernel
theorem dX5_lay_40 : decode cX5_lay 40 = .ok (.iconst 1, 1) := by decide +kernel
theorem dX5_lay_41 : decode cX5_lay 41 = .ok (.ireturn, 1) := by decide +kernel
set_option maxRecDepth 20000 in
theorem ggX5_change_X5_hasItem : GoodIn wsX5_change wsX5_hasItem := goodIn_r _ [7, 8, 9, 10, 11, 6, 12, 2, 13, 14, 15, 16, 20, 21, 22] (by decide +kernel) (by decide +kernel)
set_option maxRecDepth 20000 in
theorem gX5_change_X5_hasItem : GoodIn wsX5_change (wsV RX5 28 RX5 yX5_hasItem wsX5_hasItem) := goodIn_app (goodIn_of _ (by decide +kernel)) ggX5_change_X5_hasItem
set_option maxRecDepth 20000 in
theorem ggX5_change_X5_lowestBits : GoodIn wsX5_change wsX5_lowestBits := goodIn_r _ [19] (by decide +kernel) (by decide +kernel)
set_option maxRecDepth 20000 in
theorem gX5_change_X5_lowestBits : GoodIn wsX5_change (va_wsS RX5 32 yX5_lowestBits wsX5_lowestBits) := goodIn_app (goodIn_of _ (by decide +kernel)) ggX5_change_X5_lowestBits
theorem dX5_change_0 : decode cX5_change 0 = .ok (.aload_n 0, 1) := by decide +kernel
theorem dX5_change_1 : decode cX5_change 1 = .ok (.iload_n 1, 1) := by decide +kernel
theorem dX5_change_2 : decode cX5_change 2 = .ok (.iload_n 2, 1) := by decide +kernel
theorem dX5_change_3 : decode cX5_change 3 = .ok (.invokevirtual 28, 3) := by decide +kernel
theorem dX5_change_6 : decode cX5_change 6 = .ok (.ifCond .ne 5, 3) := by decide +kernel
theorem dX5_change_9 : decode cX5_change 9 = .ok (.iconst 0, 1) := by decide +kernel
theorem dX5_change_10 : decode cX5_change 10 = .ok (.ireturn, 1) := by decide +kernel
theorem dX5_change_11 : decode cX5_change 11 = .ok (.aload_n 0, 1) := by decide +kernel
theorem dX5_change_12 : decode cX5_change 12 = .ok (.getfield 11, 3) := by decide +kernel
theorem dX5_change_15 : decode cX5_change 15 = .ok (.iload_n 1, 1) := by decide +kernel
theorem dX5_change_16 : decode cX5_change 16 = .ok (.aaload, 1) := by decide +kernel
theorem dX5_change_17 : decode cX5_change 17 = .ok (.iload_n 2, 1) := by decide +kernel
theorem dX5_change_18 : decode cX5_change 18 = .ok (.aload_n 0, 1) := by decide +kernel
theorem dX5_change_19 : decode cX5_change 19 = .ok (.getfield 14, 3) := by decide +kernel
theorem dX5_change_22 : decode cX5_change 22 = .ok (.iload_n 1, 1) := by decide +kernel
theorem dX5_change_23 : decode cX5_change 23 = .ok (.iaload, 1) := by decide +kernel
theorem dX5_change_24 : decode cX5_change 24 = .ok (.lload_n 3, 1) := by decide +kernel
theorem dX5_change_25 : decode cX5_change 25 = .ok (.invokestatic 32, 3) := by decide +kernel
theorem dX5_change_28 : decode cX5_change 28 = .ok (.lastore, 1) := by decide +kernel
theorem dX5_change_29 : decode cX5_change 29 = .ok (.iconst 1, 1) := by decide +kernel
theorem dX5_change_30 : decode cX5_change 30 = .ok (.ireturn, 1) := by decide +kernel
theorem dX5_lowestBits_0 : decode cX5_lowestBits 0 = .ok (.iload_n 0, 1) := by decide +kernel
theorem dX5_lowestBits_1 : decode cX5_lowestBits 1 = .ok (.tableswitch 61 0 4 #[35, 40, 45, 61, 49], 35) := by decide +kernel
theorem dX5_lowestBits_36 : decode cX5_lowestBits 36 = .ok (.lload_n 1, 1) := by decide +kernel
theorem dX5_lowestBits_37 : decode cX5_lowestBits 37 = .ok (.l2i, 1) := by decide +kernel
theorem dX5_lowestBits_38 : decode cX5_lowestBits 38 = .ok (.i2b, 1) := by decide +kernel
theorem dX5_lowestBits_39 : decode cX5_lowestBits 39 = .ok (.i2l, 1) := by decide +kernel
theorem dX5_lowestBits_40 : decode cX5_lowestBits 40 = .ok (.lreturn, 1) := by decide +kernel
theorem dX5_lowestBits_41 : decode cX5_lowestBits 41 = .ok (.lload_n 1, 1) := by decide +kernel
theorem dX5_lowestBits_42 : decode cX5_lowestBits 42 = .ok (.l2i, 1) := by decide +kernel
theorem dX5_lowestBits_43 : decode cX5_lowestBits 43 = .ok (.i2s, 1) := by decide +kernel
theorem dX5_lowestBits_44 : decode cX5_lowestBits 44 = .ok (.i2l, 1) := by decide +kernel
theorem dX5_lowestBits_45 : decode cX5_lowestBits 45 = .ok (.lreturn, 1) := by decide +kernel
theorem dX5_lowestBits_46 : decode cX5_lowestBits 46 = .ok (.lload_n 1, 1) := by decide +kernel
theorem dX5_lowestBits_47 : decode cX5_lowestBits 47 = .ok (.l2i, 1) := by decide +kernel
theorem dX5_lowestBits_48 : decode cX5_lowestBits 48 = .ok (.i2l, 1) := by decide +kernel
theorem dX5_lowestBits_49 : decode cX5_lowestBits 49 = .ok (.lreturn, 1) := by decide +kernel
theorem dX5_lowestBits_50 : decode cX5_lowestBits 50 = .ok (.lload_n 1, 1) := by decide +kernel
theorem dX5_lowestBits_51 : decode cX5_lowestBits 51 = .ok (.lconst 0, 1) := by decide +kernel
theorem dX5_lowestBits_52 : decode cX5_lowestBits 52 = .ok (.lcmp, 1) := by decide +kernel
theorem dX5_lowestBits_53 : decode cX5_lowestBits 53 = .ok (.ifCond .eq 7, 3) := by decide +kernel
theorem dX5_lowestBits_56 : decode cX5_lowestBits 56 = .ok (.lconst 1, 1) := by decide +kernel
theorem dX5_lowestBits_57 : decode cX5_lowestBits 57 = .ok (.goto 4, 3) := by decide +kernel
theorem dX5_lowestBits_60 : decode cX5_lowestBits 60 = .ok (.lconst 0, 1) := by decide +kernel
theorem dX5_lowestBits_61 : decode cX5_lowestBits 61 = .ok (.lreturn, 1) := by decide +kernel
theorem dX5_lowestBits_62 : decode cX5_lowestBits 62 = .ok (.lload_n 1, 1) := by decide +kernel
theorem dX5_lowestBits_63 : decode cX5_lowestBits 63 = .ok (.lreturn, 1) := by decide +kernel
theorem dX6_init_0 : decode cX6_init 0 = .ok (.aload_n 0, 1) := by decide +kernel
theorem dX6_init_1 : decode cX6_init 1 = .ok (.invokespecial 1, 3) := by decide +kernel
theorem dX6_init_4 : decode cX6_init 4 = .ok (.aload_n 0, 1) := by decide +kernel
theorem dX6_init_5 : decode cX6_init 5 = .ok (.bipush 100, 2) := by decide +kernel
theorem dX6_init_7 : decode cX6_init 7 = .ok (.newarray .byte, 2) := by decide +kernel
theorem dX6_init_9 : decode cX6_init 9 = .ok (.putfield 9, 3) := by decide +kernel
theorem dX6_init_12 : decode cX6_init 12 = .ok (.aload_n 0, 1) := by decide +kernel
theorem dX6_init_13 : decode cX6_init 13 = .ok (.iconst 0, 1) := by decide +kernel
theorem dX6_init_14 : decode cX6_init 14 = .ok (.putfield 13, 3) := by decide +kernel
theorem dX6_init_17 : decode cX6_init 17 = .ok (.aload_n 0, 1) := by decide +kernel
theorem dX6_init_18 : decode cX6_init 18 = .ok (.bipush 12, 2) := by decide +kernel
theorem dX6_init_20 : decode cX6_init 20 = .ok (.newarray .int, 2) := by decide +kernel
theorem dX6_init_22 : decode cX6_init 22 = .ok (.putfield 17, 3) := by decide +kernel
theorem dX6_init_25 : decode cX6_init 25 = .ok (.aload_n 0, 1) := by decide +kernel
theorem dX6_init_26 : decode cX6_init 26 = .ok (.iconst 0, 1) := by decide +kernel
theorem dX6_init_27 : decode cX6_init 27 = .ok (.putfield 21, 3) := by decide +kernel
theorem dX6_init_30 : decode cX6_init 30 = .ok (.return_, 1) := by decide +kernel
theorem dX6_add_0 : decode cX6_add 0 = .ok (.aload_n 0, 1) := by decide +kernel
theorem dX6_add_1 : decode cX6_add 1 = .ok (.getfield 13, 3) := by decide +kernel
theorem dX6_add_4 : decode cX6_add 4 = .ok (.bipush 100, 2) := by decide +kernel
theorem dX6_add_6 : decode cX6_add 6 = .ok (.if_icmp .lt 5, 3) := by decide +kernel
theorem dX6_add_9 : decode cX6_add 9 = .ok (.iconst 0, 1) := by decide +kernel
theorem dX6_add_10 : decode cX6_add 10 = .ok (.ireturn, 1) := by decide +kernel
theorem dX6_add_11 : decode cX6_add 11 = .ok (.aload_n 0, 1) := by decide +kernel
theorem dX6_add_12 : decode cX6_add 12 = .ok (.getfield 9, 3) := by decide +kernel
theorem dX6_add_15 : decode cX6_add 15 = .ok (.aload_n 0, 1) := by decide +kernel
theorem dX6_add_16 : decode cX6_add 16 = .ok (.getfield 13, 3) := by decide +kernel
theorem dX6_add_19 : decode cX6_add 19 = .ok (.iload_n 1, 1) := by decide +kernel
theorem dX6_add_20 : decode cX6_add 20 = .ok (.i2b, 1) := by decide +kernel
theorem dX6_add_21 : decode cX6_add 21 = .ok (.bastore, 1) := by decide +kernel
theorem dX6_add_22 : decode cX6_add 22 = .ok (.aload_n 0, 1) := by decide +kernel
theorem dX6_add_23 : decode cX6_add 23 = .ok (.dup, 1) := by decide +kernel
theorem dX6_add_24 : decode cX6_add 24 = .ok (.getfield 13, 3) := by decide +kernel
theorem dX6_add_27 : decode cX6_add 27 = .ok (.iconst 1, 1) := by decide +kernel
theorem dX6_add_28 : decode cX6_add 28 = .ok (.iadd, 1) := by decide +kernel
theorem dX6_add_29 : decode cX6_add 29 = .ok (.putfield 13, 3) := by decide +kernel
theorem dX6_add_32 : decode cX6_add 32 = .ok (.iconst 1, 1) := by decide +kernel
theorem dX6_add_33 : decode cX6_add 33 = .ok (.ireturn, 1) := by decide +kernel
theorem dX6_empty_0 : decode cX6_empty 0 = .ok (.aload_n 0, 1) := by decide +kernel
theorem dX6_empty_1 : decode cX6_empty 1 = .ok (.iconst 0, 1) := by decide +kernel
theorem dX6_empty_2 : decode cX6_empty 2 = .ok (.putfield 13, 3) := by decide +kernel
theorem dX6_empty_5 : decode cX6_empty 5 = .ok (.aload_n 0, 1) := by decide +kernel
theorem dX6_empty_6 : decode cX6_empty 6 = .ok (.iconst 0, 1) := by decide +kernel
theorem dX6_empty_7 : decode cX6_empty 7 = .ok (.putfield 21, 3) := by decide +kernel
theorem dX6_empty_10 : decode cX6_empty 10 = .ok (.return_, 1) := by decide +kernel
set_option maxRecDepth 20000 in
theorem ggX6_firstFault_X6_pastClause : GoodIn wsX6_firstFault wsX6_pastClause := goodIn_r _ [8, 9, 10, 11, 7, 12, 3, 13, 14, 15, 16, 17, 18, 19, 20, 21, 22, 23, 24, 25, 26, 27, 28, 29, 30, 31] (by decide +kernel) (by decide +kernel)
set_option maxRecDepth 20000 in
theorem gX6_firstFault_X6_pastClause : GoodIn wsX6_firstFault (wsV RX6 24 RX6 yX6_pastClause wsX6_pastClause) := goodIn_app (goodIn_of _ (by decide +kernel)) ggX6_firstFault_X6_pastClause
set_option maxRecDepth 20000 in
theorem ggX6_firstFault_X6_turned : GoodIn wsX6_firstFault wsX6_turned := goodIn_r _ [23] (by decide +kernel) (by decide +kernel)
set_option maxRecDepth 20000 in
theorem gX6_firstFault_X6_turned : GoodIn wsX6_firstFault (va_wsS RX6 28 yX6_turned wsX6_turned) := goodIn_app (goodIn_of _ (by decide +kernel)) ggX6_firstFault_X6_turned
set_option maxRecDepth 20000 in
theorem ggX6_firstFault_X6_signAt : GoodIn wsX6_firstFault wsX6_signAt := goodIn_r _ [12, 3, 13, 28, 29, 30, 31] (by decide +kernel) (by decide +kernel)
set_option maxRecDepth 20000 in
theorem gX6_firstFault_X6_signAt : GoodIn wsX6_firstFault (wsV RX6 31 RX6 yX6_signAt wsX6_signAt) := goodIn_app (goodIn_of _ (by decide +kernel)) ggX6_firstFault_X6_signAt
theorem dX6_firstFault_0 : decode cX6_firstFault 0 = .ok (.aload_n 0, 1) := by decide +kernel
theorem dX6_firstFault_1 : decode cX6_firstFault 1 = .ok (.iconst 0, 1) := by decide +kernel
theorem dX6_firstFault_2 : decode cX6_firstFault 2 = .ok (.putfield 21, 3) := by decide +kernel
theorem dX6_firstFault_5 : decode cX6_firstFault 5 = .ok (.iconst 0, 1) := by decide +kernel
theorem dX6_firstFault_6 : decode cX6_firstFault 6 = .ok (.istore_n 1, 1) := by decide +kernel
theorem dX6_firstFault_7 : decode cX6_firstFault 7 = .ok (.iconst 0, 1) := by decide +kernel
theorem dX6_firstFault_8 : decode cX6_firstFault 8 = .ok (.istore_n 2, 1) := by decide +kernel
theorem dX6_firstFault_9 : decode cX6_firstFault 9 = .ok (.iload_n 2, 1) := by decide +kernel
theorem dX6_firstFault_10 : decode cX6_firstFault 10 = .ok (.bipush 12, 2) := by decide +kernel
theorem dX6_firstFault_12 : decode cX6_firstFault 12 = .ok (.if_icmp .ge 64, 3) := by decide +kernel
theorem dX6_firstFault_15 : decode cX6_firstFault 15 = .ok (.aload_n 0, 1) := by decide +kernel
theorem dX6_firstFault_16 : decode cX6_firstFault 16 = .ok (.getfield 17, 3) := by decide +kernel
theorem dX6_firstFault_19 : decode cX6_firstFault 19 = .ok (.iload_n 2, 1) := by decide +kernel
theorem dX6_firstFault_20 : decode cX6_firstFault 20 = .ok (.iload_n 1, 1) := by decide +kernel
theorem dX6_firstFault_21 : decode cX6_firstFault 21 = .ok (.iastore, 1) := by decide +kernel
theorem dX6_firstFault_22 : decode cX6_firstFault 22 = .ok (.aload_n 0, 1) := by decide +kernel
theorem dX6_firstFault_23 : decode cX6_firstFault 23 = .ok (.iload_n 1, 1) := by decide +kernel
theorem dX6_firstFault_24 : decode cX6_firstFault 24 = .ok (.invokevirtual 24, 3) := by decide +kernel
theorem dX6_firstFault_27 : decode cX6_firstFault 27 = .ok (.istore_n 3, 1) := by decide +kernel
theorem dX6_firstFault_28 : decode cX6_firstFault 28 = .ok (.iload_n 3, 1) := by decide +kernel
theorem dX6_firstFault_29 : decode cX6_firstFault 29 = .ok (.ifCond .ge 8, 3) := by decide +kernel
theorem dX6_firstFault_32 : decode cX6_firstFault 32 = .ok (.iload_n 3, 1) := by decide +kernel
theorem dX6_firstFault_33 : decode cX6_firstFault 33 = .ok (.invokestatic 28, 3) := by decide +kernel
theorem dX6_firstFault_36 : decode cX6_firstFault 36 = .ok (.ireturn, 1) := by decide +kernel
theorem dX6_firstFault_37 : decode cX6_firstFault 37 = .ok (.aload_n 0, 1) := by decide +kernel
theorem dX6_firstFault_38 : decode cX6_firstFault 38 = .ok (.iload_n 2, 1) := by decide +kernel
theorem dX6_firstFault_39 : decode cX6_firstFault 39 = .ok (.iconst 1, 1) := by decide +kernel
theorem dX6_firstFault_40 : decode cX6_firstFault 40 = .ok (.iadd, 1) := by decide +kernel
theorem dX6_firstFault_41 : decode cX6_firstFault 41 = .ok (.putfield 21, 3) := by decide +kernel
theorem dX6_firstFault_44 : decode cX6_firstFault 44 = .ok (.iload_n 3, 1) := by decide +kernel
theorem dX6_firstFault_45 : decode cX6_firstFault 45 = .ok (.aload_n 0, 1) := by decide +kernel
theorem dX6_firstFault_46 : decode cX6_firstFault 46 = .ok (.getfield 13, 3) := by decide +kernel
theorem dX6_firstFault_49 : decode cX6_firstFault 49 = .ok (.if_icmp .lt 5, 3) := by decide +kernel
theorem dX6_firstFault_52 : decode cX6_firstFault 52 = .ok (.iconst (-1), 1) := by decide +kernel
theorem dX6_firstFault_53 : decode cX6_firstFault 53 = .ok (.ireturn, 1) := by decide +kernel
theorem dX6_firstFault_54 : decode cX6_firstFault 54 = .ok (.aload_n 0, 1) := by decide +kernel
theorem dX6_firstFault_55 : decode cX6_firstFault 55 = .ok (.iload_n 3, 1) := by decide +kernel
theorem dX6_firstFault_56 : decode cX6_firstFault 56 = .ok (.invokevirtual 31, 3) := by decide +kernel
theorem dX6_firstFault_59 : decode cX6_firstFault 59 = .ok (.bipush 59, 2) := by decide +kernel
theorem dX6_firstFault_61 : decode cX6_firstFault 61 = .ok (.if_icmp .eq 5, 3) := by decide +kernel
theorem dX6_firstFault_64 : decode cX6_firstFault 64 = .ok (.iload_n 3, 1) := by decide +kernel
theorem dX6_firstFault_65 : decode cX6_firstFault 65 = .ok (.ireturn, 1) := by decide +kernel
theorem dX6_firstFault_66 : decode cX6_firstFault 66 = .ok (.iload_n 3, 1) := by decide +kernel
theorem dX6_firstFault_67 : decode cX6_firstFault 67 = .ok (.iconst 1, 1) := by decide +kernel
theorem dX6_firstFault_68 : decode cX6_firstFault 68 = .ok (.iadd, 1) := by decide +kernel
theorem dX6_firstFault_69 : decode cX6_firstFault 69 = .ok (.istore_n 1, 1) := by decide +kernel
theorem dX6_firstFault_70 : decode cX6_firstFault 70 = .ok (.iinc 2 1, 3) := by decide +kernel
theorem dX6_firstFault_73 : decode cX6_firstFault 73 = .ok (.goto (-64), 3) := by decide +kernel
theorem dX6_firstFault_76 : decode cX6_firstFault 76 = .ok (.iload_n 1, 1) := by decide +kernel
theorem dX6_firstFault_77 : decode cX6_firstFault 77 = .ok (.iconst 1, 1) := by decide +kernel
theorem dX6_firstFault_78 : decode cX6_firstFault 78 = .ok (.isub, 1) := by decide +kernel
theorem dX6_firstFault_79 : decode cX6_firstFault 79 = .ok (.ireturn, 1) := by decide +kernel
set_option maxRecDepth 20000 in
theorem ggX6_carryOut_X6_doClause : GoodIn wsX6_carryOut wsX6_doClause := goodIn_r _ [7, 8, 9, 10, 11, 6, 12, 13, 14, 15, 16, 17, 18, 19, 20, 21, 22, 23, 24, 25, 26, 27, 28, 29, 30, 31, 32, 33, 34, 35, 36, 37, 38, 39, 40, 41, 42, 43, 44, 45, 46, 47, 48, 49, 50, 51, 52, 53, 54, 55, 56, 57, 58, 59, 60, 61, 62, 63, 64, 65, 66, 67, 68, 69, 70, 71, 72, 73, 74, 75, 76, 77, 78, 79, 80, 81, 82, 83, 84, 85, 86, 87, 88, 89, 90, 91, 92, 93, 94, 95, 96, 97, 98, 99, 104, 105, 106, 107, 108, 109, 100, 101, 102, 103, 110, 111] (by decide +kernel) (by decide +kernel)
set_option maxRecDepth 20000 in
theorem gX6_carryOut_X6_doClause : GoodIn wsX6_carryOut (wsV RX6 34 RX6 yX6_doClause wsX6_doClause) := goodIn_app (goodIn_of _ (by decide +kernel)) ggX6_carryOut_X6_doClause
theorem dX6_carryOut_0 : decode cX6_carryOut 0 = .ok (.iconst 0, 1) := by decide +kernel
theorem dX6_carryOut_1 : decode cX6_carryOut 1 = .ok (.istore_n 2, 1) := by decide +kernel
theorem dX6_carryOut_2 : decode cX6_carryOut 2 = .ok (.iconst 0, 1) := by decide +kernel
theorem dX6_carryOut_3 : decode cX6_carryOut 3 = .ok (.istore_n 3, 1) := by decide +kernel
theorem dX6_carryOut_4 : decode cX6_carryOut 4 = .ok (.iload_n 3, 1) := by decide +kernel
theorem dX6_carryOut_5 : decode cX6_carryOut 5 = .ok (.aload_n 0, 1) := by decide +kernel
theorem dX6_carryOut_6 : decode cX6_carryOut 6 = .ok (.getfield 21, 3) := by decide +kernel
theorem dX6_carryOut_9 : decode cX6_carryOut 9 = .ok (.if_icmp .ge 31, 3) := by decide +kernel
theorem dX6_carryOut_12 : decode cX6_carryOut 12 = .ok (.iload_n 2, 1) := by decide +kernel
theorem dX6_carryOut_13 : decode cX6_carryOut 13 = .ok (.aload_n 0, 1) := by decide +kernel
theorem dX6_carryOut_14 : decode cX6_carryOut 14 = .ok (.aload_n 1, 1) := by decide +kernel
theorem dX6_carryOut_15 : decode cX6_carryOut 15 = .ok (.aload_n 0, 1) := by decide +kernel
theorem dX6_carryOut_16 : decode cX6_carryOut 16 = .ok (.getfield 17, 3) := by decide +kernel
theorem dX6_carryOut_19 : decode cX6_carryOut 19 = .ok (.iload_n 3, 1) := by decide +kernel
theorem dX6_carryOut_20 : decode cX6_carryOut 20 = .ok (.iaload, 1) := by decide +kernel
theorem dX6_carryOut_21 : decode cX6_carryOut 21 = .ok (.invokevirtual 34, 3) := by decide +kernel
theorem dX6_carryOut_24 : decode cX6_carryOut 24 = .ok (.ifCond .eq 7, 3) := by decide +kernel
theorem dX6_carryOut_27 : decode cX6_carryOut 27 = .ok (.iconst 1, 1) := by decide +kernel
theorem dX6_carryOut_28 : decode cX6_carryOut 28 = .ok (.goto 4, 3) := by decide +kernel
theorem dX6_carryOut_31 : decode cX6_carryOut 31 = .ok (.iconst 0, 1) := by decide +kernel
theorem dX6_carryOut_32 : decode cX6_carryOut 32 = .ok (.iadd, 1) := by decide +kernel
theorem dX6_carryOut_33 : decode cX6_carryOut 33 = .ok (.istore_n 2, 1) := by decide +kernel
theorem dX6_carryOut_34 : decode cX6_carryOut 34 = .ok (.iinc 3 1, 3) := by decide +kernel
theorem dX6_carryOut_37 : decode cX6_carryOut 37 = .ok (.goto (-33), 3) := by decide +kernel
theorem dX6_carryOut_40 : decode cX6_carryOut 40 = .ok (.iload_n 2, 1) := by decide +kernel
theorem dX6_carryOut_41 : decode cX6_carryOut 41 = .ok (.ireturn, 1) := by decide +kernel
set_option maxRecDepth 20000 in
theorem ggX6_doClause_X6_pastClause : GoodIn wsX6_doClause wsX6_pastClause := goodIn_r _ [6, 7, 8, 9, 5, 10, 11, 12, 13, 14, 15, 16, 17, 18, 19, 20, 21, 22, 23, 24, 25, 26, 100, 101, 102, 103] (by decide +kernel) (by decide +kernel)
set_option maxRecDepth 20000 in
theorem gX6_doClause_X6_pastClause : GoodIn wsX6_doClause (wsV RX6 24 RX6 yX6_pastClause wsX6_pastClause) := goodIn_app (goodIn_of _ (by decide +kernel)) ggX6_doClause_X6_pastClause
set_option maxRecDepth 20000 in
theorem ggX6_doClause_X6_signAt : GoodIn wsX6_doClause wsX6_signAt := goodIn_r _ [10, 11, 12, 100, 101, 102, 103] (by decide +kernel) (by decide +kernel)
set_option maxRecDepth 20000 in
theorem gX6_doClause_X6_signAt : GoodIn wsX6_doClause (wsV RX6 31 RX6 yX6_signAt wsX6_signAt) := goodIn_app (goodIn_of _ (by decide +kernel)) ggX6_doClause_X6_signAt
set_option maxRecDepth 20000 in
theorem ggX6_doClause_X6_digitAt : GoodIn wsX6_doClause wsX6_digitAt := goodIn_r _ [30, 7, 8, 9, 5, 10, 11, 12, 17, 18, 19, 100, 101, 102, 103] (by decide +kernel) (by decide +kernel)
set_option maxRecDepth 20000 in
theorem gX6_doClause_X6_digitAt : GoodIn wsX6_doClause (wsV RX6 38 RX6 yX6_digitAt wsX6_digitAt) := goodIn_app (goodIn_of _ (by decide +kernel)) ggX6_doClause_X6_digitAt
set_option maxRecDepth 20000 in
theorem ggX6_doClause_X2_begin : GoodIn wsX6_doClause wsX2_begin := goodIn_r _ [35, 36, 37, 38, 39, 40, 41, 42, 43, 44, 45, 46, 47, 48, 49, 50, 51, 52, 53, 54, 55, 56, 57, 58, 59, 60, 94, 95, 96, 97, 98, 99, 104, 105] (by decide +kernel) (by decide +kernel)
set_option maxRecDepth 20000 in
theorem gX6_doClause_X2_begin : GoodIn wsX6_doClause (wsV RX6 41 RX2 yX2_begin wsX2_begin) := goodIn_app (goodIn_of _ (by decide +kernel)) ggX6_doClause_X2_begin
set_option maxRecDepth 20000 in
theorem ggX6_doClause_X6_numberAt : GoodIn wsX6_doClause wsX6_numberAt := goodIn_r _ [64, 27, 28, 29, 5, 30, 7, 8, 9, 10, 11, 12, 17, 18, 19, 100, 101, 102, 103] (by decide +kernel) (by decide +kernel)
set_option maxRecDepth 20000 in
theorem gX6_doClause_X6_numberAt : GoodIn wsX6_doClause (wsV RX6 47 RX6 yX6_numberAt wsX6_numberAt) := goodIn_app (goodIn_of _ (by decide +kernel)) ggX6_doClause_X6_numberAt
set_option maxRecDepth 20000 in
theorem ggX6_doClause_X2_place : GoodIn wsX6_doClause wsX2_place := goodIn_r _ [68, 36, 69, 58, 59, 42, 60, 51, 70, 53, 54, 55, 56, 57, 94, 95, 96, 97, 98, 99, 104, 105] (by decide +kernel) (by decide +kernel)
set_option maxRecDepth 20000 in
theorem gX6_doClause_X2_place : GoodIn wsX6_doClause (wsV RX6 51 RX2 yX2_place wsX2_place) := goodIn_app (goodIn_of _ (by decide +kernel)) ggX6_doClause_X2_place
set_option maxRecDepth 20000 in
theorem ggX6_doClause_X6_doSetApart : GoodIn wsX6_doClause wsX6_doSetApart := goodIn_r _ [74, 7, 8, 9, 5, 10, 11, 12, 27, 28, 29, 30, 17, 18, 19, 61, 62, 63, 64, 75, 76, 77, 34, 78, 36, 79, 80, 45, 46, 47, 81, 82, 83, 42, 84, 51, 56, 70, 53, 54, 55, 57, 58, 59, 60, 100, 101, 102, 103, 94, 95, 96, 97, 98, 99, 104, 105] (by decide +kernel) (by decide +kernel)
set_option maxRecDepth 20000 in
theorem gX6_doClause_X6_doSetApart : GoodIn wsX6_doClause (wsV RX6 55 RX6 yX6_doSetApart wsX6_doSetApart) := goodIn_app (goodIn_of _ (by decide +kernel)) ggX6_doClause_X6_doSetApart
set_option maxRecDepth 20000 in
theorem ggX6_doClause_X2_multiply : GoodIn wsX6_doClause wsX2_multiply := goodIn_r _ [88, 36, 79, 80, 45, 46, 47, 81, 82, 83, 42, 84, 51, 56, 70, 53, 54, 55, 57, 58, 59, 60, 94, 95, 96, 97, 98, 99, 104, 105] (by decide +kernel) (by decide +kernel)
set_option maxRecDepth 20000 in
theorem gX6_doClause_X2_multiply : GoodIn wsX6_doClause (wsV RX6 59 RX2 yX2_multiply wsX2_multiply) := goodIn_app (goodIn_of _ (by decide +kernel)) ggX6_doClause_X2_multiply
set_option maxRecDepth 20000 in
theorem ggX6_doClause_X4_takeShortWays : GoodIn wsX6_doClause wsX4_takeShortWays := goodIn_r _ [92, 51, 44, 45, 46, 47, 93, 82, 83, 42, 84, 56, 52, 53, 54, 55, 57, 58, 59, 60, 104, 105] (by decide +kernel) (by decide +kernel)
set_option maxRecDepth 20000 in
theorem gX6_doClause_X4_takeShortWays : GoodIn wsX6_doClause (wsV RX6 67 RX4 yX4_takeShortWays wsX4_takeShortWays) := goodIn_app (goodIn_of _ (by decide +kernel)) ggX6_doClause_X4_takeShortWays
theorem dX6_doClause_0 : decode cX6_doClause 0 = .ok (.aload_n 0, 1) := by decide +kernel
theorem dX6_doClause_1 : decode cX6_doClause 1 = .ok (.iload_n 2, 1) := by decide +kernel
theorem dX6_doClause_2 : decode cX6_doClause 2 = .ok (.invokevirtual 24, 3) := by decide +kernel
theorem dX6_doClause_5 : decode cX6_doClause 5 = .ok (.istore_n 3, 1) := by decide +kernel
theorem dX6_doClause_6 : decode cX6_doClause 6 = .ok (.aload_n 0, 1) := by decide +kernel
theorem dX6_doClause_7 : decode cX6_doClause 7 = .ok (.iload_n 2, 1) := by decide +kernel
theorem dX6_doClause_8 : decode cX6_doClause 8 = .ok (.invokevirtual 31, 3) := by decide +kernel
theorem dX6_doClause_11 : decode cX6_doClause 11 = .ok (.lookupswitch 121 #[(100, 61), (104, 112), (109, 98), (110, 49), (115, 88)], 49) := by decide +kernel
theorem dX6_doClause_60 : decode cX6_doClause 60 = .ok (.aload_n 1, 1) := by decide +kernel
theorem dX6_doClause_61 : decode cX6_doClause 61 = .ok (.aload_n 0, 1) := by decide +kernel
theorem dX6_doClause_62 : decode cX6_doClause 62 = .ok (.iload_n 2, 1) := by decide +kernel
theorem dX6_doClause_63 : decode cX6_doClause 63 = .ok (.iconst 1, 1) := by decide +kernel
theorem dX6_doClause_64 : decode cX6_doClause 64 = .ok (.iadd, 1) := by decide +kernel
theorem dX6_doClause_65 : decode cX6_doClause 65 = .ok (.invokevirtual 38, 3) := by decide +kernel
theorem dX6_doClause_68 : decode cX6_doClause 68 = .ok (.invokevirtual 41, 3) := by decide +kernel
theorem dX6_doClause_71 : decode cX6_doClause 71 = .ok (.ireturn, 1) := by decide +kernel
theorem dX6_doClause_72 : decode cX6_doClause 72 = .ok (.aload_n 1, 1) := by decide +kernel
theorem dX6_doClause_73 : decode cX6_doClause 73 = .ok (.aload_n 0, 1) := by decide +kernel
theorem dX6_doClause_74 : decode cX6_doClause 74 = .ok (.iload_n 2, 1) := by decide +kernel
theorem dX6_doClause_75 : decode cX6_doClause 75 = .ok (.iconst 1, 1) := by decide +kernel
theorem dX6_doClause_76 : decode cX6_doClause 76 = .ok (.iadd, 1) := by decide +kernel
theorem dX6_doClause_77 : decode cX6_doClause 77 = .ok (.invokevirtual 38, 3) := by decide +kernel
theorem dX6_doClause_80 : decode cX6_doClause 80 = .ok (.aload_n 0, 1) := by decide +kernel
theorem dX6_doClause_81 : decode cX6_doClause 81 = .ok (.iload_n 2, 1) := by decide +kernel
theorem dX6_doClause_82 : decode cX6_doClause 82 = .ok (.iconst 2, 1) := by decide +kernel
theorem dX6_doClause_83 : decode cX6_doClause 83 = .ok (.iadd, 1) := by decide +kernel
theorem dX6_doClause_84 : decode cX6_doClause 84 = .ok (.invokevirtual 38, 3) := by decide +kernel
theorem dX6_doClause_87 : decode cX6_doClause 87 = .ok (.aload_n 0, 1) := by decide +kernel
theorem dX6_doClause_88 : decode cX6_doClause 88 = .ok (.iload_n 2, 1) := by decide +kernel
theorem dX6_doClause_89 : decode cX6_doClause 89 = .ok (.iconst 3, 1) := by decide +kernel
theorem dX6_doClause_90 : decode cX6_doClause 90 = .ok (.iadd, 1) := by decide +kernel
theorem dX6_doClause_91 : decode cX6_doClause 91 = .ok (.iload_n 3, 1) := by decide +kernel
theorem dX6_doClause_92 : decode cX6_doClause 92 = .ok (.invokevirtual 47, 3) := by decide +kernel
theorem dX6_doClause_95 : decode cX6_doClause 95 = .ok (.invokevirtual 51, 3) := by decide +kernel
theorem dX6_doClause_98 : decode cX6_doClause 98 = .ok (.ireturn, 1) := by decide +kernel
theorem dX6_doClause_99 : decode cX6_doClause 99 = .ok (.aload_n 0, 1) := by decide +kernel
theorem dX6_doClause_100 : decode cX6_doClause 100 = .ok (.aload_n 1, 1) := by decide +kernel
theorem dX6_doClause_101 : decode cX6_doClause 101 = .ok (.iload_n 2, 1) := by decide +kernel
theorem dX6_doClause_102 : decode cX6_doClause 102 = .ok (.iconst 1, 1) := by decide +kernel
theorem dX6_doClause_103 : decode cX6_doClause 103 = .ok (.iadd, 1) := by decide +kernel
theorem dX6_doClause_104 : decode cX6_doClause 104 = .ok (.iload_n 3, 1) := by decide +kernel
theorem dX6_doClause_105 : decode cX6_doClause 105 = .ok (.invokevirtual 55, 3) := by decide +kernel
theorem dX6_doClause_108 : decode cX6_doClause 108 = .ok (.ireturn, 1) := by decide +kernel
theorem dX6_doClause_109 : decode cX6_doClause 109 = .ok (.aload_n 1, 1) := by decide +kernel
theorem dX6_doClause_110 : decode cX6_doClause 110 = .ok (.aload_n 0, 1) := by decide +kernel
theorem dX6_doClause_111 : decode cX6_doClause 111 = .ok (.iload_n 2, 1) := by decide +kernel
theorem dX6_doClause_112 : decode cX6_doClause 112 = .ok (.iconst 1, 1) := by decide +kernel
theorem dX6_doClause_113 : decode cX6_doClause 113 = .ok (.iadd, 1) := by decide +kernel
theorem dX6_doClause_114 : decode cX6_doClause 114 = .ok (.iload_n 3, 1) := by decide +kernel
theorem dX6_doClause_115 : decode cX6_doClause 115 = .ok (.invokevirtual 47, 3) := by decide +kernel
theorem dX6_doClause_118 : decode cX6_doClause 118 = .ok (.invokevirtual 59, 3) := by decide +kernel
theorem dX6_doClause_121 : decode cX6_doClause 121 = .ok (.iconst 1, 1) := by decide +kernel
theorem dX6_doClause_122 : decode cX6_doClause 122 = .ok (.ireturn, 1) := by decide +kernel
theorem dX6_doClause_123 : decode cX6_doClause 123 = .ok (.aload_n 1, 1) := by decide +kernel
theorem dX6_doClause_124 : decode cX6_doClause 124 = .ok (.getfield 63, 3) := by decide +kernel
theorem dX6_doClause_127 : decode cX6_doClause 127 = .ok (.invokevirtual 67, 3) := by decide +kernel
theorem dX6_doClause_130 : decode cX6_doClause 130 = .ok (.iconst 1, 1) := by decide +kernel
theorem dX6_doClause_131 : decode cX6_doClause 131 = .ok (.ireturn, 1) := by decide +kernel
theorem dX6_doClause_132 : decode cX6_doClause 132 = .ok (.iconst 0, 1) := by decide +kernel
theorem dX6_doClause_133 : decode cX6_doClause 133 = .ok (.ireturn, 1) := by decide +kernel
set_option maxRecDepth 20000 in
theorem ggX6_doSetApart_X6_signAt : GoodIn wsX6_doSetApart wsX6_signAt := goodIn_r _ [5, 6, 7, 45, 46, 47, 48] (by decide +kernel) (by decide +kernel)
set_option maxRecDepth 20000 in
theorem gX6_doSetApart_X6_signAt : GoodIn wsX6_doSetApart (wsV RX6 31 RX6 yX6_signAt wsX6_signAt) := goodIn_app (goodIn_of _ (by decide +kernel)) ggX6_doSetApart_X6_signAt
set_option maxRecDepth 20000 in
theorem ggX6_doSetApart_X6_digitAt : GoodIn wsX6_doSetApart wsX6_digitAt := goodIn_r _ [11, 1, 2, 3, 4, 5, 6, 7, 12, 13, 14, 45, 46, 47, 48] (by decide +kernel) (by decide +kernel)
set_option maxRecDepth 20000 in
theorem gX6_doSetApart_X6_digitAt : GoodIn wsX6_doSetApart (wsV RX6 38 RX6 yX6_digitAt wsX6_digitAt) := goodIn_app (goodIn_of _ (by decide +kernel)) ggX6_doSetApart_X6_digitAt
set_option maxRecDepth 20000 in
theorem ggX6_doSetApart_X6_numberAt : GoodIn wsX6_doSetApart wsX6_numberAt := goodIn_r _ [18, 8, 9, 10, 4, 11, 1, 2, 3, 5, 6, 7, 12, 13, 14, 45, 46, 47, 48] (by decide +kernel) (by decide +kernel)
set_option maxRecDepth 20000 in
theorem gX6_doSetApart_X6_numberAt : GoodIn wsX6_doSetApart (wsV RX6 47 RX6 yX6_numberAt wsX6_numberAt) := goodIn_app (goodIn_of _ (by decide +kernel)) ggX6_doSetApart_X6_numberAt
set_option maxRecDepth 20000 in
theorem ggX6_doSetApart_X2_setApart : GoodIn wsX6_doSetApart wsX2_setApart := goodIn_r _ [23, 24, 25, 26, 27, 28, 29, 30, 31, 32, 33, 34, 35, 36, 37, 38, 39, 40, 41, 42, 43, 44, 49, 50, 51, 52, 53, 54, 55, 56] (by decide +kernel) (by decide +kernel)
set_option maxRecDepth 20000 in
theorem gX6_doSetApart_X2_setApart : GoodIn wsX6_doSetApart (wsV RX6 72 RX2 yX2_setApart wsX2_setApart) := goodIn_app (goodIn_of _ (by decide +kernel)) ggX6_doSetApart_X2_setApart
theorem dX6_doSetApart_0 : decode cX6_doSetApart 0 = .ok (.iconst 0, 1) := by decide +kernel
theorem dX6_doSetApart_1 : decode cX6_doSetApart 1 = .ok (.istore 4, 2) := by decide +kernel
theorem dX6_doSetApart_3 : decode cX6_doSetApart 3 = .ok (.iload_n 2, 1) := by decide +kernel
theorem dX6_doSetApart_4 : decode cX6_doSetApart 4 = .ok (.istore 5, 2) := by decide +kernel
theorem dX6_doSetApart_6 : decode cX6_doSetApart 6 = .ok (.iload 5, 2) := by decide +kernel
theorem dX6_doSetApart_8 : decode cX6_doSetApart 8 = .ok (.iload_n 3, 1) := by decide +kernel
theorem dX6_doSetApart_9 : decode cX6_doSetApart 9 = .ok (.if_icmp .ge 33, 3) := by decide +kernel
theorem dX6_doSetApart_12 : decode cX6_doSetApart 12 = .ok (.aload_n 0, 1) := by decide +kernel
theorem dX6_doSetApart_13 : decode cX6_doSetApart 13 = .ok (.iload 5, 2) := by decide +kernel
theorem dX6_doSetApart_15 : decode cX6_doSetApart 15 = .ok (.invokevirtual 31, 3) := by decide +kernel
theorem dX6_doSetApart_18 : decode cX6_doSetApart 18 = .ok (.bipush 32, 2) := by decide +kernel
theorem dX6_doSetApart_20 : decode cX6_doSetApart 20 = .ok (.if_icmp .eq 22, 3) := by decide +kernel
theorem dX6_doSetApart_23 : decode cX6_doSetApart 23 = .ok (.iload 4, 2) := by decide +kernel
theorem dX6_doSetApart_25 : decode cX6_doSetApart 25 = .ok (.iconst 1, 1) := by decide +kernel
theorem dX6_doSetApart_26 : decode cX6_doSetApart 26 = .ok (.aload_n 0, 1) := by decide +kernel
theorem dX6_doSetApart_27 : decode cX6_doSetApart 27 = .ok (.iload 5, 2) := by decide +kernel
theorem dX6_doSetApart_29 : decode cX6_doSetApart 29 = .ok (.invokevirtual 38, 3) := by decide +kernel
theorem dX6_doSetApart_32 : decode cX6_doSetApart 32 = .ok (.ishl, 1) := by decide +kernel
theorem dX6_doSetApart_33 : decode cX6_doSetApart 33 = .ok (.ior, 1) := by decide +kernel
theorem dX6_doSetApart_34 : decode cX6_doSetApart 34 = .ok (.istore 4, 2) := by decide +kernel
theorem dX6_doSetApart_36 : decode cX6_doSetApart 36 = .ok (.iinc 5 1, 3) := by decide +kernel
theorem dX6_doSetApart_39 : decode cX6_doSetApart 39 = .ok (.goto (-33), 3) := by decide +kernel
theorem dX6_doSetApart_42 : decode cX6_doSetApart 42 = .ok (.aload_n 1, 1) := by decide +kernel
theorem dX6_doSetApart_43 : decode cX6_doSetApart 43 = .ok (.iload 4, 2) := by decide +kernel
theorem dX6_doSetApart_45 : decode cX6_doSetApart 45 = .ok (.aload_n 0, 1) := by decide +kernel
theorem dX6_doSetApart_46 : decode cX6_doSetApart 46 = .ok (.iload 5, 2) := by decide +kernel
theorem dX6_doSetApart_48 : decode cX6_doSetApart 48 = .ok (.iconst 1, 1) := by decide +kernel
theorem dX6_doSetApart_49 : decode cX6_doSetApart 49 = .ok (.iadd, 1) := by decide +kernel
theorem dX6_doSetApart_50 : decode cX6_doSetApart 50 = .ok (.iload_n 3, 1) := by decide +kernel
theorem dX6_doSetApart_51 : decode cX6_doSetApart 51 = .ok (.invokevirtual 47, 3) := by decide +kernel
theorem dX6_doSetApart_54 : decode cX6_doSetApart 54 = .ok (.invokevirtual 72, 3) := by decide +kernel
theorem dX6_doSetApart_57 : decode cX6_doSetApart 57 = .ok (.ireturn, 1) := by decide +kernel
set_option maxRecDepth 20000 in
theorem ggX6_pastClause_X6_signAt : GoodIn wsX6_pastClause wsX6_signAt := goodIn_r _ [5, 6, 7, 22, 23, 24, 25] (by decide +kernel) (by decide +kernel)
set_option maxRecDepth 20000 in
theorem gX6_pastClause_X6_signAt : GoodIn wsX6_pastClause (wsV RX6 31 RX6 yX6_signAt wsX6_signAt) := goodIn_app (goodIn_of _ (by decide +kernel)) ggX6_pastClause_X6_signAt
set_option maxRecDepth 20000 in
theorem ggX6_pastClause_X6_pastDigits : GoodIn wsX6_pastClause wsX6_pastDigits := goodIn_r _ [11, 1, 2, 3, 4, 5, 6, 7, 12, 13, 14, 15, 16, 17, 22, 23, 24, 25] (by decide +kernel) (by decide +kernel)
set_option maxRecDepth 20000 in
theorem gX6_pastClause_X6_pastDigits : GoodIn wsX6_pastClause (wsV RX6 76 RX6 yX6_pastDigits wsX6_pastDigits) := goodIn_app (goodIn_of _ (by decide +kernel)) ggX6_pastClause_X6_pastDigits
set_option maxRecDepth 20000 in
theorem ggX6_pastClause_X6_pastSetApart : GoodIn wsX6_pastClause wsX6_pastSetApart := goodIn_r _ [21, 8, 9, 10, 4, 11, 1, 2, 3, 5, 6, 7, 12, 13, 14, 15, 16, 17, 22, 23, 24, 25] (by decide +kernel) (by decide +kernel)
set_option maxRecDepth 20000 in
theorem gX6_pastClause_X6_pastSetApart : GoodIn wsX6_pastClause (wsV RX6 80 RX6 yX6_pastSetApart wsX6_pastSetApart) := goodIn_app (goodIn_of _ (by decide +kernel)) ggX6_pastClause_X6_pastSetApart
set_option maxRecDepth 20000 in
theorem ggX6_pastClause_X6_turned : GoodIn wsX6_pastClause wsX6_turned := goodIn_r _ [17] (by decide +kernel) (by decide +kernel)
set_option maxRecDepth 20000 in
theorem gX6_pastClause_X6_turned : GoodIn wsX6_pastClause (va_wsS RX6 28 yX6_turned wsX6_turned) := goodIn_app (goodIn_of _ (by decide +kernel)) ggX6_pastClause_X6_turned
theorem dX6_pastClause_0 : decode cX6_pastClause 0 = .ok (.aload_n 0, 1) := by decide +kernel
theorem dX6_pastClause_1 : decode cX6_pastClause 1 = .ok (.iload_n 1, 1) := by decide +kernel
theorem dX6_pastClause_2 : decode cX6_pastClause 2 = .ok (.invokevirtual 31, 3) := by decide +kernel
theorem dX6_pastClause_5 : decode cX6_pastClause 5 = .ok (.lookupswitch 93 #[(100, 61), (104, 89), (109, 79), (110, 51), (115, 71)], 51) := by decide +kernel
theorem dX6_pastClause_56 : decode cX6_pastClause 56 = .ok (.aload_n 0, 1) := by decide +kernel
theorem dX6_pastClause_57 : decode cX6_pastClause 57 = .ok (.iload_n 1, 1) := by decide +kernel
theorem dX6_pastClause_58 : decode cX6_pastClause 58 = .ok (.iconst 1, 1) := by decide +kernel
theorem dX6_pastClause_59 : decode cX6_pastClause 59 = .ok (.iadd, 1) := by decide +kernel
theorem dX6_pastClause_60 : decode cX6_pastClause 60 = .ok (.iconst 1, 1) := by decide +kernel
theorem dX6_pastClause_61 : decode cX6_pastClause 61 = .ok (.iconst 1, 1) := by decide +kernel
theorem dX6_pastClause_62 : decode cX6_pastClause 62 = .ok (.invokevirtual 76, 3) := by decide +kernel
theorem dX6_pastClause_65 : decode cX6_pastClause 65 = .ok (.ireturn, 1) := by decide +kernel
theorem dX6_pastClause_66 : decode cX6_pastClause 66 = .ok (.aload_n 0, 1) := by decide +kernel
theorem dX6_pastClause_67 : decode cX6_pastClause 67 = .ok (.iload_n 1, 1) := by decide +kernel
theorem dX6_pastClause_68 : decode cX6_pastClause 68 = .ok (.iconst 1, 1) := by decide +kernel
theorem dX6_pastClause_69 : decode cX6_pastClause 69 = .ok (.iadd, 1) := by decide +kernel
theorem dX6_pastClause_70 : decode cX6_pastClause 70 = .ok (.iconst 3, 1) := by decide +kernel
theorem dX6_pastClause_71 : decode cX6_pastClause 71 = .ok (.iconst 4, 1) := by decide +kernel
theorem dX6_pastClause_72 : decode cX6_pastClause 72 = .ok (.invokevirtual 76, 3) := by decide +kernel
theorem dX6_pastClause_75 : decode cX6_pastClause 75 = .ok (.ireturn, 1) := by decide +kernel
theorem dX6_pastClause_76 : decode cX6_pastClause 76 = .ok (.aload_n 0, 1) := by decide +kernel
theorem dX6_pastClause_77 : decode cX6_pastClause 77 = .ok (.iload_n 1, 1) := by decide +kernel
theorem dX6_pastClause_78 : decode cX6_pastClause 78 = .ok (.iconst 1, 1) := by decide +kernel
theorem dX6_pastClause_79 : decode cX6_pastClause 79 = .ok (.iadd, 1) := by decide +kernel
theorem dX6_pastClause_80 : decode cX6_pastClause 80 = .ok (.invokevirtual 80, 3) := by decide +kernel
theorem dX6_pastClause_83 : decode cX6_pastClause 83 = .ok (.ireturn, 1) := by decide +kernel
theorem dX6_pastClause_84 : decode cX6_pastClause 84 = .ok (.aload_n 0, 1) := by decide +kernel
theorem dX6_pastClause_85 : decode cX6_pastClause 85 = .ok (.iload_n 1, 1) := by decide +kernel
theorem dX6_pastClause_86 : decode cX6_pastClause 86 = .ok (.iconst 1, 1) := by decide +kernel
theorem dX6_pastClause_87 : decode cX6_pastClause 87 = .ok (.iadd, 1) := by decide +kernel
theorem dX6_pastClause_88 : decode cX6_pastClause 88 = .ok (.iconst 1, 1) := by decide +kernel
theorem dX6_pastClause_89 : decode cX6_pastClause 89 = .ok (.iconst 2, 1) := by decide +kernel
theorem dX6_pastClause_90 : decode cX6_pastClause 90 = .ok (.invokevirtual 76, 3) := by decide +kernel
theorem dX6_pastClause_93 : decode cX6_pastClause 93 = .ok (.ireturn, 1) := by decide +kernel
theorem dX6_pastClause_94 : decode cX6_pastClause 94 = .ok (.iload_n 1, 1) := by decide +kernel
theorem dX6_pastClause_95 : decode cX6_pastClause 95 = .ok (.iconst 1, 1) := by decide +kernel
theorem dX6_pastClause_96 : decode cX6_pastClause 96 = .ok (.iadd, 1) := by decide +kernel
theorem dX6_pastClause_97 : decode cX6_pastClause 97 = .ok (.ireturn, 1) := by decide +kernel
theorem dX6_pastClause_98 : decode cX6_pastClause 98 = .ok (.iload_n 1, 1) := by decide +kernel
theorem dX6_pastClause_99 : decode cX6_pastClause 99 = .ok (.invokestatic 28, 3) := by decide +kernel
theorem dX6_pastClause_102 : decode cX6_pastClause 102 = .ok (.ireturn, 1) := by decide +kernel
set_option maxRecDepth 20000 in
theorem ggX6_pastSetApart_X6_pastDigits : GoodIn wsX6_pastSetApart wsX6_pastDigits := goodIn_r _ [5, 6, 7, 8, 4, 9, 10, 11, 12, 13, 14, 15, 16, 17, 18, 19, 20, 21] (by decide +kernel) (by decide +kernel)
set_option maxRecDepth 20000 in
theorem gX6_pastSetApart_X6_pastDigits : GoodIn wsX6_pastSetApart (wsV RX6 76 RX6 yX6_pastDigits wsX6_pastDigits) := goodIn_app (goodIn_of _ (by decide +kernel)) ggX6_pastSetApart_X6_pastDigits
set_option maxRecDepth 20000 in
theorem ggX6_pastSetApart_X6_signAt : GoodIn wsX6_pastSetApart wsX6_signAt := goodIn_r _ [9, 10, 11, 18, 19, 20, 21] (by decide +kernel) (by decide +kernel)
set_option maxRecDepth 20000 in
theorem gX6_pastSetApart_X6_signAt : GoodIn wsX6_pastSetApart (wsV RX6 31 RX6 yX6_signAt wsX6_signAt) := goodIn_app (goodIn_of _ (by decide +kernel)) ggX6_pastSetApart_X6_signAt
set_option maxRecDepth 20000 in
theorem ggX6_pastSetApart_X6_turned : GoodIn wsX6_pastSetApart wsX6_turned := goodIn_r _ [17] (by decide +kernel) (by decide +kernel)
set_option maxRecDepth 20000 in
theorem gX6_pastSetApart_X6_turned : GoodIn wsX6_pastSetApart (va_wsS RX6 28 yX6_turned wsX6_turned) := goodIn_app (goodIn_of _ (by decide +kernel)) ggX6_pastSetApart_X6_turned
theorem dX6_pastSetApart_0 : decode cX6_pastSetApart 0 = .ok (.aload_n 0, 1) := by decide +kernel
theorem dX6_pastSetApart_1 : decode cX6_pastSetApart 1 = .ok (.iload_n 1, 1) := by decide +kernel
theorem dX6_pastSetApart_2 : decode cX6_pastSetApart 2 = .ok (.iconst 1, 1) := by decide +kernel
theorem dX6_pastSetApart_3 : decode cX6_pastSetApart 3 = .ok (.iconst 4, 1) := by decide +kernel
theorem dX6_pastSetApart_4 : decode cX6_pastSetApart 4 = .ok (.invokevirtual 76, 3) := by decide +kernel
theorem dX6_pastSetApart_7 : decode cX6_pastSetApart 7 = .ok (.istore_n 2, 1) := by decide +kernel
theorem dX6_pastSetApart_8 : decode cX6_pastSetApart 8 = .ok (.iload_n 2, 1) := by decide +kernel
theorem dX6_pastSetApart_9 : decode cX6_pastSetApart 9 = .ok (.ifCond .ge 5, 3) := by decide +kernel
theorem dX6_pastSetApart_12 : decode cX6_pastSetApart 12 = .ok (.iload_n 2, 1) := by decide +kernel
theorem dX6_pastSetApart_13 : decode cX6_pastSetApart 13 = .ok (.ireturn, 1) := by decide +kernel
theorem dX6_pastSetApart_14 : decode cX6_pastSetApart 14 = .ok (.aload_n 0, 1) := by decide +kernel
theorem dX6_pastSetApart_15 : decode cX6_pastSetApart 15 = .ok (.iload_n 2, 1) := by decide +kernel
theorem dX6_pastSetApart_16 : decode cX6_pastSetApart 16 = .ok (.invokevirtual 31, 3) := by decide +kernel
theorem dX6_pastSetApart_19 : decode cX6_pastSetApart 19 = .ok (.bipush 32, 2) := by decide +kernel
theorem dX6_pastSetApart_21 : decode cX6_pastSetApart 21 = .ok (.if_icmp .ne 15, 3) := by decide +kernel
theorem dX6_pastSetApart_24 : decode cX6_pastSetApart 24 = .ok (.aload_n 0, 1) := by decide +kernel
theorem dX6_pastSetApart_25 : decode cX6_pastSetApart 25 = .ok (.iload_n 2, 1) := by decide +kernel
theorem dX6_pastSetApart_26 : decode cX6_pastSetApart 26 = .ok (.iconst 1, 1) := by decide +kernel
theorem dX6_pastSetApart_27 : decode cX6_pastSetApart 27 = .ok (.iadd, 1) := by decide +kernel
theorem dX6_pastSetApart_28 : decode cX6_pastSetApart 28 = .ok (.iconst 1, 1) := by decide +kernel
theorem dX6_pastSetApart_29 : decode cX6_pastSetApart 29 = .ok (.iconst 2, 1) := by decide +kernel
theorem dX6_pastSetApart_30 : decode cX6_pastSetApart 30 = .ok (.invokevirtual 76, 3) := by decide +kernel
theorem dX6_pastSetApart_33 : decode cX6_pastSetApart 33 = .ok (.goto 7, 3) := by decide +kernel
theorem dX6_pastSetApart_36 : decode cX6_pastSetApart 36 = .ok (.iload_n 2, 1) := by decide +kernel
theorem dX6_pastSetApart_37 : decode cX6_pastSetApart 37 = .ok (.invokestatic 28, 3) := by decide +kernel
theorem dX6_pastSetApart_40 : decode cX6_pastSetApart 40 = .ok (.ireturn, 1) := by decide +kernel
set_option maxRecDepth 20000 in
theorem ggX6_pastDigits_X6_signAt : GoodIn wsX6_pastDigits wsX6_signAt := goodIn_r _ [5, 6, 7, 14, 15, 16, 17] (by decide +kernel) (by decide +kernel)
set_option maxRecDepth 20000 in
theorem gX6_pastDigits_X6_signAt : GoodIn wsX6_pastDigits (wsV RX6 31 RX6 yX6_signAt wsX6_signAt) := goodIn_app (goodIn_of _ (by decide +kernel)) ggX6_pastDigits_X6_signAt
set_option maxRecDepth 20000 in
theorem ggX6_pastDigits_X6_isDigit : GoodIn wsX6_pastDigits wsX6_isDigit := goodIn_r _ [10] (by decide +kernel) (by decide +kernel)
set_option maxRecDepth 20000 in
theorem gX6_pastDigits_X6_isDigit : GoodIn wsX6_pastDigits (va_wsS RX6 83 yX6_isDigit wsX6_isDigit) := goodIn_app (goodIn_of _ (by decide +kernel)) ggX6_pastDigits_X6_isDigit
set_option maxRecDepth 20000 in
theorem ggX6_pastDigits_X6_turned : GoodIn wsX6_pastDigits wsX6_turned := goodIn_r _ [13] (by decide +kernel) (by decide +kernel)
set_option maxRecDepth 20000 in
theorem gX6_pastDigits_X6_turned : GoodIn wsX6_pastDigits (va_wsS RX6 28 yX6_turned wsX6_turned) := goodIn_app (goodIn_of _ (by decide +kernel)) ggX6_pastDigits_X6_turned
theorem dX6_pastDigits_0 : decode cX6_pastDigits 0 = .ok (.iconst 0, 1) := by decide +kernel
theorem dX6_pastDigits_1 : decode cX6_pastDigits 1 = .ok (.istore 4, 2) := by decide +kernel
theorem dX6_pastDigits_3 : decode cX6_pastDigits 3 = .ok (.iload 4, 2) := by decide +kernel
theorem dX6_pastDigits_5 : decode cX6_pastDigits 5 = .ok (.iload_n 3, 1) := by decide +kernel
theorem dX6_pastDigits_6 : decode cX6_pastDigits 6 = .ok (.if_icmp .ge 23, 3) := by decide +kernel
theorem dX6_pastDigits_9 : decode cX6_pastDigits 9 = .ok (.aload_n 0, 1) := by decide +kernel
theorem dX6_pastDigits_10 : decode cX6_pastDigits 10 = .ok (.iload_n 1, 1) := by decide +kernel
theorem dX6_pastDigits_11 : decode cX6_pastDigits 11 = .ok (.iload 4, 2) := by decide +kernel
theorem dX6_pastDigits_13 : decode cX6_pastDigits 13 = .ok (.iadd, 1) := by decide +kernel
theorem dX6_pastDigits_14 : decode cX6_pastDigits 14 = .ok (.invokevirtual 31, 3) := by decide +kernel
theorem dX6_pastDigits_17 : decode cX6_pastDigits 17 = .ok (.invokestatic 83, 3) := by decide +kernel
theorem dX6_pastDigits_20 : decode cX6_pastDigits 20 = .ok (.ifCond .eq 9, 3) := by decide +kernel
theorem dX6_pastDigits_23 : decode cX6_pastDigits 23 = .ok (.iinc 4 1, 3) := by decide +kernel
theorem dX6_pastDigits_26 : decode cX6_pastDigits 26 = .ok (.goto (-23), 3) := by decide +kernel
theorem dX6_pastDigits_29 : decode cX6_pastDigits 29 = .ok (.iload 4, 2) := by decide +kernel
theorem dX6_pastDigits_31 : decode cX6_pastDigits 31 = .ok (.iload_n 2, 1) := by decide +kernel
theorem dX6_pastDigits_32 : decode cX6_pastDigits 32 = .ok (.if_icmp .ge 13, 3) := by decide +kernel
theorem dX6_pastDigits_35 : decode cX6_pastDigits 35 = .ok (.iload_n 1, 1) := by decide +kernel
theorem dX6_pastDigits_36 : decode cX6_pastDigits 36 = .ok (.iload 4, 2) := by decide +kernel
theorem dX6_pastDigits_38 : decode cX6_pastDigits 38 = .ok (.iadd, 1) := by decide +kernel
theorem dX6_pastDigits_39 : decode cX6_pastDigits 39 = .ok (.invokestatic 28, 3) := by decide +kernel
theorem dX6_pastDigits_42 : decode cX6_pastDigits 42 = .ok (.goto 7, 3) := by decide +kernel
theorem dX6_pastDigits_45 : decode cX6_pastDigits 45 = .ok (.iload_n 1, 1) := by decide +kernel
theorem dX6_pastDigits_46 : decode cX6_pastDigits 46 = .ok (.iload 4, 2) := by decide +kernel
theorem dX6_pastDigits_48 : decode cX6_pastDigits 48 = .ok (.iadd, 1) := by decide +kernel
theorem dX6_pastDigits_49 : decode cX6_pastDigits 49 = .ok (.ireturn, 1) := by decide +kernel
theorem dX6_turned_0 : decode cX6_turned 0 = .ok (.iconst (-1), 1) := by decide +kernel
theorem dX6_turned_1 : decode cX6_turned 1 = .ok (.iload_n 0, 1) := by decide +kernel
theorem dX6_turned_2 : decode cX6_turned 2 = .ok (.isub, 1) := by decide +kernel
theorem dX6_turned_3 : decode cX6_turned 3 = .ok (.ireturn, 1) := by decide +kernel
theorem dX6_signAt_0 : decode cX6_signAt 0 = .ok (.iload_n 1, 1) := by decide +kernel
theorem dX6_signAt_1 : decode cX6_signAt 1 = .ok (.ifCond .lt 20, 3) := by decide +kernel
theorem dX6_signAt_4 : decode cX6_signAt 4 = .ok (.iload_n 1, 1) := by decide +kernel
theorem dX6_signAt_5 : decode cX6_signAt 5 = .ok (.aload_n 0, 1) := by decide +kernel
theorem dX6_signAt_6 : decode cX6_signAt 6 = .ok (.getfield 13, 3) := by decide +kernel
theorem dX6_signAt_9 : decode cX6_signAt 9 = .ok (.if_icmp .ge 12, 3) := by decide +kernel
theorem dX6_signAt_12 : decode cX6_signAt 12 = .ok (.aload_n 0, 1) := by decide +kernel
theorem dX6_signAt_13 : decode cX6_signAt 13 = .ok (.getfield 9, 3) := by decide +kernel
theorem dX6_signAt_16 : decode cX6_signAt 16 = .ok (.iload_n 1, 1) := by decide +kernel
theorem dX6_signAt_17 : decode cX6_signAt 17 = .ok (.baload, 1) := by decide +kernel
theorem dX6_signAt_18 : decode cX6_signAt 18 = .ok (.goto 4, 3) := by decide +kernel
theorem dX6_signAt_21 : decode cX6_signAt 21 = .ok (.iconst (-1), 1) := by decide +kernel
theorem dX6_signAt_22 : decode cX6_signAt 22 = .ok (.ireturn, 1) := by decide +kernel
theorem dX6_isDigit_0 : decode cX6_isDigit 0 = .ok (.iload_n 0, 1) := by decide +kernel
theorem dX6_isDigit_1 : decode cX6_isDigit 1 = .ok (.bipush 48, 2) := by decide +kernel
theorem dX6_isDigit_3 : decode cX6_isDigit 3 = .ok (.if_icmp .lt 13, 3) := by decide +kernel
theorem dX6_isDigit_6 : decode cX6_isDigit 6 = .ok (.iload_n 0, 1) := by decide +kernel
theorem dX6_isDigit_7 : decode cX6_isDigit 7 = .ok (.bipush 57, 2) := by decide +kernel
theorem dX6_isDigit_9 : decode cX6_isDigit 9 = .ok (.if_icmp .gt 7, 3) := by decide +kernel
theorem dX6_isDigit_12 : decode cX6_isDigit 12 = .ok (.iconst 1, 1) := by decide +kernel
theorem dX6_isDigit_13 : decode cX6_isDigit 13 = .ok (.goto 4, 3) := by decide +kernel
theorem dX6_isDigit_16 : decode cX6_isDigit 16 = .ok (.iconst 0, 1) := by decide +kernel
theorem dX6_isDigit_17 : decode cX6_isDigit 17 = .ok (.ireturn, 1) := by decide +kernel
set_option maxRecDepth 20000 in
theorem ggX6_digitAt_X6_signAt : GoodIn wsX6_digitAt wsX6_signAt := goodIn_r _ [5, 6, 7, 11, 12, 13, 14] (by decide +kernel) (by decide +kernel)
set_option maxRecDepth 20000 in
theorem gX6_digitAt_X6_signAt : GoodIn wsX6_digitAt (wsV RX6 31 RX6 yX6_signAt wsX6_signAt) := goodIn_app (goodIn_of _ (by decide +kernel)) ggX6_digitAt_X6_signAt
set_option maxRecDepth 20000 in
theorem ggX6_digitAt_X6_isDigit : GoodIn wsX6_digitAt wsX6_isDigit := goodIn_r _ [10] (by decide +kernel) (by decide +kernel)
set_option maxRecDepth 20000 in
theorem gX6_digitAt_X6_isDigit : GoodIn wsX6_digitAt (va_wsS RX6 83 yX6_isDigit wsX6_isDigit) := goodIn_app (goodIn_of _ (by decide +kernel)) ggX6_digitAt_X6_isDigit
theorem dX6_digitAt_0 : decode cX6_digitAt 0 = .ok (.aload_n 0, 1) := by decide +kernel
theorem dX6_digitAt_1 : decode cX6_digitAt 1 = .ok (.iload_n 1, 1) := by decide +kernel
theorem dX6_digitAt_2 : decode cX6_digitAt 2 = .ok (.invokevirtual 31, 3) := by decide +kernel
theorem dX6_digitAt_5 : decode cX6_digitAt 5 = .ok (.istore_n 2, 1) := by decide +kernel
theorem dX6_digitAt_6 : decode cX6_digitAt 6 = .ok (.iload_n 2, 1) := by decide +kernel
theorem dX6_digitAt_7 : decode cX6_digitAt 7 = .ok (.invokestatic 83, 3) := by decide +kernel
theorem dX6_digitAt_10 : decode cX6_digitAt 10 = .ok (.ifCond .eq 10, 3) := by decide +kernel
theorem dX6_digitAt_13 : decode cX6_digitAt 13 = .ok (.iload_n 2, 1) := by decide +kernel
theorem dX6_digitAt_14 : decode cX6_digitAt 14 = .ok (.bipush 48, 2) := by decide +kernel
theorem dX6_digitAt_16 : decode cX6_digitAt 16 = .ok (.isub, 1) := by decide +kernel
theorem dX6_digitAt_17 : decode cX6_digitAt 17 = .ok (.goto 4, 3) := by decide +kernel
theorem dX6_digitAt_20 : decode cX6_digitAt 20 = .ok (.iconst 0, 1) := by decide +kernel
theorem dX6_digitAt_21 : decode cX6_digitAt 21 = .ok (.ireturn, 1) := by decide +kernel
set_option maxRecDepth 20000 in
theorem ggX6_numberAt_X6_digitAt : GoodIn wsX6_numberAt wsX6_digitAt := goodIn_r _ [5, 6, 7, 8, 4, 9, 10, 11, 12, 13, 14, 15, 16, 17, 18] (by decide +kernel) (by decide +kernel)
set_option maxRecDepth 20000 in
theorem gX6_numberAt_X6_digitAt : GoodIn wsX6_numberAt (wsV RX6 38 RX6 yX6_digitAt wsX6_digitAt) := goodIn_app (goodIn_of _ (by decide +kernel)) ggX6_numberAt_X6_digitAt
theorem dX6_numberAt_0 : decode cX6_numberAt 0 = .ok (.iconst 0, 1) := by decide +kernel
theorem dX6_numberAt_1 : decode cX6_numberAt 1 = .ok (.istore_n 3, 1) := by decide +kernel
theorem dX6_numberAt_2 : decode cX6_numberAt 2 = .ok (.iload_n 1, 1) := by decide +kernel
theorem dX6_numberAt_3 : decode cX6_numberAt 3 = .ok (.istore 4, 2) := by decide +kernel
theorem dX6_numberAt_5 : decode cX6_numberAt 5 = .ok (.iload 4, 2) := by decide +kernel
theorem dX6_numberAt_7 : decode cX6_numberAt 7 = .ok (.iload_n 2, 1) := by decide +kernel
theorem dX6_numberAt_8 : decode cX6_numberAt 8 = .ok (.if_icmp .ge 21, 3) := by decide +kernel
theorem dX6_numberAt_11 : decode cX6_numberAt 11 = .ok (.bipush 10, 2) := by decide +kernel
theorem dX6_numberAt_13 : decode cX6_numberAt 13 = .ok (.iload_n 3, 1) := by decide +kernel
theorem dX6_numberAt_14 : decode cX6_numberAt 14 = .ok (.imul, 1) := by decide +kernel
theorem dX6_numberAt_15 : decode cX6_numberAt 15 = .ok (.aload_n 0, 1) := by decide +kernel
theorem dX6_numberAt_16 : decode cX6_numberAt 16 = .ok (.iload 4, 2) := by decide +kernel
theorem dX6_numberAt_18 : decode cX6_numberAt 18 = .ok (.invokevirtual 38, 3) := by decide +kernel
theorem dX6_numberAt_21 : decode cX6_numberAt 21 = .ok (.iadd, 1) := by decide +kernel
theorem dX6_numberAt_22 : decode cX6_numberAt 22 = .ok (.istore_n 3, 1) := by decide +kernel
theorem dX6_numberAt_23 : decode cX6_numberAt 23 = .ok (.iinc 4 1, 3) := by decide +kernel
theorem dX6_numberAt_26 : decode cX6_numberAt 26 = .ok (.goto (-21), 3) := by decide +kernel
theorem dX6_numberAt_29 : decode cX6_numberAt 29 = .ok (.iload_n 3, 1) := by decide +kernel
theorem dX6_numberAt_30 : decode cX6_numberAt 30 = .ok (.ireturn, 1) := by decide +kernel
theorem dX7_partners_0 : decode cX7_partners 0 = .ok (.iload_n 0, 1) := by decide +kernel
theorem dX7_partners_1 : decode cX7_partners 1 = .ok (.iconst 5, 1) := by decide +kernel
theorem dX7_partners_2 : decode cX7_partners 2 = .ok (.iload_n 1, 1) := by decide +kernel
theorem dX7_partners_3 : decode cX7_partners 3 = .ok (.imul, 1) := by decide +kernel
theorem dX7_partners_4 : decode cX7_partners 4 = .ok (.ishr, 1) := by decide +kernel
theorem dX7_partners_5 : decode cX7_partners 5 = .ok (.bipush 31, 2) := by decide +kernel
theorem dX7_partners_7 : decode cX7_partners 7 = .ok (.iand, 1) := by decide +kernel
theorem dX7_partners_8 : decode cX7_partners 8 = .ok (.ireturn, 1) := by decide +kernel
set_option maxRecDepth 20000 in
theorem ggX7_joins_X7_partners : GoodIn wsX7_joins wsX7_partners := goodIn_r _ [4] (by decide +kernel) (by decide +kernel)
set_option maxRecDepth 20000 in
theorem gX7_joins_X7_partners : GoodIn wsX7_joins (va_wsS RX7 11 yX7_partners wsX7_partners) := goodIn_app (goodIn_of _ (by decide +kernel)) ggX7_joins_X7_partners
theorem dX7_joins_0 : decode cX7_joins 0 = .ok (.iload_n 0, 1) := by decide +kernel
theorem dX7_joins_1 : decode cX7_joins 1 = .ok (.iload_n 1, 1) := by decide +kernel
theorem dX7_joins_2 : decode cX7_joins 2 = .ok (.invokestatic 11, 3) := by decide +kernel
theorem dX7_joins_5 : decode cX7_joins 5 = .ok (.iload_n 2, 1) := by decide +kernel
theorem dX7_joins_6 : decode cX7_joins 6 = .ok (.ishr, 1) := by decide +kernel
theorem dX7_joins_7 : decode cX7_joins 7 = .ok (.iconst 1, 1) := by decide +kernel
theorem dX7_joins_8 : decode cX7_joins 8 = .ok (.iand, 1) := by decide +kernel
theorem dX7_joins_9 : decode cX7_joins 9 = .ok (.iconst 1, 1) := by decide +kernel
theorem dX7_joins_10 : decode cX7_joins 10 = .ok (.if_icmp .ne 7, 3) := by decide +kernel
theorem dX7_joins_13 : decode cX7_joins 13 = .ok (.iconst 1, 1) := by decide +kernel
theorem dX7_joins_14 : decode cX7_joins 14 = .ok (.goto 4, 3) := by decide +kernel
theorem dX7_joins_17 : decode cX7_joins 17 = .ok (.iconst 0, 1) := by decide +kernel
theorem dX7_joins_18 : decode cX7_joins 18 = .ok (.ireturn, 1) := by decide +kernel
set_option maxRecDepth 20000 in
theorem ggX7_manyTwos_J6_bitCount_0f7a4 : GoodIn wsX7_manyTwos wsJ6_bitCount_0f7a4 := goodIn_r _ [5, 6, 7, 8] (by decide +kernel) (by decide +kernel)
set_option maxRecDepth 20000 in
theorem gX7_manyTwos_J6_bitCount_0f7a4 : GoodIn wsX7_manyTwos (va_wsS RX7 16 yJ6_bitCount_0f7a4 wsJ6_bitCount_0f7a4) := goodIn_app (goodIn_of _ (by decide +kernel)) ggX7_manyTwos_J6_bitCount_0f7a4
theorem dX7_manyTwos_0 : decode cX7_manyTwos 0 = .ok (.iload_n 0, 1) := by decide +kernel
theorem dX7_manyTwos_1 : decode cX7_manyTwos 1 = .ok (.ldc 15, 2) := by decide +kernel
theorem dX7_manyTwos_3 : decode cX7_manyTwos 3 = .ok (.iand, 1) := by decide +kernel
theorem dX7_manyTwos_4 : decode cX7_manyTwos 4 = .ok (.invokestatic 16, 3) := by decide +kernel
theorem dX7_manyTwos_7 : decode cX7_manyTwos 7 = .ok (.ireturn, 1) := by decide +kernel
set_option maxRecDepth 20000 in
theorem ggX7_coverAll_X7_partners : GoodIn wsX7_coverAll wsX7_partners := goodIn_r _ [4] (by decide +kernel) (by decide +kernel)
set_option maxRecDepth 20000 in
theorem gX7_coverAll_X7_partners : GoodIn wsX7_coverAll (va_wsS RX7 11 yX7_partners wsX7_partners) := goodIn_app (goodIn_of _ (by decide +kernel)) ggX7_coverAll_X7_partners
theorem dX7_coverAll_0 : decode cX7_coverAll 0 = .ok (.iconst 0, 1) := by decide +kernel
theorem dX7_coverAll_1 : decode cX7_coverAll 1 = .ok (.istore_n 2, 1) := by decide +kernel
theorem dX7_coverAll_2 : decode cX7_coverAll 2 = .ok (.iload_n 2, 1) := by decide +kernel
theorem dX7_coverAll_3 : decode cX7_coverAll 3 = .ok (.iload_n 0, 1) := by decide +kernel
theorem dX7_coverAll_4 : decode cX7_coverAll 4 = .ok (.if_icmp .ge 19, 3) := by decide +kernel
theorem dX7_coverAll_7 : decode cX7_coverAll 7 = .ok (.iload_n 1, 1) := by decide +kernel
theorem dX7_coverAll_8 : decode cX7_coverAll 8 = .ok (.iload_n 2, 1) := by decide +kernel
theorem dX7_coverAll_9 : decode cX7_coverAll 9 = .ok (.invokestatic 11, 3) := by decide +kernel
theorem dX7_coverAll_12 : decode cX7_coverAll 12 = .ok (.ifCond .ne 5, 3) := by decide +kernel
theorem dX7_coverAll_15 : decode cX7_coverAll 15 = .ok (.iconst 0, 1) := by decide +kernel
theorem dX7_coverAll_16 : decode cX7_coverAll 16 = .ok (.ireturn, 1) := by decide +kernel
theorem dX7_coverAll_17 : decode cX7_coverAll 17 = .ok (.iinc 2 1, 3) := by decide +kernel
theorem dX7_coverAll_20 : decode cX7_coverAll 20 = .ok (.goto (-18), 3) := by decide +kernel
theorem dX7_coverAll_23 : decode cX7_coverAll 23 = .ok (.iconst 1, 1) := by decide +kernel
theorem dX7_coverAll_24 : decode cX7_coverAll 24 = .ok (.ireturn, 1) := by decide +kernel
set_option maxRecDepth 20000 in
theorem ggX7_keepApart_X4_gap : GoodIn wsX7_keepApart wsX4_gap := goodIn_r _ [6, 7, 8, 9, 10] (by decide +kernel) (by decide +kernel)
set_option maxRecDepth 20000 in
theorem gX7_keepApart_X4_gap : GoodIn wsX7_keepApart (wsV RX7 28 RX4 yX4_gap wsX4_gap) := goodIn_app (goodIn_of _ (by decide +kernel)) ggX7_keepApart_X4_gap
theorem dX7_keepApart_0 : decode cX7_keepApart 0 = .ok (.iconst 0, 1) := by decide +kernel
theorem dX7_keepApart_1 : decode cX7_keepApart 1 = .ok (.istore_n 2, 1) := by decide +kernel
theorem dX7_keepApart_2 : decode cX7_keepApart 2 = .ok (.iload_n 2, 1) := by decide +kernel
theorem dX7_keepApart_3 : decode cX7_keepApart 3 = .ok (.aload_n 0, 1) := by decide +kernel
theorem dX7_keepApart_4 : decode cX7_keepApart 4 = .ok (.getfield 22, 3) := by decide +kernel
theorem dX7_keepApart_7 : decode cX7_keepApart 7 = .ok (.if_icmp .ge 47, 3) := by decide +kernel
theorem dX7_keepApart_10 : decode cX7_keepApart 10 = .ok (.iload_n 2, 1) := by decide +kernel
theorem dX7_keepApart_11 : decode cX7_keepApart 11 = .ok (.iconst 1, 1) := by decide +kernel
theorem dX7_keepApart_12 : decode cX7_keepApart 12 = .ok (.iadd, 1) := by decide +kernel
theorem dX7_keepApart_13 : decode cX7_keepApart 13 = .ok (.istore_n 3, 1) := by decide +kernel
theorem dX7_keepApart_14 : decode cX7_keepApart 14 = .ok (.iload_n 3, 1) := by decide +kernel
theorem dX7_keepApart_15 : decode cX7_keepApart 15 = .ok (.aload_n 0, 1) := by decide +kernel
theorem dX7_keepApart_16 : decode cX7_keepApart 16 = .ok (.getfield 22, 3) := by decide +kernel
theorem dX7_keepApart_19 : decode cX7_keepApart 19 = .ok (.if_icmp .ge 29, 3) := by decide +kernel
theorem dX7_keepApart_22 : decode cX7_keepApart 22 = .ok (.aload_n 1, 1) := by decide +kernel
theorem dX7_keepApart_23 : decode cX7_keepApart 23 = .ok (.iload_n 2, 1) := by decide +kernel
theorem dX7_keepApart_24 : decode cX7_keepApart 24 = .ok (.iaload, 1) := by decide +kernel
theorem dX7_keepApart_25 : decode cX7_keepApart 25 = .ok (.aload_n 1, 1) := by decide +kernel
theorem dX7_keepApart_26 : decode cX7_keepApart 26 = .ok (.iload_n 3, 1) := by decide +kernel
theorem dX7_keepApart_27 : decode cX7_keepApart 27 = .ok (.iaload, 1) := by decide +kernel
theorem dX7_keepApart_28 : decode cX7_keepApart 28 = .ok (.iadd, 1) := by decide +kernel
theorem dX7_keepApart_29 : decode cX7_keepApart 29 = .ok (.iconst 2, 1) := by decide +kernel
theorem dX7_keepApart_30 : decode cX7_keepApart 30 = .ok (.aload_n 0, 1) := by decide +kernel
theorem dX7_keepApart_31 : decode cX7_keepApart 31 = .ok (.iload_n 2, 1) := by decide +kernel
theorem dX7_keepApart_32 : decode cX7_keepApart 32 = .ok (.iload_n 3, 1) := by decide +kernel
theorem dX7_keepApart_33 : decode cX7_keepApart 33 = .ok (.invokevirtual 28, 3) := by decide +kernel
theorem dX7_keepApart_36 : decode cX7_keepApart 36 = .ok (.imul, 1) := by decide +kernel
theorem dX7_keepApart_37 : decode cX7_keepApart 37 = .ok (.if_icmp .ge 5, 3) := by decide +kernel
theorem dX7_keepApart_40 : decode cX7_keepApart 40 = .ok (.iconst 0, 1) := by decide +kernel
theorem dX7_keepApart_41 : decode cX7_keepApart 41 = .ok (.ireturn, 1) := by decide +kernel
theorem dX7_keepApart_42 : decode cX7_keepApart 42 = .ok (.iinc 3 1, 3) := by decide +kernel
theorem dX7_keepApart_45 : decode cX7_keepApart 45 = .ok (.goto (-31), 3) := by decide +kernel
theorem dX7_keepApart_48 : decode cX7_keepApart 48 = .ok (.iinc 2 1, 3) := by decide +kernel
theorem dX7_keepApart_51 : decode cX7_keepApart 51 = .ok (.goto (-49), 3) := by decide +kernel
theorem dX7_keepApart_54 : decode cX7_keepApart 54 = .ok (.iconst 1, 1) := by decide +kernel
theorem dX7_keepApart_55 : decode cX7_keepApart 55 = .ok (.ireturn, 1) := by decide +kernel
set_option maxRecDepth 20000 in
theorem ggX7_tightTwos_X4_gap : GoodIn wsX7_tightTwos wsX4_gap := goodIn_r _ [6, 7, 8, 9, 10] (by decide +kernel) (by decide +kernel)
set_option maxRecDepth 20000 in
theorem gX7_tightTwos_X4_gap : GoodIn wsX7_tightTwos (wsV RX7 28 RX4 yX4_gap wsX4_gap) := goodIn_app (goodIn_of _ (by decide +kernel)) ggX7_tightTwos_X4_gap
theorem dX7_tightTwos_0 : decode cX7_tightTwos 0 = .ok (.iconst 0, 1) := by decide +kernel
theorem dX7_tightTwos_1 : decode cX7_tightTwos 1 = .ok (.istore_n 2, 1) := by decide +kernel
theorem dX7_tightTwos_2 : decode cX7_tightTwos 2 = .ok (.iconst 0, 1) := by decide +kernel
theorem dX7_tightTwos_3 : decode cX7_tightTwos 3 = .ok (.istore_n 3, 1) := by decide +kernel
theorem dX7_tightTwos_4 : decode cX7_tightTwos 4 = .ok (.iload_n 3, 1) := by decide +kernel
theorem dX7_tightTwos_5 : decode cX7_tightTwos 5 = .ok (.aload_n 0, 1) := by decide +kernel
theorem dX7_tightTwos_6 : decode cX7_tightTwos 6 = .ok (.getfield 22, 3) := by decide +kernel
theorem dX7_tightTwos_9 : decode cX7_tightTwos 9 = .ok (.if_icmp .ge 58, 3) := by decide +kernel
theorem dX7_tightTwos_12 : decode cX7_tightTwos 12 = .ok (.iconst 0, 1) := by decide +kernel
theorem dX7_tightTwos_13 : decode cX7_tightTwos 13 = .ok (.istore 4, 2) := by decide +kernel
theorem dX7_tightTwos_15 : decode cX7_tightTwos 15 = .ok (.iload 4, 2) := by decide +kernel
theorem dX7_tightTwos_17 : decode cX7_tightTwos 17 = .ok (.aload_n 0, 1) := by decide +kernel
theorem dX7_tightTwos_18 : decode cX7_tightTwos 18 = .ok (.getfield 22, 3) := by decide +kernel
theorem dX7_tightTwos_21 : decode cX7_tightTwos 21 = .ok (.if_icmp .ge 40, 3) := by decide +kernel
theorem dX7_tightTwos_24 : decode cX7_tightTwos 24 = .ok (.aload_n 1, 1) := by decide +kernel
theorem dX7_tightTwos_25 : decode cX7_tightTwos 25 = .ok (.iload_n 3, 1) := by decide +kernel
theorem dX7_tightTwos_26 : decode cX7_tightTwos 26 = .ok (.iaload, 1) := by decide +kernel
theorem dX7_tightTwos_27 : decode cX7_tightTwos 27 = .ok (.aload_n 1, 1) := by decide +kernel
theorem dX7_tightTwos_28 : decode cX7_tightTwos 28 = .ok (.iload 4, 2) := by decide +kernel
theorem dX7_tightTwos_30 : decode cX7_tightTwos 30 = .ok (.iaload, 1) := by decide +kernel
theorem dX7_tightTwos_31 : decode cX7_tightTwos 31 = .ok (.iadd, 1) := by decide +kernel
theorem dX7_tightTwos_32 : decode cX7_tightTwos 32 = .ok (.iconst 2, 1) := by decide +kernel
theorem dX7_tightTwos_33 : decode cX7_tightTwos 33 = .ok (.aload_n 0, 1) := by decide +kernel
theorem dX7_tightTwos_34 : decode cX7_tightTwos 34 = .ok (.iload_n 3, 1) := by decide +kernel
theorem dX7_tightTwos_35 : decode cX7_tightTwos 35 = .ok (.iload 4, 2) := by decide +kernel
theorem dX7_tightTwos_37 : decode cX7_tightTwos 37 = .ok (.invokevirtual 28, 3) := by decide +kernel
theorem dX7_tightTwos_40 : decode cX7_tightTwos 40 = .ok (.imul, 1) := by decide +kernel
theorem dX7_tightTwos_41 : decode cX7_tightTwos 41 = .ok (.if_icmp .ne 14, 3) := by decide +kernel
theorem dX7_tightTwos_44 : decode cX7_tightTwos 44 = .ok (.iload_n 2, 1) := by decide +kernel
theorem dX7_tightTwos_45 : decode cX7_tightTwos 45 = .ok (.iconst 1, 1) := by decide +kernel
theorem dX7_tightTwos_46 : decode cX7_tightTwos 46 = .ok (.iconst 5, 1) := by decide +kernel
theorem dX7_tightTwos_47 : decode cX7_tightTwos 47 = .ok (.iload_n 3, 1) := by decide +kernel
theorem dX7_tightTwos_48 : decode cX7_tightTwos 48 = .ok (.imul, 1) := by decide +kernel
theorem dX7_tightTwos_49 : decode cX7_tightTwos 49 = .ok (.iload 4, 2) := by decide +kernel
theorem dX7_tightTwos_51 : decode cX7_tightTwos 51 = .ok (.iadd, 1) := by decide +kernel
theorem dX7_tightTwos_52 : decode cX7_tightTwos 52 = .ok (.ishl, 1) := by decide +kernel
theorem dX7_tightTwos_53 : decode cX7_tightTwos 53 = .ok (.ior, 1) := by decide +kernel
theorem dX7_tightTwos_54 : decode cX7_tightTwos 54 = .ok (.istore_n 2, 1) := by decide +kernel
theorem dX7_tightTwos_55 : decode cX7_tightTwos 55 = .ok (.iinc 4 1, 3) := by decide +kernel
theorem dX7_tightTwos_58 : decode cX7_tightTwos 58 = .ok (.goto (-43), 3) := by decide +kernel
theorem dX7_tightTwos_61 : decode cX7_tightTwos 61 = .ok (.iinc 3 1, 3) := by decide +kernel
theorem dX7_tightTwos_64 : decode cX7_tightTwos 64 = .ok (.goto (-60), 3) := by decide +kernel
theorem dX7_tightTwos_67 : decode cX7_tightTwos 67 = .ok (.iload_n 2, 1) := by decide +kernel
theorem dX7_tightTwos_68 : decode cX7_tightTwos 68 = .ok (.ireturn, 1) := by decide +kernel
set_option maxRecDepth 20000 in
theorem ggX7_areLeast_X7_keepApart : GoodIn wsX7_areLeast wsX7_keepApart := goodIn_r _ [5, 1, 6, 7, 8, 9, 10, 11, 12, 22, 23] (by decide +kernel) (by decide +kernel)
set_option maxRecDepth 20000 in
theorem gX7_areLeast_X7_keepApart : GoodIn wsX7_areLeast (va_wsS RX7 31 yX7_keepApart wsX7_keepApart) := goodIn_app (goodIn_of _ (by decide +kernel)) ggX7_areLeast_X7_keepApart
set_option maxRecDepth 20000 in
theorem ggX7_areLeast_X7_tightTwos : GoodIn wsX7_areLeast wsX7_tightTwos := goodIn_r _ [15, 1, 6, 7, 8, 9, 10, 11, 12, 22, 23] (by decide +kernel) (by decide +kernel)
set_option maxRecDepth 20000 in
theorem gX7_areLeast_X7_tightTwos : GoodIn wsX7_areLeast (va_wsS RX7 35 yX7_tightTwos wsX7_tightTwos) := goodIn_app (goodIn_of _ (by decide +kernel)) ggX7_areLeast_X7_tightTwos
set_option maxRecDepth 20000 in
theorem ggX7_areLeast_X7_coverAll : GoodIn wsX7_areLeast wsX7_coverAll := goodIn_r _ [18, 19, 20, 4, 21] (by decide +kernel) (by decide +kernel)
set_option maxRecDepth 20000 in
theorem gX7_areLeast_X7_coverAll : GoodIn wsX7_areLeast (va_wsS RX7 39 yX7_coverAll wsX7_coverAll) := goodIn_app (goodIn_of _ (by decide +kernel)) ggX7_areLeast_X7_coverAll
theorem dX7_areLeast_0 : decode cX7_areLeast 0 = .ok (.aload_n 0, 1) := by decide +kernel
theorem dX7_areLeast_1 : decode cX7_areLeast 1 = .ok (.aload_n 1, 1) := by decide +kernel
theorem dX7_areLeast_2 : decode cX7_areLeast 2 = .ok (.invokestatic 31, 3) := by decide +kernel
theorem dX7_areLeast_5 : decode cX7_areLeast 5 = .ok (.ifCond .eq 22, 3) := by decide +kernel
theorem dX7_areLeast_8 : decode cX7_areLeast 8 = .ok (.aload_n 0, 1) := by decide +kernel
theorem dX7_areLeast_9 : decode cX7_areLeast 9 = .ok (.getfield 22, 3) := by decide +kernel
theorem dX7_areLeast_12 : decode cX7_areLeast 12 = .ok (.aload_n 0, 1) := by decide +kernel
theorem dX7_areLeast_13 : decode cX7_areLeast 13 = .ok (.aload_n 1, 1) := by decide +kernel
theorem dX7_areLeast_14 : decode cX7_areLeast 14 = .ok (.invokestatic 35, 3) := by decide +kernel
theorem dX7_areLeast_17 : decode cX7_areLeast 17 = .ok (.invokestatic 39, 3) := by decide +kernel
theorem dX7_areLeast_20 : decode cX7_areLeast 20 = .ok (.ifCond .eq 7, 3) := by decide +kernel
theorem dX7_areLeast_23 : decode cX7_areLeast 23 = .ok (.iconst 1, 1) := by decide +kernel
theorem dX7_areLeast_24 : decode cX7_areLeast 24 = .ok (.goto 4, 3) := by decide +kernel
theorem dX7_areLeast_27 : decode cX7_areLeast 27 = .ok (.iconst 0, 1) := by decide +kernel
theorem dX7_areLeast_28 : decode cX7_areLeast 28 = .ok (.ireturn, 1) := by decide +kernel
set_option maxRecDepth 20000 in
theorem ggX7_depth_X7_walksFrom : GoodIn wsX7_depth wsX7_walksFrom := goodIn_r _ [4, 5, 6, 3, 7] (by decide +kernel) (by decide +kernel)
set_option maxRecDepth 20000 in
theorem gX7_depth_X7_walksFrom : GoodIn wsX7_depth (va_wsS RX7 43 yX7_walksFrom wsX7_walksFrom) := goodIn_app (goodIn_of _ (by decide +kernel)) ggX7_depth_X7_walksFrom
theorem dX7_depth_0 : decode cX7_depth 0 = .ok (.iconst 0, 1) := by decide +kernel
theorem dX7_depth_1 : decode cX7_depth 1 = .ok (.istore_n 2, 1) := by decide +kernel
theorem dX7_depth_2 : decode cX7_depth 2 = .ok (.iconst 0, 1) := by decide +kernel
theorem dX7_depth_3 : decode cX7_depth 3 = .ok (.istore_n 3, 1) := by decide +kernel
theorem dX7_depth_4 : decode cX7_depth 4 = .ok (.iload_n 3, 1) := by decide +kernel
theorem dX7_depth_5 : decode cX7_depth 5 = .ok (.iload_n 0, 1) := by decide +kernel
theorem dX7_depth_6 : decode cX7_depth 6 = .ok (.if_icmp .ge 84, 3) := by decide +kernel
theorem dX7_depth_9 : decode cX7_depth 9 = .ok (.iload_n 0, 1) := by decide +kernel
theorem dX7_depth_10 : decode cX7_depth 10 = .ok (.iload_n 1, 1) := by decide +kernel
theorem dX7_depth_11 : decode cX7_depth 11 = .ok (.iload_n 3, 1) := by decide +kernel
theorem dX7_depth_12 : decode cX7_depth 12 = .ok (.invokestatic 43, 3) := by decide +kernel
theorem dX7_depth_15 : decode cX7_depth 15 = .ok (.istore 4, 2) := by decide +kernel
theorem dX7_depth_17 : decode cX7_depth 17 = .ok (.iload 4, 2) := by decide +kernel
theorem dX7_depth_19 : decode cX7_depth 19 = .ok (.iload 4, 2) := by decide +kernel
theorem dX7_depth_21 : decode cX7_depth 21 = .ok (.iconst 5, 1) := by decide +kernel
theorem dX7_depth_22 : decode cX7_depth 22 = .ok (.ishr, 1) := by decide +kernel
theorem dX7_depth_23 : decode cX7_depth 23 = .ok (.ior, 1) := by decide +kernel
theorem dX7_depth_24 : decode cX7_depth 24 = .ok (.bipush 31, 2) := by decide +kernel
theorem dX7_depth_26 : decode cX7_depth 26 = .ok (.iand, 1) := by decide +kernel
theorem dX7_depth_27 : decode cX7_depth 27 = .ok (.istore 5, 2) := by decide +kernel
theorem dX7_depth_29 : decode cX7_depth 29 = .ok (.iload 5, 2) := by decide +kernel
theorem dX7_depth_31 : decode cX7_depth 31 = .ok (.iconst 1, 1) := by decide +kernel
theorem dX7_depth_32 : decode cX7_depth 32 = .ok (.iload_n 3, 1) := by decide +kernel
theorem dX7_depth_33 : decode cX7_depth 33 = .ok (.ishl, 1) := by decide +kernel
theorem dX7_depth_34 : decode cX7_depth 34 = .ok (.iconst 1, 1) := by decide +kernel
theorem dX7_depth_35 : decode cX7_depth 35 = .ok (.isub, 1) := by decide +kernel
theorem dX7_depth_36 : decode cX7_depth 36 = .ok (.iand, 1) := by decide +kernel
theorem dX7_depth_37 : decode cX7_depth 37 = .ok (.ifCond .ne 7, 3) := by decide +kernel
theorem dX7_depth_40 : decode cX7_depth 40 = .ok (.iconst 1, 1) := by decide +kernel
theorem dX7_depth_41 : decode cX7_depth 41 = .ok (.goto 4, 3) := by decide +kernel
theorem dX7_depth_44 : decode cX7_depth 44 = .ok (.iconst 0, 1) := by decide +kernel
theorem dX7_depth_45 : decode cX7_depth 45 = .ok (.istore 6, 2) := by decide +kernel
theorem dX7_depth_47 : decode cX7_depth 47 = .ok (.iload 4, 2) := by decide +kernel
theorem dX7_depth_49 : decode cX7_depth 49 = .ok (.iconst 5, 1) := by decide +kernel
theorem dX7_depth_50 : decode cX7_depth 50 = .ok (.iload_n 3, 1) := by decide +kernel
theorem dX7_depth_51 : decode cX7_depth 51 = .ok (.iadd, 1) := by decide +kernel
theorem dX7_depth_52 : decode cX7_depth 52 = .ok (.ishr, 1) := by decide +kernel
theorem dX7_depth_53 : decode cX7_depth 53 = .ok (.iconst 1, 1) := by decide +kernel
theorem dX7_depth_54 : decode cX7_depth 54 = .ok (.iand, 1) := by decide +kernel
theorem dX7_depth_55 : decode cX7_depth 55 = .ok (.iconst 1, 1) := by decide +kernel
theorem dX7_depth_56 : decode cX7_depth 56 = .ok (.if_icmp .ne 7, 3) := by decide +kernel
theorem dX7_depth_59 : decode cX7_depth 59 = .ok (.iconst 1, 1) := by decide +kernel
theorem dX7_depth_60 : decode cX7_depth 60 = .ok (.goto 4, 3) := by decide +kernel
theorem dX7_depth_63 : decode cX7_depth 63 = .ok (.iconst 0, 1) := by decide +kernel
theorem dX7_depth_64 : decode cX7_depth 64 = .ok (.istore 7, 2) := by decide +kernel
theorem dX7_depth_66 : decode cX7_depth 66 = .ok (.iload_n 2, 1) := by decide +kernel
theorem dX7_depth_67 : decode cX7_depth 67 = .ok (.iload 6, 2) := by decide +kernel
theorem dX7_depth_69 : decode cX7_depth 69 = .ok (.ifCond .eq 12, 3) := by decide +kernel
theorem dX7_depth_72 : decode cX7_depth 72 = .ok (.iload 7, 2) := by decide +kernel
theorem dX7_depth_74 : decode cX7_depth 74 = .ok (.ifCond .ne 7, 3) := by decide +kernel
theorem dX7_depth_77 : decode cX7_depth 77 = .ok (.iconst 1, 1) := by decide +kernel
theorem dX7_depth_78 : decode cX7_depth 78 = .ok (.goto 4, 3) := by decide +kernel
theorem dX7_depth_81 : decode cX7_depth 81 = .ok (.iconst 0, 1) := by decide +kernel
theorem dX7_depth_82 : decode cX7_depth 82 = .ok (.iadd, 1) := by decide +kernel
theorem dX7_depth_83 : decode cX7_depth 83 = .ok (.istore_n 2, 1) := by decide +kernel
theorem dX7_depth_84 : decode cX7_depth 84 = .ok (.iinc 3 1, 3) := by decide +kernel
theorem dX7_depth_87 : decode cX7_depth 87 = .ok (.goto (-83), 3) := by decide +kernel
theorem dX7_depth_90 : decode cX7_depth 90 = .ok (.iload_n 2, 1) := by decide +kernel
theorem dX7_depth_91 : decode cX7_depth 91 = .ok (.ireturn, 1) := by decide +kernel
set_option maxRecDepth 20000 in
theorem ggX7_walksFrom_X7_partners : GoodIn wsX7_walksFrom wsX7_partners := goodIn_r _ [4] (by decide +kernel) (by decide +kernel)
set_option maxRecDepth 20000 in
theorem gX7_walksFrom_X7_partners : GoodIn wsX7_walksFrom (va_wsS RX7 11 yX7_partners wsX7_partners) := goodIn_app (goodIn_of _ (by decide +kernel)) ggX7_walksFrom_X7_partners
theorem dX7_walksFrom_0 : decode cX7_walksFrom 0 = .ok (.iconst 1, 1) := by decide +kernel
theorem dX7_walksFrom_1 : decode cX7_walksFrom 1 = .ok (.iload_n 2, 1) := by decide +kernel
theorem dX7_walksFrom_2 : decode cX7_walksFrom 2 = .ok (.ishl, 1) := by decide +kernel
theorem dX7_walksFrom_3 : decode cX7_walksFrom 3 = .ok (.istore_n 3, 1) := by decide +kernel
theorem dX7_walksFrom_4 : decode cX7_walksFrom 4 = .ok (.iconst 0, 1) := by decide +kernel
theorem dX7_walksFrom_5 : decode cX7_walksFrom 5 = .ok (.istore 4, 2) := by decide +kernel
theorem dX7_walksFrom_7 : decode cX7_walksFrom 7 = .ok (.iload 4, 2) := by decide +kernel
theorem dX7_walksFrom_9 : decode cX7_walksFrom 9 = .ok (.bipush 10, 2) := by decide +kernel
theorem dX7_walksFrom_11 : decode cX7_walksFrom 11 = .ok (.if_icmp .ge 66, 3) := by decide +kernel
theorem dX7_walksFrom_14 : decode cX7_walksFrom 14 = .ok (.iconst 0, 1) := by decide +kernel
theorem dX7_walksFrom_15 : decode cX7_walksFrom 15 = .ok (.istore 5, 2) := by decide +kernel
theorem dX7_walksFrom_17 : decode cX7_walksFrom 17 = .ok (.iload 5, 2) := by decide +kernel
theorem dX7_walksFrom_19 : decode cX7_walksFrom 19 = .ok (.iload_n 0, 1) := by decide +kernel
theorem dX7_walksFrom_20 : decode cX7_walksFrom 20 = .ok (.if_icmp .ge 51, 3) := by decide +kernel
theorem dX7_walksFrom_23 : decode cX7_walksFrom 23 = .ok (.iload_n 1, 1) := by decide +kernel
theorem dX7_walksFrom_24 : decode cX7_walksFrom 24 = .ok (.iload 5, 2) := by decide +kernel
theorem dX7_walksFrom_26 : decode cX7_walksFrom 26 = .ok (.invokestatic 11, 3) := by decide +kernel
theorem dX7_walksFrom_29 : decode cX7_walksFrom 29 = .ok (.istore 6, 2) := by decide +kernel
theorem dX7_walksFrom_31 : decode cX7_walksFrom 31 = .ok (.iload_n 3, 1) := by decide +kernel
theorem dX7_walksFrom_32 : decode cX7_walksFrom 32 = .ok (.iload 5, 2) := by decide +kernel
theorem dX7_walksFrom_34 : decode cX7_walksFrom 34 = .ok (.ishr, 1) := by decide +kernel
theorem dX7_walksFrom_35 : decode cX7_walksFrom 35 = .ok (.iconst 1, 1) := by decide +kernel
theorem dX7_walksFrom_36 : decode cX7_walksFrom 36 = .ok (.iand, 1) := by decide +kernel
theorem dX7_walksFrom_37 : decode cX7_walksFrom 37 = .ok (.iconst 1, 1) := by decide +kernel
theorem dX7_walksFrom_38 : decode cX7_walksFrom 38 = .ok (.if_icmp .ne 10, 3) := by decide +kernel
theorem dX7_walksFrom_41 : decode cX7_walksFrom 41 = .ok (.iload_n 3, 1) := by decide +kernel
theorem dX7_walksFrom_42 : decode cX7_walksFrom 42 = .ok (.iload 6, 2) := by decide +kernel
theorem dX7_walksFrom_44 : decode cX7_walksFrom 44 = .ok (.iconst 5, 1) := by decide +kernel
theorem dX7_walksFrom_45 : decode cX7_walksFrom 45 = .ok (.ishl, 1) := by decide +kernel
theorem dX7_walksFrom_46 : decode cX7_walksFrom 46 = .ok (.ior, 1) := by decide +kernel
theorem dX7_walksFrom_47 : decode cX7_walksFrom 47 = .ok (.istore_n 3, 1) := by decide +kernel
theorem dX7_walksFrom_48 : decode cX7_walksFrom 48 = .ok (.iload_n 3, 1) := by decide +kernel
theorem dX7_walksFrom_49 : decode cX7_walksFrom 49 = .ok (.iconst 5, 1) := by decide +kernel
theorem dX7_walksFrom_50 : decode cX7_walksFrom 50 = .ok (.iload 5, 2) := by decide +kernel
theorem dX7_walksFrom_52 : decode cX7_walksFrom 52 = .ok (.iadd, 1) := by decide +kernel
theorem dX7_walksFrom_53 : decode cX7_walksFrom 53 = .ok (.ishr, 1) := by decide +kernel
theorem dX7_walksFrom_54 : decode cX7_walksFrom 54 = .ok (.iconst 1, 1) := by decide +kernel
theorem dX7_walksFrom_55 : decode cX7_walksFrom 55 = .ok (.iand, 1) := by decide +kernel
theorem dX7_walksFrom_56 : decode cX7_walksFrom 56 = .ok (.iconst 1, 1) := by decide +kernel
theorem dX7_walksFrom_57 : decode cX7_walksFrom 57 = .ok (.if_icmp .ne 8, 3) := by decide +kernel
theorem dX7_walksFrom_60 : decode cX7_walksFrom 60 = .ok (.iload_n 3, 1) := by decide +kernel
theorem dX7_walksFrom_61 : decode cX7_walksFrom 61 = .ok (.iload 6, 2) := by decide +kernel
theorem dX7_walksFrom_63 : decode cX7_walksFrom 63 = .ok (.ior, 1) := by decide +kernel
theorem dX7_walksFrom_64 : decode cX7_walksFrom 64 = .ok (.istore_n 3, 1) := by decide +kernel
theorem dX7_walksFrom_65 : decode cX7_walksFrom 65 = .ok (.iinc 5 1, 3) := by decide +kernel
theorem dX7_walksFrom_68 : decode cX7_walksFrom 68 = .ok (.goto (-51), 3) := by decide +kernel
theorem dX7_walksFrom_71 : decode cX7_walksFrom 71 = .ok (.iinc 4 1, 3) := by decide +kernel
theorem dX7_walksFrom_74 : decode cX7_walksFrom 74 = .ok (.goto (-67), 3) := by decide +kernel
theorem dX7_walksFrom_77 : decode cX7_walksFrom 77 = .ok (.iload_n 3, 1) := by decide +kernel
theorem dX7_walksFrom_78 : decode cX7_walksFrom 78 = .ok (.ireturn, 1) := by decide +kernel
set_option maxRecDepth 20000 in
theorem ggX7_needed_X4_gap : GoodIn wsX7_needed wsX4_gap := goodIn_r _ [10, 11, 12, 13, 14] (by decide +kernel) (by decide +kernel)
set_option maxRecDepth 20000 in
theorem gX7_needed_X4_gap : GoodIn wsX7_needed (wsV RX7 28 RX4 yX4_gap wsX4_gap) := goodIn_app (goodIn_of _ (by decide +kernel)) ggX7_needed_X4_gap
theorem dX7_needed_0 : decode cX7_needed 0 = .ok (.iconst 0, 1) := by decide +kernel
theorem dX7_needed_1 : decode cX7_needed 1 = .ok (.istore 4, 2) := by decide +kernel
theorem dX7_needed_3 : decode cX7_needed 3 = .ok (.iconst 0, 1) := by decide +kernel
theorem dX7_needed_4 : decode cX7_needed 4 = .ok (.istore 5, 2) := by decide +kernel
theorem dX7_needed_6 : decode cX7_needed 6 = .ok (.iload 5, 2) := by decide +kernel
theorem dX7_needed_8 : decode cX7_needed 8 = .ok (.aload_n 0, 1) := by decide +kernel
theorem dX7_needed_9 : decode cX7_needed 9 = .ok (.getfield 22, 3) := by decide +kernel
theorem dX7_needed_12 : decode cX7_needed 12 = .ok (.if_icmp .ge 46, 3) := by decide +kernel
theorem dX7_needed_15 : decode cX7_needed 15 = .ok (.iload 5, 2) := by decide +kernel
theorem dX7_needed_17 : decode cX7_needed 17 = .ok (.iload_n 2, 1) := by decide +kernel
theorem dX7_needed_18 : decode cX7_needed 18 = .ok (.if_icmp .eq 34, 3) := by decide +kernel
theorem dX7_needed_21 : decode cX7_needed 21 = .ok (.iload_n 3, 1) := by decide +kernel
theorem dX7_needed_22 : decode cX7_needed 22 = .ok (.iload 5, 2) := by decide +kernel
theorem dX7_needed_24 : decode cX7_needed 24 = .ok (.ishr, 1) := by decide +kernel
theorem dX7_needed_25 : decode cX7_needed 25 = .ok (.iconst 1, 1) := by decide +kernel
theorem dX7_needed_26 : decode cX7_needed 26 = .ok (.iand, 1) := by decide +kernel
theorem dX7_needed_27 : decode cX7_needed 27 = .ok (.iconst 1, 1) := by decide +kernel
theorem dX7_needed_28 : decode cX7_needed 28 = .ok (.if_icmp .ne 24, 3) := by decide +kernel
theorem dX7_needed_31 : decode cX7_needed 31 = .ok (.iload 4, 2) := by decide +kernel
theorem dX7_needed_33 : decode cX7_needed 33 = .ok (.iconst 2, 1) := by decide +kernel
theorem dX7_needed_34 : decode cX7_needed 34 = .ok (.aload_n 0, 1) := by decide +kernel
theorem dX7_needed_35 : decode cX7_needed 35 = .ok (.iload_n 2, 1) := by decide +kernel
theorem dX7_needed_36 : decode cX7_needed 36 = .ok (.iload 5, 2) := by decide +kernel
theorem dX7_needed_38 : decode cX7_needed 38 = .ok (.invokevirtual 28, 3) := by decide +kernel
theorem dX7_needed_41 : decode cX7_needed 41 = .ok (.imul, 1) := by decide +kernel
theorem dX7_needed_42 : decode cX7_needed 42 = .ok (.aload_n 1, 1) := by decide +kernel
theorem dX7_needed_43 : decode cX7_needed 43 = .ok (.iload 5, 2) := by decide +kernel
theorem dX7_needed_45 : decode cX7_needed 45 = .ok (.iaload, 1) := by decide +kernel
theorem dX7_needed_46 : decode cX7_needed 46 = .ok (.isub, 1) := by decide +kernel
theorem dX7_needed_47 : decode cX7_needed 47 = .ok (.invokestatic 47, 3) := by decide +kernel
theorem dX7_needed_50 : decode cX7_needed 50 = .ok (.istore 4, 2) := by decide +kernel
theorem dX7_needed_52 : decode cX7_needed 52 = .ok (.iinc 5 1, 3) := by decide +kernel
theorem dX7_needed_55 : decode cX7_needed 55 = .ok (.goto (-49), 3) := by decide +kernel
theorem dX7_needed_58 : decode cX7_needed 58 = .ok (.iload 4, 2) := by decide +kernel
theorem dX7_needed_60 : decode cX7_needed 60 = .ok (.ireturn, 1) := by decide +kernel
set_option maxRecDepth 20000 in
theorem ggX8_init_X2_init : GoodIn wsX8_init wsX2_init := goodIn_r _ [32, 33, 2, 3, 34, 11, 12, 35, 36, 37, 38, 39, 40, 41, 42, 43, 44, 45, 46, 47, 48, 49, 50, 51, 52, 53, 54, 55, 56, 57, 58, 59, 60, 61, 62, 63, 64, 65, 66, 67, 68, 69, 70, 71, 72, 73, 74, 75, 76, 77, 78, 79, 80, 6, 81, 82, 140, 141, 126, 127, 128, 129, 130, 131, 161, 162, 163] (by decide +kernel) (by decide +kernel)
set_option maxRecDepth 20000 in
theorem gX8_init_X2_init : GoodIn wsX8_init (wsX2_init) := ggX8_init_X2_init
set_option maxRecDepth 20000 in
theorem ggX8_init_X4_init : GoodIn wsX8_init wsX4_init := goodIn_r _ [47, 48, 2, 3, 36, 49, 50, 51, 52, 12, 53, 54, 55, 56, 57, 58, 59, 60, 61, 62, 63, 64, 65, 66, 67, 68, 69, 140, 141] (by decide +kernel) (by decide +kernel)
set_option maxRecDepth 20000 in
theorem gX8_init_X4_init : GoodIn wsX8_init (wsX4_init) := ggX8_init_X4_init
set_option maxRecDepth 20000 in
theorem ggX8_init_X3_init : GoodIn wsX8_init wsX3_init := goodIn_r _ [86, 87, 2, 3, 88, 11, 12, 89, 90, 36, 91, 92, 93, 94, 46, 47, 48, 49, 50, 51, 52, 53, 54, 55, 56, 57, 58, 59, 60, 61, 62, 63, 64, 65, 66, 67, 68, 69, 140, 141, 142, 143, 144, 145, 146] (by decide +kernel) (by decide +kernel)
set_option maxRecDepth 20000 in
theorem gX8_init_X3_init : GoodIn wsX8_init (wsX3_init) := ggX8_init_X3_init
set_option maxRecDepth 20000 in
theorem ggX8_init_X0_init : GoodIn wsX8_init wsX0_init := goodIn_r _ [97, 98, 2, 3, 99, 11, 12, 100, 101, 36, 102, 103, 104, 105, 106, 107, 108, 46, 47, 48, 49, 50, 51, 52, 53, 54, 55, 56, 57, 58, 59, 60, 61, 62, 63, 64, 65, 66, 67, 68, 69, 140, 141, 147, 148, 149, 150, 151, 152, 153] (by decide +kernel) (by decide +kernel)
set_option maxRecDepth 20000 in
theorem gX8_init_X0_init : GoodIn wsX8_init (wsX0_init) := ggX8_init_X0_init
set_option maxRecDepth 20000 in
theorem ggX8_init_X6_init : GoodIn wsX8_init wsX6_init := goodIn_r _ [111, 112, 2, 3, 113, 114, 115, 36, 116, 117, 154, 155, 156, 157] (by decide +kernel) (by decide +kernel)
set_option maxRecDepth 20000 in
theorem gX8_init_X6_init : GoodIn wsX8_init (wsX6_init) := ggX8_init_X6_init
set_option maxRecDepth 20000 in
theorem ggX8_init_X5_init : GoodIn wsX8_init wsX5_init := goodIn_r _ [120, 121, 2, 3, 122, 103, 123, 36, 124, 125, 158, 159, 160] (by decide +kernel) (by decide +kernel)
set_option maxRecDepth 20000 in
theorem gX8_init_X5_init : GoodIn wsX8_init (wsX5_init) := ggX8_init_X5_init
theorem dX8_init_0 : decode cX8_init 0 = .ok (.aload_n 0, 1) := by decide +kernel
theorem dX8_init_1 : decode cX8_init 1 = .ok (.invokespecial 3, 3) := by decide +kernel
theorem dX8_init_4 : decode cX8_init 4 = .ok (.aload_n 0, 1) := by decide +kernel
theorem dX8_init_5 : decode cX8_init 5 = .ok (.new 9, 3) := by decide +kernel
theorem dX8_init_8 : decode cX8_init 8 = .ok (.dup, 1) := by decide +kernel
theorem dX8_init_9 : decode cX8_init 9 = .ok (.invokespecial 11, 3) := by decide +kernel
theorem dX8_init_12 : decode cX8_init 12 = .ok (.putfield 12, 3) := by decide +kernel
theorem dX8_init_15 : decode cX8_init 15 = .ok (.aload_n 0, 1) := by decide +kernel
theorem dX8_init_16 : decode cX8_init 16 = .ok (.new 9, 3) := by decide +kernel
theorem dX8_init_19 : decode cX8_init 19 = .ok (.dup, 1) := by decide +kernel
theorem dX8_init_20 : decode cX8_init 20 = .ok (.invokespecial 11, 3) := by decide +kernel
theorem dX8_init_23 : decode cX8_init 23 = .ok (.putfield 18, 3) := by decide +kernel
theorem dX8_init_26 : decode cX8_init 26 = .ok (.aload_n 0, 1) := by decide +kernel
theorem dX8_init_27 : decode cX8_init 27 = .ok (.iconst 0, 1) := by decide +kernel
theorem dX8_init_28 : decode cX8_init 28 = .ok (.putfield 21, 3) := by decide +kernel
theorem dX8_init_31 : decode cX8_init 31 = .ok (.aload_n 0, 1) := by decide +kernel
theorem dX8_init_32 : decode cX8_init 32 = .ok (.new 25, 3) := by decide +kernel
theorem dX8_init_35 : decode cX8_init 35 = .ok (.dup, 1) := by decide +kernel
theorem dX8_init_36 : decode cX8_init 36 = .ok (.invokespecial 27, 3) := by decide +kernel
theorem dX8_init_39 : decode cX8_init 39 = .ok (.putfield 28, 3) := by decide +kernel
theorem dX8_init_42 : decode cX8_init 42 = .ok (.aload_n 0, 1) := by decide +kernel
theorem dX8_init_43 : decode cX8_init 43 = .ok (.new 32, 3) := by decide +kernel
theorem dX8_init_46 : decode cX8_init 46 = .ok (.dup, 1) := by decide +kernel
theorem dX8_init_47 : decode cX8_init 47 = .ok (.invokespecial 34, 3) := by decide +kernel
theorem dX8_init_50 : decode cX8_init 50 = .ok (.putfield 35, 3) := by decide +kernel
theorem dX8_init_53 : decode cX8_init 53 = .ok (.aload_n 0, 1) := by decide +kernel
