set_option maxRecDepth 20000 in
theorem ggX0_init_X4_init : GoodIn wsX0_init wsX4_init := goodIn_r _ [18, 19, 2, 3, 9, 20, 21, 22, 23, 6, 24, 25, 26, 27, 28, 29, 30, 31, 32, 33, 34, 35, 36, 37, 38, 39, 40, 41, 42] (by decide +kernel) (by decide +kernel)
set_option maxRecDepth 20000 in
theorem gX0_init_X4_init : GoodIn wsX0_init (wsX4_init) := ggX0_init_X4_init
theorem dX0_init_0 : decode cX0_init 0 = .ok (.aload_n 0, 1) := by decide +kernel
theorem dX0_init_1 : decode cX0_init 1 = .ok (.invokespecial 3, 3) := by decide +kernel
theorem dX0_init_4 : decode cX0_init 4 = .ok (.aload_n 0, 1) := by decide +kernel
theorem dX0_init_5 : decode cX0_init 5 = .ok (.new 9, 3) := by decide +kernel
theorem dX0_init_8 : decode cX0_init 8 = .ok (.dup, 1) := by decide +kernel
theorem dX0_init_9 : decode cX0_init 9 = .ok (.invokespecial 11, 3) := by decide +kernel
theorem dX0_init_12 : decode cX0_init 12 = .ok (.putfield 12, 3) := by decide +kernel
theorem dX0_init_15 : decode cX0_init 15 = .ok (.aload_n 0, 1) := by decide +kernel
theorem dX0_init_16 : decode cX0_init 16 = .ok (.iconst 0, 1) := by decide +kernel
theorem dX0_init_17 : decode cX0_init 17 = .ok (.putfield 18, 3) := by decide +kernel
theorem dX0_init_20 : decode cX0_init 20 = .ok (.aload_n 0, 1) := by decide +kernel
theorem dX0_init_21 : decode cX0_init 21 = .ok (.iconst 5, 1) := by decide +kernel
theorem dX0_init_22 : decode cX0_init 22 = .ok (.newarray .int, 2) := by decide +kernel
theorem dX0_init_24 : decode cX0_init 24 = .ok (.putfield 22, 3) := by decide +kernel
theorem dX0_init_27 : decode cX0_init 27 = .ok (.aload_n 0, 1) := by decide +kernel
theorem dX0_init_28 : decode cX0_init 28 = .ok (.bipush 37, 2) := by decide +kernel
theorem dX0_init_30 : decode cX0_init 30 = .ok (.newarray .long, 2) := by decide +kernel
theorem dX0_init_32 : decode cX0_init 32 = .ok (.putfield 26, 3) := by decide +kernel
theorem dX0_init_35 : decode cX0_init 35 = .ok (.aload_n 0, 1) := by decide +kernel
theorem dX0_init_36 : decode cX0_init 36 = .ok (.bipush 37, 2) := by decide +kernel
theorem dX0_init_38 : decode cX0_init 38 = .ok (.newarray .int, 2) := by decide +kernel
theorem dX0_init_40 : decode cX0_init 40 = .ok (.putfield 30, 3) := by decide +kernel
theorem dX0_init_43 : decode cX0_init 43 = .ok (.aload_n 0, 1) := by decide +kernel
theorem dX0_init_44 : decode cX0_init 44 = .ok (.iconst 0, 1) := by decide +kernel
theorem dX0_init_45 : decode cX0_init 45 = .ok (.putfield 33, 3) := by decide +kernel
theorem dX0_init_48 : decode cX0_init 48 = .ok (.aload_n 0, 1) := by decide +kernel
theorem dX0_init_49 : decode cX0_init 49 = .ok (.iconst 0, 1) := by decide +kernel
theorem dX0_init_50 : decode cX0_init 50 = .ok (.putfield 36, 3) := by decide +kernel
theorem dX0_init_53 : decode cX0_init 53 = .ok (.return_, 1) := by decide +kernel
set_option maxRecDepth 20000 in
theorem ggX0_follow_X4_isLike : GoodIn wsX0_follow wsX4_isLike := goodIn_r _ [9, 10, 11, 12, 13, 8, 14, 15, 16, 17, 18, 19, 114, 115] (by decide +kernel) (by decide +kernel)
set_option maxRecDepth 20000 in
theorem gX0_follow_X4_isLike : GoodIn wsX0_follow (wsV RX0 40 RX4 yX4_isLike wsX4_isLike) := goodIn_app (goodIn_of _ (by decide +kernel)) ggX0_follow_X4_isLike
set_option maxRecDepth 20000 in
theorem ggX0_follow_X4_become : GoodIn wsX0_follow wsX4_become := goodIn_r _ [23, 10, 19, 24, 25, 26, 27, 114, 115] (by decide +kernel) (by decide +kernel)
set_option maxRecDepth 20000 in
theorem gX0_follow_X4_become : GoodIn wsX0_follow (wsV RX0 44 RX4 yX4_become wsX4_become) := goodIn_app (goodIn_of _ (by decide +kernel)) ggX0_follow_X4_become
set_option maxRecDepth 20000 in
theorem ggX0_follow_X4_isTable : GoodIn wsX0_follow wsX4_isTable := goodIn_r _ [31, 32, 33, 34, 8, 35, 10, 15, 16, 17, 18, 19, 114, 115] (by decide +kernel) (by decide +kernel)
set_option maxRecDepth 20000 in
theorem gX0_follow_X4_isTable : GoodIn wsX0_follow (wsV RX0 48 RX4 yX4_isTable wsX4_isTable) := goodIn_app (goodIn_of _ (by decide +kernel)) ggX0_follow_X4_isTable
set_option maxRecDepth 20000 in
theorem ggX0_follow_X0_addEyes : GoodIn wsX0_follow wsX0_addEyes := goodIn_r _ [40, 2, 41, 42, 43, 44, 39, 45, 46, 47, 16, 17, 8, 18, 10, 19, 48, 49, 50, 51, 3, 52, 107, 108, 109, 110, 111, 112, 113, 114, 115] (by decide +kernel) (by decide +kernel)
set_option maxRecDepth 20000 in
theorem gX0_follow_X0_addEyes : GoodIn wsX0_follow (wsV RX0 52 RX0 yX0_addEyes wsX0_addEyes) := goodIn_app (goodIn_of _ (by decide +kernel)) ggX0_follow_X0_addEyes
set_option maxRecDepth 20000 in
theorem ggX0_follow_X0_addRoundsOfThree : GoodIn wsX0_follow wsX0_addRoundsOfThree := goodIn_r _ [56, 2, 41, 57, 58, 59, 39, 60, 46, 47, 16, 17, 8, 18, 10, 19, 61, 62, 63, 64, 65, 66, 67, 68, 69, 70, 48, 49, 50, 51, 3, 52, 107, 108, 109, 110, 111, 112, 113, 114, 115] (by decide +kernel) (by decide +kernel)
set_option maxRecDepth 20000 in
theorem gX0_follow_X0_addRoundsOfThree : GoodIn wsX0_follow (wsV RX0 55 RX0 yX0_addRoundsOfThree wsX0_addRoundsOfThree) := goodIn_app (goodIn_of _ (by decide +kernel)) ggX0_follow_X0_addRoundsOfThree
set_option maxRecDepth 20000 in
theorem ggX0_follow_X0_addRoundsOfFive : GoodIn wsX0_follow wsX0_addRoundsOfFive := goodIn_r _ [74, 2, 41, 75, 76, 77, 39, 78, 46, 47, 16, 17, 8, 18, 10, 19, 79, 80, 81, 82, 83, 84, 63, 85, 65, 70, 48, 49, 50, 51, 3, 52, 107, 108, 109, 110, 111, 112, 113, 114, 115] (by decide +kernel) (by decide +kernel)
set_option maxRecDepth 20000 in
theorem gX0_follow_X0_addRoundsOfFive : GoodIn wsX0_follow (wsV RX0 58 RX0 yX0_addRoundsOfFive wsX0_addRoundsOfFive) := goodIn_app (goodIn_of _ (by decide +kernel)) ggX0_follow_X0_addRoundsOfFive
set_option maxRecDepth 20000 in
theorem ggX0_follow_X0_noteTwos : GoodIn wsX0_follow wsX0_noteTwos := goodIn_r _ [89, 3, 2, 41, 46, 90, 91, 92, 93, 39, 94, 52, 95, 96, 97, 98, 99, 100, 101, 102, 8, 103, 10, 104, 105, 63, 106, 65, 70, 16, 17, 18, 19, 107, 108, 109, 110, 111, 112, 113, 114, 115] (by decide +kernel) (by decide +kernel)
set_option maxRecDepth 20000 in
theorem gX0_follow_X0_noteTwos : GoodIn wsX0_follow (wsV RX0 61 RX0 yX0_noteTwos wsX0_noteTwos) := goodIn_app (goodIn_of _ (by decide +kernel)) ggX0_follow_X0_noteTwos
theorem dX0_follow_0 : decode cX0_follow 0 = .ok (.aload_n 0, 1) := by decide +kernel
theorem dX0_follow_1 : decode cX0_follow 1 = .ok (.getfield 18, 3) := by decide +kernel
theorem dX0_follow_4 : decode cX0_follow 4 = .ok (.ifCond .eq 15, 3) := by decide +kernel
theorem dX0_follow_7 : decode cX0_follow 7 = .ok (.aload_n 0, 1) := by decide +kernel
theorem dX0_follow_8 : decode cX0_follow 8 = .ok (.getfield 12, 3) := by decide +kernel
theorem dX0_follow_11 : decode cX0_follow 11 = .ok (.aload_n 1, 1) := by decide +kernel
theorem dX0_follow_12 : decode cX0_follow 12 = .ok (.invokevirtual 40, 3) := by decide +kernel
theorem dX0_follow_15 : decode cX0_follow 15 = .ok (.ifCond .eq 4, 3) := by decide +kernel
theorem dX0_follow_18 : decode cX0_follow 18 = .ok (.return_, 1) := by decide +kernel
theorem dX0_follow_19 : decode cX0_follow 19 = .ok (.aload_n 0, 1) := by decide +kernel
theorem dX0_follow_20 : decode cX0_follow 20 = .ok (.getfield 12, 3) := by decide +kernel
theorem dX0_follow_23 : decode cX0_follow 23 = .ok (.aload_n 1, 1) := by decide +kernel
theorem dX0_follow_24 : decode cX0_follow 24 = .ok (.invokevirtual 44, 3) := by decide +kernel
theorem dX0_follow_27 : decode cX0_follow 27 = .ok (.aload_n 0, 1) := by decide +kernel
theorem dX0_follow_28 : decode cX0_follow 28 = .ok (.iconst 1, 1) := by decide +kernel
theorem dX0_follow_29 : decode cX0_follow 29 = .ok (.putfield 18, 3) := by decide +kernel
theorem dX0_follow_32 : decode cX0_follow 32 = .ok (.aload_n 0, 1) := by decide +kernel
theorem dX0_follow_33 : decode cX0_follow 33 = .ok (.iconst 0, 1) := by decide +kernel
theorem dX0_follow_34 : decode cX0_follow 34 = .ok (.putfield 36, 3) := by decide +kernel
theorem dX0_follow_37 : decode cX0_follow 37 = .ok (.aload_n 0, 1) := by decide +kernel
theorem dX0_follow_38 : decode cX0_follow 38 = .ok (.aload_n 0, 1) := by decide +kernel
theorem dX0_follow_39 : decode cX0_follow 39 = .ok (.getfield 12, 3) := by decide +kernel
theorem dX0_follow_42 : decode cX0_follow 42 = .ok (.invokevirtual 48, 3) := by decide +kernel
theorem dX0_follow_45 : decode cX0_follow 45 = .ok (.putfield 33, 3) := by decide +kernel
theorem dX0_follow_48 : decode cX0_follow 48 = .ok (.aload_n 0, 1) := by decide +kernel
theorem dX0_follow_49 : decode cX0_follow 49 = .ok (.getfield 33, 3) := by decide +kernel
theorem dX0_follow_52 : decode cX0_follow 52 = .ok (.ifCond .eq 19, 3) := by decide +kernel
theorem dX0_follow_55 : decode cX0_follow 55 = .ok (.aload_n 0, 1) := by decide +kernel
theorem dX0_follow_56 : decode cX0_follow 56 = .ok (.invokevirtual 52, 3) := by decide +kernel
theorem dX0_follow_59 : decode cX0_follow 59 = .ok (.aload_n 0, 1) := by decide +kernel
theorem dX0_follow_60 : decode cX0_follow 60 = .ok (.invokevirtual 55, 3) := by decide +kernel
theorem dX0_follow_63 : decode cX0_follow 63 = .ok (.aload_n 0, 1) := by decide +kernel
theorem dX0_follow_64 : decode cX0_follow 64 = .ok (.invokevirtual 58, 3) := by decide +kernel
theorem dX0_follow_67 : decode cX0_follow 67 = .ok (.aload_n 0, 1) := by decide +kernel
theorem dX0_follow_68 : decode cX0_follow 68 = .ok (.invokevirtual 61, 3) := by decide +kernel
theorem dX0_follow_71 : decode cX0_follow 71 = .ok (.return_, 1) := by decide +kernel
theorem dX0_has_0 : decode cX0_has 0 = .ok (.iload_n 1, 1) := by decide +kernel
theorem dX0_has_1 : decode cX0_has 1 = .ok (.ifCond .lt 15, 3) := by decide +kernel
theorem dX0_has_4 : decode cX0_has 4 = .ok (.iload_n 1, 1) := by decide +kernel
theorem dX0_has_5 : decode cX0_has 5 = .ok (.aload_n 0, 1) := by decide +kernel
theorem dX0_has_6 : decode cX0_has 6 = .ok (.getfield 36, 3) := by decide +kernel
theorem dX0_has_9 : decode cX0_has 9 = .ok (.if_icmp .ge 7, 3) := by decide +kernel
theorem dX0_has_12 : decode cX0_has 12 = .ok (.iconst 1, 1) := by decide +kernel
theorem dX0_has_13 : decode cX0_has 13 = .ok (.goto 4, 3) := by decide +kernel
theorem dX0_has_16 : decode cX0_has 16 = .ok (.iconst 0, 1) := by decide +kernel
theorem dX0_has_17 : decode cX0_has 17 = .ok (.ireturn, 1) := by decide +kernel
set_option maxRecDepth 20000 in
theorem ggX0_addEyes_X0_lookFrom : GoodIn wsX0_addEyes wsX0_lookFrom := goodIn_r _ [7, 1, 2, 8, 9, 10, 11, 12, 13, 14, 15, 22, 23, 24, 25, 26, 27, 28, 29, 30] (by decide +kernel) (by decide +kernel)
set_option maxRecDepth 20000 in
theorem gX0_addEyes_X0_lookFrom : GoodIn wsX0_addEyes (wsV RX0 67 RX0 yX0_lookFrom wsX0_lookFrom) := goodIn_app (goodIn_of _ (by decide +kernel)) ggX0_addEyes_X0_lookFrom
set_option maxRecDepth 20000 in
theorem ggX0_addEyes_X0_add : GoodIn wsX0_addEyes wsX0_add := goodIn_r _ [19, 1, 2, 8, 20, 21, 22, 23, 24, 25, 26, 27, 28, 29, 30] (by decide +kernel) (by decide +kernel)
set_option maxRecDepth 20000 in
theorem gX0_addEyes_X0_add : GoodIn wsX0_addEyes (wsV RX0 71 RX0 yX0_add wsX0_add) := goodIn_app (goodIn_of _ (by decide +kernel)) ggX0_addEyes_X0_add
theorem dX0_addEyes_0 : decode cX0_addEyes 0 = .ok (.iconst 0, 1) := by decide +kernel
theorem dX0_addEyes_1 : decode cX0_addEyes 1 = .ok (.istore_n 1, 1) := by decide +kernel
theorem dX0_addEyes_2 : decode cX0_addEyes 2 = .ok (.iload_n 1, 1) := by decide +kernel
theorem dX0_addEyes_3 : decode cX0_addEyes 3 = .ok (.aload_n 0, 1) := by decide +kernel
theorem dX0_addEyes_4 : decode cX0_addEyes 4 = .ok (.getfield 12, 3) := by decide +kernel
theorem dX0_addEyes_7 : decode cX0_addEyes 7 = .ok (.getfield 64, 3) := by decide +kernel
theorem dX0_addEyes_10 : decode cX0_addEyes 10 = .ok (.if_icmp .ge 18, 3) := by decide +kernel
theorem dX0_addEyes_13 : decode cX0_addEyes 13 = .ok (.aload_n 0, 1) := by decide +kernel
theorem dX0_addEyes_14 : decode cX0_addEyes 14 = .ok (.iload_n 1, 1) := by decide +kernel
theorem dX0_addEyes_15 : decode cX0_addEyes 15 = .ok (.invokevirtual 67, 3) := by decide +kernel
theorem dX0_addEyes_18 : decode cX0_addEyes 18 = .ok (.aload_n 0, 1) := by decide +kernel
theorem dX0_addEyes_19 : decode cX0_addEyes 19 = .ok (.invokevirtual 71, 3) := by decide +kernel
theorem dX0_addEyes_22 : decode cX0_addEyes 22 = .ok (.iinc 1 1, 3) := by decide +kernel
theorem dX0_addEyes_25 : decode cX0_addEyes 25 = .ok (.goto (-23), 3) := by decide +kernel
theorem dX0_addEyes_28 : decode cX0_addEyes 28 = .ok (.return_, 1) := by decide +kernel
set_option maxRecDepth 20000 in
theorem ggX0_lookFrom_X4_gap : GoodIn wsX0_lookFrom wsX4_gap := goodIn_r _ [8, 9, 10, 18, 19] (by decide +kernel) (by decide +kernel)
set_option maxRecDepth 20000 in
theorem gX0_lookFrom_X4_gap : GoodIn wsX0_lookFrom (wsV RX0 74 RX4 yX4_gap wsX4_gap) := goodIn_app (goodIn_of _ (by decide +kernel)) ggX0_lookFrom_X4_gap
theorem dX0_lookFrom_0 : decode cX0_lookFrom 0 = .ok (.iconst 0, 1) := by decide +kernel
theorem dX0_lookFrom_1 : decode cX0_lookFrom 1 = .ok (.istore_n 2, 1) := by decide +kernel
theorem dX0_lookFrom_2 : decode cX0_lookFrom 2 = .ok (.iload_n 2, 1) := by decide +kernel
theorem dX0_lookFrom_3 : decode cX0_lookFrom 3 = .ok (.aload_n 0, 1) := by decide +kernel
theorem dX0_lookFrom_4 : decode cX0_lookFrom 4 = .ok (.getfield 12, 3) := by decide +kernel
theorem dX0_lookFrom_7 : decode cX0_lookFrom 7 = .ok (.getfield 64, 3) := by decide +kernel
theorem dX0_lookFrom_10 : decode cX0_lookFrom 10 = .ok (.if_icmp .ge 26, 3) := by decide +kernel
theorem dX0_lookFrom_13 : decode cX0_lookFrom 13 = .ok (.aload_n 0, 1) := by decide +kernel
theorem dX0_lookFrom_14 : decode cX0_lookFrom 14 = .ok (.getfield 22, 3) := by decide +kernel
theorem dX0_lookFrom_17 : decode cX0_lookFrom 17 = .ok (.iload_n 2, 1) := by decide +kernel
theorem dX0_lookFrom_18 : decode cX0_lookFrom 18 = .ok (.iconst 2, 1) := by decide +kernel
theorem dX0_lookFrom_19 : decode cX0_lookFrom 19 = .ok (.aload_n 0, 1) := by decide +kernel
theorem dX0_lookFrom_20 : decode cX0_lookFrom 20 = .ok (.getfield 12, 3) := by decide +kernel
theorem dX0_lookFrom_23 : decode cX0_lookFrom 23 = .ok (.iload_n 1, 1) := by decide +kernel
theorem dX0_lookFrom_24 : decode cX0_lookFrom 24 = .ok (.iload_n 2, 1) := by decide +kernel
theorem dX0_lookFrom_25 : decode cX0_lookFrom 25 = .ok (.invokevirtual 74, 3) := by decide +kernel
theorem dX0_lookFrom_28 : decode cX0_lookFrom 28 = .ok (.imul, 1) := by decide +kernel
theorem dX0_lookFrom_29 : decode cX0_lookFrom 29 = .ok (.iastore, 1) := by decide +kernel
theorem dX0_lookFrom_30 : decode cX0_lookFrom 30 = .ok (.iinc 2 1, 3) := by decide +kernel
theorem dX0_lookFrom_33 : decode cX0_lookFrom 33 = .ok (.goto (-31), 3) := by decide +kernel
theorem dX0_lookFrom_36 : decode cX0_lookFrom 36 = .ok (.return_, 1) := by decide +kernel
set_option maxRecDepth 20000 in
theorem ggX0_addRoundsOfThree_X0_addRoundOfThree : GoodIn wsX0_addRoundsOfThree wsX0_addRoundOfThree := goodIn_r _ [7, 1, 8, 2, 9, 10, 11, 12, 13, 14, 15, 16, 17, 18, 19, 20, 21, 22, 23, 24, 25, 26, 27, 28, 6, 29, 30, 31, 32, 33, 34, 35, 36, 37, 38, 39, 40] (by decide +kernel) (by decide +kernel)
set_option maxRecDepth 20000 in
theorem gX0_addRoundsOfThree_X0_addRoundOfThree : GoodIn wsX0_addRoundsOfThree (wsV RX0 78 RX0 yX0_addRoundOfThree wsX0_addRoundOfThree) := goodIn_app (goodIn_of _ (by decide +kernel)) ggX0_addRoundsOfThree_X0_addRoundOfThree
theorem dX0_addRoundsOfThree_0 : decode cX0_addRoundsOfThree 0 = .ok (.iconst 0, 1) := by decide +kernel
theorem dX0_addRoundsOfThree_1 : decode cX0_addRoundsOfThree 1 = .ok (.istore_n 1, 1) := by decide +kernel
theorem dX0_addRoundsOfThree_2 : decode cX0_addRoundsOfThree 2 = .ok (.iload_n 1, 1) := by decide +kernel
theorem dX0_addRoundsOfThree_3 : decode cX0_addRoundsOfThree 3 = .ok (.aload_n 0, 1) := by decide +kernel
theorem dX0_addRoundsOfThree_4 : decode cX0_addRoundsOfThree 4 = .ok (.getfield 12, 3) := by decide +kernel
theorem dX0_addRoundsOfThree_7 : decode cX0_addRoundsOfThree 7 = .ok (.getfield 64, 3) := by decide +kernel
theorem dX0_addRoundsOfThree_10 : decode cX0_addRoundsOfThree 10 = .ok (.if_icmp .ge 58, 3) := by decide +kernel
theorem dX0_addRoundsOfThree_13 : decode cX0_addRoundsOfThree 13 = .ok (.iload_n 1, 1) := by decide +kernel
theorem dX0_addRoundsOfThree_14 : decode cX0_addRoundsOfThree 14 = .ok (.iconst 1, 1) := by decide +kernel
theorem dX0_addRoundsOfThree_15 : decode cX0_addRoundsOfThree 15 = .ok (.iadd, 1) := by decide +kernel
theorem dX0_addRoundsOfThree_16 : decode cX0_addRoundsOfThree 16 = .ok (.istore_n 2, 1) := by decide +kernel
theorem dX0_addRoundsOfThree_17 : decode cX0_addRoundsOfThree 17 = .ok (.iload_n 2, 1) := by decide +kernel
theorem dX0_addRoundsOfThree_18 : decode cX0_addRoundsOfThree 18 = .ok (.aload_n 0, 1) := by decide +kernel
theorem dX0_addRoundsOfThree_19 : decode cX0_addRoundsOfThree 19 = .ok (.getfield 12, 3) := by decide +kernel
theorem dX0_addRoundsOfThree_22 : decode cX0_addRoundsOfThree 22 = .ok (.getfield 64, 3) := by decide +kernel
theorem dX0_addRoundsOfThree_25 : decode cX0_addRoundsOfThree 25 = .ok (.if_icmp .ge 37, 3) := by decide +kernel
theorem dX0_addRoundsOfThree_28 : decode cX0_addRoundsOfThree 28 = .ok (.iload_n 2, 1) := by decide +kernel
theorem dX0_addRoundsOfThree_29 : decode cX0_addRoundsOfThree 29 = .ok (.iconst 1, 1) := by decide +kernel
theorem dX0_addRoundsOfThree_30 : decode cX0_addRoundsOfThree 30 = .ok (.iadd, 1) := by decide +kernel
theorem dX0_addRoundsOfThree_31 : decode cX0_addRoundsOfThree 31 = .ok (.istore_n 3, 1) := by decide +kernel
theorem dX0_addRoundsOfThree_32 : decode cX0_addRoundsOfThree 32 = .ok (.iload_n 3, 1) := by decide +kernel
theorem dX0_addRoundsOfThree_33 : decode cX0_addRoundsOfThree 33 = .ok (.aload_n 0, 1) := by decide +kernel
theorem dX0_addRoundsOfThree_34 : decode cX0_addRoundsOfThree 34 = .ok (.getfield 12, 3) := by decide +kernel
theorem dX0_addRoundsOfThree_37 : decode cX0_addRoundsOfThree 37 = .ok (.getfield 64, 3) := by decide +kernel
theorem dX0_addRoundsOfThree_40 : decode cX0_addRoundsOfThree 40 = .ok (.if_icmp .ge 16, 3) := by decide +kernel
theorem dX0_addRoundsOfThree_43 : decode cX0_addRoundsOfThree 43 = .ok (.aload_n 0, 1) := by decide +kernel
theorem dX0_addRoundsOfThree_44 : decode cX0_addRoundsOfThree 44 = .ok (.iload_n 1, 1) := by decide +kernel
theorem dX0_addRoundsOfThree_45 : decode cX0_addRoundsOfThree 45 = .ok (.iload_n 2, 1) := by decide +kernel
theorem dX0_addRoundsOfThree_46 : decode cX0_addRoundsOfThree 46 = .ok (.iload_n 3, 1) := by decide +kernel
theorem dX0_addRoundsOfThree_47 : decode cX0_addRoundsOfThree 47 = .ok (.invokevirtual 78, 3) := by decide +kernel
theorem dX0_addRoundsOfThree_50 : decode cX0_addRoundsOfThree 50 = .ok (.iinc 3 1, 3) := by decide +kernel
theorem dX0_addRoundsOfThree_53 : decode cX0_addRoundsOfThree 53 = .ok (.goto (-21), 3) := by decide +kernel
theorem dX0_addRoundsOfThree_56 : decode cX0_addRoundsOfThree 56 = .ok (.iinc 2 1, 3) := by decide +kernel
theorem dX0_addRoundsOfThree_59 : decode cX0_addRoundsOfThree 59 = .ok (.goto (-42), 3) := by decide +kernel
theorem dX0_addRoundsOfThree_62 : decode cX0_addRoundsOfThree 62 = .ok (.iinc 1 1, 3) := by decide +kernel
theorem dX0_addRoundsOfThree_65 : decode cX0_addRoundsOfThree 65 = .ok (.goto (-63), 3) := by decide +kernel
theorem dX0_addRoundsOfThree_68 : decode cX0_addRoundsOfThree 68 = .ok (.return_, 1) := by decide +kernel
set_option maxRecDepth 20000 in
theorem ggX0_addRoundOfThree_X4_gap : GoodIn wsX0_addRoundOfThree wsX4_gap := goodIn_r _ [8, 9, 10, 35, 36] (by decide +kernel) (by decide +kernel)
set_option maxRecDepth 20000 in
theorem gX0_addRoundOfThree_X4_gap : GoodIn wsX0_addRoundOfThree (wsV RX0 74 RX4 yX4_gap wsX4_gap) := goodIn_app (goodIn_of _ (by decide +kernel)) ggX0_addRoundOfThree_X4_gap
set_option maxRecDepth 20000 in
theorem ggX0_addRoundOfThree_X7_needed : GoodIn wsX0_addRoundOfThree wsX7_needed := goodIn_r _ [14, 15, 16, 17, 18, 19, 20, 5, 6, 7, 8, 9, 10, 35, 36] (by decide +kernel) (by decide +kernel)
set_option maxRecDepth 20000 in
theorem gX0_addRoundOfThree_X7_needed : GoodIn wsX0_addRoundOfThree (va_wsS RX0 82 yX7_needed wsX7_needed) := goodIn_app (goodIn_of _ (by decide +kernel)) ggX0_addRoundOfThree_X7_needed
set_option maxRecDepth 20000 in
theorem ggX0_addRoundOfThree_X0_add : GoodIn wsX0_addRoundOfThree wsX0_add := goodIn_r _ [25, 1, 3, 2, 26, 27, 28, 29, 30, 31, 32, 33, 34, 35, 36] (by decide +kernel) (by decide +kernel)
set_option maxRecDepth 20000 in
theorem gX0_addRoundOfThree_X0_add : GoodIn wsX0_addRoundOfThree (wsV RX0 71 RX0 yX0_add wsX0_add) := goodIn_app (goodIn_of _ (by decide +kernel)) ggX0_addRoundOfThree_X0_add
theorem dX0_addRoundOfThree_0 : decode cX0_addRoundOfThree 0 = .ok (.aload_n 0, 1) := by decide +kernel
theorem dX0_addRoundOfThree_1 : decode cX0_addRoundOfThree 1 = .ok (.getfield 12, 3) := by decide +kernel
theorem dX0_addRoundOfThree_4 : decode cX0_addRoundOfThree 4 = .ok (.iload_n 1, 1) := by decide +kernel
theorem dX0_addRoundOfThree_5 : decode cX0_addRoundOfThree 5 = .ok (.iload_n 2, 1) := by decide +kernel
theorem dX0_addRoundOfThree_6 : decode cX0_addRoundOfThree 6 = .ok (.invokevirtual 74, 3) := by decide +kernel
theorem dX0_addRoundOfThree_9 : decode cX0_addRoundOfThree 9 = .ok (.istore 4, 2) := by decide +kernel
theorem dX0_addRoundOfThree_11 : decode cX0_addRoundOfThree 11 = .ok (.aload_n 0, 1) := by decide +kernel
theorem dX0_addRoundOfThree_12 : decode cX0_addRoundOfThree 12 = .ok (.getfield 12, 3) := by decide +kernel
theorem dX0_addRoundOfThree_15 : decode cX0_addRoundOfThree 15 = .ok (.iload_n 1, 1) := by decide +kernel
theorem dX0_addRoundOfThree_16 : decode cX0_addRoundOfThree 16 = .ok (.iload_n 3, 1) := by decide +kernel
theorem dX0_addRoundOfThree_17 : decode cX0_addRoundOfThree 17 = .ok (.invokevirtual 74, 3) := by decide +kernel
theorem dX0_addRoundOfThree_20 : decode cX0_addRoundOfThree 20 = .ok (.istore 5, 2) := by decide +kernel
theorem dX0_addRoundOfThree_22 : decode cX0_addRoundOfThree 22 = .ok (.aload_n 0, 1) := by decide +kernel
theorem dX0_addRoundOfThree_23 : decode cX0_addRoundOfThree 23 = .ok (.getfield 12, 3) := by decide +kernel
theorem dX0_addRoundOfThree_26 : decode cX0_addRoundOfThree 26 = .ok (.iload_n 2, 1) := by decide +kernel
theorem dX0_addRoundOfThree_27 : decode cX0_addRoundOfThree 27 = .ok (.iload_n 3, 1) := by decide +kernel
theorem dX0_addRoundOfThree_28 : decode cX0_addRoundOfThree 28 = .ok (.invokevirtual 74, 3) := by decide +kernel
theorem dX0_addRoundOfThree_31 : decode cX0_addRoundOfThree 31 = .ok (.istore 6, 2) := by decide +kernel
theorem dX0_addRoundOfThree_33 : decode cX0_addRoundOfThree 33 = .ok (.aload_n 0, 1) := by decide +kernel
theorem dX0_addRoundOfThree_34 : decode cX0_addRoundOfThree 34 = .ok (.getfield 22, 3) := by decide +kernel
theorem dX0_addRoundOfThree_37 : decode cX0_addRoundOfThree 37 = .ok (.iload_n 1, 1) := by decide +kernel
theorem dX0_addRoundOfThree_38 : decode cX0_addRoundOfThree 38 = .ok (.iload 4, 2) := by decide +kernel
theorem dX0_addRoundOfThree_40 : decode cX0_addRoundOfThree 40 = .ok (.iload 5, 2) := by decide +kernel
theorem dX0_addRoundOfThree_42 : decode cX0_addRoundOfThree 42 = .ok (.iadd, 1) := by decide +kernel
theorem dX0_addRoundOfThree_43 : decode cX0_addRoundOfThree 43 = .ok (.iload 6, 2) := by decide +kernel
theorem dX0_addRoundOfThree_45 : decode cX0_addRoundOfThree 45 = .ok (.isub, 1) := by decide +kernel
theorem dX0_addRoundOfThree_46 : decode cX0_addRoundOfThree 46 = .ok (.iastore, 1) := by decide +kernel
theorem dX0_addRoundOfThree_47 : decode cX0_addRoundOfThree 47 = .ok (.aload_n 0, 1) := by decide +kernel
theorem dX0_addRoundOfThree_48 : decode cX0_addRoundOfThree 48 = .ok (.getfield 22, 3) := by decide +kernel
theorem dX0_addRoundOfThree_51 : decode cX0_addRoundOfThree 51 = .ok (.iload_n 2, 1) := by decide +kernel
theorem dX0_addRoundOfThree_52 : decode cX0_addRoundOfThree 52 = .ok (.iload 4, 2) := by decide +kernel
theorem dX0_addRoundOfThree_54 : decode cX0_addRoundOfThree 54 = .ok (.iload 6, 2) := by decide +kernel
theorem dX0_addRoundOfThree_56 : decode cX0_addRoundOfThree 56 = .ok (.iadd, 1) := by decide +kernel
theorem dX0_addRoundOfThree_57 : decode cX0_addRoundOfThree 57 = .ok (.iload 5, 2) := by decide +kernel
theorem dX0_addRoundOfThree_59 : decode cX0_addRoundOfThree 59 = .ok (.isub, 1) := by decide +kernel
theorem dX0_addRoundOfThree_60 : decode cX0_addRoundOfThree 60 = .ok (.iastore, 1) := by decide +kernel
theorem dX0_addRoundOfThree_61 : decode cX0_addRoundOfThree 61 = .ok (.aload_n 0, 1) := by decide +kernel
theorem dX0_addRoundOfThree_62 : decode cX0_addRoundOfThree 62 = .ok (.getfield 22, 3) := by decide +kernel
theorem dX0_addRoundOfThree_65 : decode cX0_addRoundOfThree 65 = .ok (.iload_n 3, 1) := by decide +kernel
theorem dX0_addRoundOfThree_66 : decode cX0_addRoundOfThree 66 = .ok (.iload 5, 2) := by decide +kernel
theorem dX0_addRoundOfThree_68 : decode cX0_addRoundOfThree 68 = .ok (.iload 6, 2) := by decide +kernel
theorem dX0_addRoundOfThree_70 : decode cX0_addRoundOfThree 70 = .ok (.iadd, 1) := by decide +kernel
theorem dX0_addRoundOfThree_71 : decode cX0_addRoundOfThree 71 = .ok (.iload 4, 2) := by decide +kernel
theorem dX0_addRoundOfThree_73 : decode cX0_addRoundOfThree 73 = .ok (.isub, 1) := by decide +kernel
theorem dX0_addRoundOfThree_74 : decode cX0_addRoundOfThree 74 = .ok (.iastore, 1) := by decide +kernel
theorem dX0_addRoundOfThree_75 : decode cX0_addRoundOfThree 75 = .ok (.iconst 0, 1) := by decide +kernel
theorem dX0_addRoundOfThree_76 : decode cX0_addRoundOfThree 76 = .ok (.istore 7, 2) := by decide +kernel
theorem dX0_addRoundOfThree_78 : decode cX0_addRoundOfThree 78 = .ok (.iload 7, 2) := by decide +kernel
theorem dX0_addRoundOfThree_80 : decode cX0_addRoundOfThree 80 = .ok (.iconst 2, 1) := by decide +kernel
theorem dX0_addRoundOfThree_81 : decode cX0_addRoundOfThree 81 = .ok (.if_icmp .ge 112, 3) := by decide +kernel
theorem dX0_addRoundOfThree_84 : decode cX0_addRoundOfThree 84 = .ok (.iconst 1, 1) := by decide +kernel
theorem dX0_addRoundOfThree_85 : decode cX0_addRoundOfThree 85 = .ok (.iload_n 1, 1) := by decide +kernel
theorem dX0_addRoundOfThree_86 : decode cX0_addRoundOfThree 86 = .ok (.ishl, 1) := by decide +kernel
theorem dX0_addRoundOfThree_87 : decode cX0_addRoundOfThree 87 = .ok (.iconst 1, 1) := by decide +kernel
theorem dX0_addRoundOfThree_88 : decode cX0_addRoundOfThree 88 = .ok (.iload_n 2, 1) := by decide +kernel
theorem dX0_addRoundOfThree_89 : decode cX0_addRoundOfThree 89 = .ok (.ishl, 1) := by decide +kernel
theorem dX0_addRoundOfThree_90 : decode cX0_addRoundOfThree 90 = .ok (.ior, 1) := by decide +kernel
theorem dX0_addRoundOfThree_91 : decode cX0_addRoundOfThree 91 = .ok (.iconst 1, 1) := by decide +kernel
theorem dX0_addRoundOfThree_92 : decode cX0_addRoundOfThree 92 = .ok (.iload_n 3, 1) := by decide +kernel
theorem dX0_addRoundOfThree_93 : decode cX0_addRoundOfThree 93 = .ok (.ishl, 1) := by decide +kernel
theorem dX0_addRoundOfThree_94 : decode cX0_addRoundOfThree 94 = .ok (.ior, 1) := by decide +kernel
theorem dX0_addRoundOfThree_95 : decode cX0_addRoundOfThree 95 = .ok (.istore 8, 2) := by decide +kernel
theorem dX0_addRoundOfThree_97 : decode cX0_addRoundOfThree 97 = .ok (.iconst 0, 1) := by decide +kernel
theorem dX0_addRoundOfThree_98 : decode cX0_addRoundOfThree 98 = .ok (.istore 9, 2) := by decide +kernel
theorem dX0_addRoundOfThree_100 : decode cX0_addRoundOfThree 100 = .ok (.iload 9, 2) := by decide +kernel
theorem dX0_addRoundOfThree_102 : decode cX0_addRoundOfThree 102 = .ok (.aload_n 0, 1) := by decide +kernel
theorem dX0_addRoundOfThree_103 : decode cX0_addRoundOfThree 103 = .ok (.getfield 12, 3) := by decide +kernel
theorem dX0_addRoundOfThree_106 : decode cX0_addRoundOfThree 106 = .ok (.getfield 64, 3) := by decide +kernel
theorem dX0_addRoundOfThree_109 : decode cX0_addRoundOfThree 109 = .ok (.if_icmp .ge 74, 3) := by decide +kernel
theorem dX0_addRoundOfThree_112 : decode cX0_addRoundOfThree 112 = .ok (.iload 7, 2) := by decide +kernel
theorem dX0_addRoundOfThree_114 : decode cX0_addRoundOfThree 114 = .ok (.ifCond .ne 8, 3) := by decide +kernel
theorem dX0_addRoundOfThree_117 : decode cX0_addRoundOfThree 117 = .ok (.iload 9, 2) := by decide +kernel
theorem dX0_addRoundOfThree_119 : decode cX0_addRoundOfThree 119 = .ok (.goto 15, 3) := by decide +kernel
theorem dX0_addRoundOfThree_122 : decode cX0_addRoundOfThree 122 = .ok (.aload_n 0, 1) := by decide +kernel
theorem dX0_addRoundOfThree_123 : decode cX0_addRoundOfThree 123 = .ok (.getfield 12, 3) := by decide +kernel
theorem dX0_addRoundOfThree_126 : decode cX0_addRoundOfThree 126 = .ok (.getfield 64, 3) := by decide +kernel
theorem dX0_addRoundOfThree_129 : decode cX0_addRoundOfThree 129 = .ok (.iconst 1, 1) := by decide +kernel
theorem dX0_addRoundOfThree_130 : decode cX0_addRoundOfThree 130 = .ok (.isub, 1) := by decide +kernel
theorem dX0_addRoundOfThree_131 : decode cX0_addRoundOfThree 131 = .ok (.iload 9, 2) := by decide +kernel
theorem dX0_addRoundOfThree_133 : decode cX0_addRoundOfThree 133 = .ok (.isub, 1) := by decide +kernel
theorem dX0_addRoundOfThree_134 : decode cX0_addRoundOfThree 134 = .ok (.istore 10, 2) := by decide +kernel
theorem dX0_addRoundOfThree_136 : decode cX0_addRoundOfThree 136 = .ok (.iload 8, 2) := by decide +kernel
theorem dX0_addRoundOfThree_138 : decode cX0_addRoundOfThree 138 = .ok (.iload 10, 2) := by decide +kernel
theorem dX0_addRoundOfThree_140 : decode cX0_addRoundOfThree 140 = .ok (.ishr, 1) := by decide +kernel
theorem dX0_addRoundOfThree_141 : decode cX0_addRoundOfThree 141 = .ok (.iconst 1, 1) := by decide +kernel
theorem dX0_addRoundOfThree_142 : decode cX0_addRoundOfThree 142 = .ok (.iand, 1) := by decide +kernel
theorem dX0_addRoundOfThree_143 : decode cX0_addRoundOfThree 143 = .ok (.ifCond .ne 34, 3) := by decide +kernel
theorem dX0_addRoundOfThree_146 : decode cX0_addRoundOfThree 146 = .ok (.aload_n 0, 1) := by decide +kernel
theorem dX0_addRoundOfThree_147 : decode cX0_addRoundOfThree 147 = .ok (.getfield 22, 3) := by decide +kernel
theorem dX0_addRoundOfThree_150 : decode cX0_addRoundOfThree 150 = .ok (.iload 10, 2) := by decide +kernel
theorem dX0_addRoundOfThree_152 : decode cX0_addRoundOfThree 152 = .ok (.aload_n 0, 1) := by decide +kernel
theorem dX0_addRoundOfThree_153 : decode cX0_addRoundOfThree 153 = .ok (.getfield 12, 3) := by decide +kernel
theorem dX0_addRoundOfThree_156 : decode cX0_addRoundOfThree 156 = .ok (.aload_n 0, 1) := by decide +kernel
theorem dX0_addRoundOfThree_157 : decode cX0_addRoundOfThree 157 = .ok (.getfield 22, 3) := by decide +kernel
theorem dX0_addRoundOfThree_160 : decode cX0_addRoundOfThree 160 = .ok (.iload 10, 2) := by decide +kernel
theorem dX0_addRoundOfThree_162 : decode cX0_addRoundOfThree 162 = .ok (.iload 8, 2) := by decide +kernel
theorem dX0_addRoundOfThree_164 : decode cX0_addRoundOfThree 164 = .ok (.invokestatic 82, 3) := by decide +kernel
theorem dX0_addRoundOfThree_167 : decode cX0_addRoundOfThree 167 = .ok (.iastore, 1) := by decide +kernel
theorem dX0_addRoundOfThree_168 : decode cX0_addRoundOfThree 168 = .ok (.iload 8, 2) := by decide +kernel
theorem dX0_addRoundOfThree_170 : decode cX0_addRoundOfThree 170 = .ok (.iconst 1, 1) := by decide +kernel
theorem dX0_addRoundOfThree_171 : decode cX0_addRoundOfThree 171 = .ok (.iload 10, 2) := by decide +kernel
theorem dX0_addRoundOfThree_173 : decode cX0_addRoundOfThree 173 = .ok (.ishl, 1) := by decide +kernel
theorem dX0_addRoundOfThree_174 : decode cX0_addRoundOfThree 174 = .ok (.ior, 1) := by decide +kernel
theorem dX0_addRoundOfThree_175 : decode cX0_addRoundOfThree 175 = .ok (.istore 8, 2) := by decide +kernel
theorem dX0_addRoundOfThree_177 : decode cX0_addRoundOfThree 177 = .ok (.iinc 9 1, 3) := by decide +kernel
theorem dX0_addRoundOfThree_180 : decode cX0_addRoundOfThree 180 = .ok (.goto (-80), 3) := by decide +kernel
theorem dX0_addRoundOfThree_183 : decode cX0_addRoundOfThree 183 = .ok (.aload_n 0, 1) := by decide +kernel
theorem dX0_addRoundOfThree_184 : decode cX0_addRoundOfThree 184 = .ok (.invokevirtual 71, 3) := by decide +kernel
theorem dX0_addRoundOfThree_187 : decode cX0_addRoundOfThree 187 = .ok (.iinc 7 1, 3) := by decide +kernel
theorem dX0_addRoundOfThree_190 : decode cX0_addRoundOfThree 190 = .ok (.goto (-112), 3) := by decide +kernel
theorem dX0_addRoundOfThree_193 : decode cX0_addRoundOfThree 193 = .ok (.return_, 1) := by decide +kernel
set_option maxRecDepth 20000 in
theorem ggX0_addRoundsOfFive_X0_addRoundOfFive : GoodIn wsX0_addRoundsOfFive wsX0_addRoundOfFive := goodIn_r _ [7, 1, 8, 9, 10, 11, 12, 13, 14, 15, 16, 17, 18, 6, 19, 2, 20, 21, 22, 23, 24, 25, 26, 27, 28, 29, 30, 31, 32, 33, 34, 35, 36, 37, 38, 39, 40] (by decide +kernel) (by decide +kernel)
set_option maxRecDepth 20000 in
theorem gX0_addRoundsOfFive_X0_addRoundOfFive : GoodIn wsX0_addRoundsOfFive (wsV RX0 88 RX0 yX0_addRoundOfFive wsX0_addRoundOfFive) := goodIn_app (goodIn_of _ (by decide +kernel)) ggX0_addRoundsOfFive_X0_addRoundOfFive
theorem dX0_addRoundsOfFive_0 : decode cX0_addRoundsOfFive 0 = .ok (.aload_n 0, 1) := by decide +kernel
theorem dX0_addRoundsOfFive_1 : decode cX0_addRoundsOfFive 1 = .ok (.getfield 12, 3) := by decide +kernel
theorem dX0_addRoundsOfFive_4 : decode cX0_addRoundsOfFive 4 = .ok (.getfield 64, 3) := by decide +kernel
theorem dX0_addRoundsOfFive_7 : decode cX0_addRoundsOfFive 7 = .ok (.iconst 5, 1) := by decide +kernel
theorem dX0_addRoundsOfFive_8 : decode cX0_addRoundsOfFive 8 = .ok (.if_icmp .ge 4, 3) := by decide +kernel
theorem dX0_addRoundsOfFive_11 : decode cX0_addRoundsOfFive 11 = .ok (.return_, 1) := by decide +kernel
theorem dX0_addRoundsOfFive_12 : decode cX0_addRoundsOfFive 12 = .ok (.iconst 1, 1) := by decide +kernel
theorem dX0_addRoundsOfFive_13 : decode cX0_addRoundsOfFive 13 = .ok (.istore_n 1, 1) := by decide +kernel
theorem dX0_addRoundsOfFive_14 : decode cX0_addRoundsOfFive 14 = .ok (.iload_n 1, 1) := by decide +kernel
theorem dX0_addRoundsOfFive_15 : decode cX0_addRoundsOfFive 15 = .ok (.iconst 5, 1) := by decide +kernel
theorem dX0_addRoundsOfFive_16 : decode cX0_addRoundsOfFive 16 = .ok (.if_icmp .ge 75, 3) := by decide +kernel
theorem dX0_addRoundsOfFive_19 : decode cX0_addRoundsOfFive 19 = .ok (.iconst 1, 1) := by decide +kernel
theorem dX0_addRoundsOfFive_20 : decode cX0_addRoundsOfFive 20 = .ok (.istore_n 2, 1) := by decide +kernel
theorem dX0_addRoundsOfFive_21 : decode cX0_addRoundsOfFive 21 = .ok (.iload_n 2, 1) := by decide +kernel
theorem dX0_addRoundsOfFive_22 : decode cX0_addRoundsOfFive 22 = .ok (.iconst 5, 1) := by decide +kernel
theorem dX0_addRoundsOfFive_23 : decode cX0_addRoundsOfFive 23 = .ok (.if_icmp .ge 62, 3) := by decide +kernel
theorem dX0_addRoundsOfFive_26 : decode cX0_addRoundsOfFive 26 = .ok (.iconst 1, 1) := by decide +kernel
theorem dX0_addRoundsOfFive_27 : decode cX0_addRoundsOfFive 27 = .ok (.istore_n 3, 1) := by decide +kernel
theorem dX0_addRoundsOfFive_28 : decode cX0_addRoundsOfFive 28 = .ok (.iload_n 3, 1) := by decide +kernel
theorem dX0_addRoundsOfFive_29 : decode cX0_addRoundsOfFive 29 = .ok (.iconst 5, 1) := by decide +kernel
theorem dX0_addRoundsOfFive_30 : decode cX0_addRoundsOfFive 30 = .ok (.if_icmp .ge 49, 3) := by decide +kernel
theorem dX0_addRoundsOfFive_33 : decode cX0_addRoundsOfFive 33 = .ok (.bipush 10, 2) := by decide +kernel
theorem dX0_addRoundsOfFive_35 : decode cX0_addRoundsOfFive 35 = .ok (.iload_n 1, 1) := by decide +kernel
theorem dX0_addRoundsOfFive_36 : decode cX0_addRoundsOfFive 36 = .ok (.isub, 1) := by decide +kernel
theorem dX0_addRoundsOfFive_37 : decode cX0_addRoundsOfFive 37 = .ok (.iload_n 2, 1) := by decide +kernel
theorem dX0_addRoundsOfFive_38 : decode cX0_addRoundsOfFive 38 = .ok (.isub, 1) := by decide +kernel
theorem dX0_addRoundsOfFive_39 : decode cX0_addRoundsOfFive 39 = .ok (.iload_n 3, 1) := by decide +kernel
theorem dX0_addRoundsOfFive_40 : decode cX0_addRoundsOfFive 40 = .ok (.isub, 1) := by decide +kernel
theorem dX0_addRoundsOfFive_41 : decode cX0_addRoundsOfFive 41 = .ok (.istore 4, 2) := by decide +kernel
theorem dX0_addRoundsOfFive_43 : decode cX0_addRoundsOfFive 43 = .ok (.iload_n 1, 1) := by decide +kernel
theorem dX0_addRoundsOfFive_44 : decode cX0_addRoundsOfFive 44 = .ok (.iload_n 2, 1) := by decide +kernel
theorem dX0_addRoundsOfFive_45 : decode cX0_addRoundsOfFive 45 = .ok (.if_icmp .eq 28, 3) := by decide +kernel
theorem dX0_addRoundsOfFive_48 : decode cX0_addRoundsOfFive 48 = .ok (.iload_n 1, 1) := by decide +kernel
theorem dX0_addRoundsOfFive_49 : decode cX0_addRoundsOfFive 49 = .ok (.iload_n 3, 1) := by decide +kernel
theorem dX0_addRoundsOfFive_50 : decode cX0_addRoundsOfFive 50 = .ok (.if_icmp .eq 23, 3) := by decide +kernel
theorem dX0_addRoundsOfFive_53 : decode cX0_addRoundsOfFive 53 = .ok (.iload_n 2, 1) := by decide +kernel
theorem dX0_addRoundsOfFive_54 : decode cX0_addRoundsOfFive 54 = .ok (.iload_n 3, 1) := by decide +kernel
theorem dX0_addRoundsOfFive_55 : decode cX0_addRoundsOfFive 55 = .ok (.if_icmp .eq 18, 3) := by decide +kernel
theorem dX0_addRoundsOfFive_58 : decode cX0_addRoundsOfFive 58 = .ok (.iload_n 1, 1) := by decide +kernel
theorem dX0_addRoundsOfFive_59 : decode cX0_addRoundsOfFive 59 = .ok (.iload 4, 2) := by decide +kernel
theorem dX0_addRoundsOfFive_61 : decode cX0_addRoundsOfFive 61 = .ok (.if_icmp .ge 12, 3) := by decide +kernel
theorem dX0_addRoundsOfFive_64 : decode cX0_addRoundsOfFive 64 = .ok (.aload_n 0, 1) := by decide +kernel
theorem dX0_addRoundsOfFive_65 : decode cX0_addRoundsOfFive 65 = .ok (.iload_n 1, 1) := by decide +kernel
theorem dX0_addRoundsOfFive_66 : decode cX0_addRoundsOfFive 66 = .ok (.iload_n 2, 1) := by decide +kernel
theorem dX0_addRoundsOfFive_67 : decode cX0_addRoundsOfFive 67 = .ok (.iload_n 3, 1) := by decide +kernel
theorem dX0_addRoundsOfFive_68 : decode cX0_addRoundsOfFive 68 = .ok (.iload 4, 2) := by decide +kernel
theorem dX0_addRoundsOfFive_70 : decode cX0_addRoundsOfFive 70 = .ok (.invokevirtual 88, 3) := by decide +kernel
theorem dX0_addRoundsOfFive_73 : decode cX0_addRoundsOfFive 73 = .ok (.iinc 3 1, 3) := by decide +kernel
theorem dX0_addRoundsOfFive_76 : decode cX0_addRoundsOfFive 76 = .ok (.goto (-48), 3) := by decide +kernel
theorem dX0_addRoundsOfFive_79 : decode cX0_addRoundsOfFive 79 = .ok (.iinc 2 1, 3) := by decide +kernel
theorem dX0_addRoundsOfFive_82 : decode cX0_addRoundsOfFive 82 = .ok (.goto (-61), 3) := by decide +kernel
theorem dX0_addRoundsOfFive_85 : decode cX0_addRoundsOfFive 85 = .ok (.iinc 1 1, 3) := by decide +kernel
theorem dX0_addRoundsOfFive_88 : decode cX0_addRoundsOfFive 88 = .ok (.goto (-74), 3) := by decide +kernel
theorem dX0_addRoundsOfFive_91 : decode cX0_addRoundsOfFive 91 = .ok (.return_, 1) := by decide +kernel
set_option maxRecDepth 20000 in
theorem ggX0_addRoundOfFive_X4_gap : GoodIn wsX0_addRoundOfFive wsX4_gap := goodIn_r _ [7, 8, 9, 35, 36] (by decide +kernel) (by decide +kernel)
set_option maxRecDepth 20000 in
theorem gX0_addRoundOfFive_X4_gap : GoodIn wsX0_addRoundOfFive (wsV RX0 74 RX4 yX4_gap wsX4_gap) := goodIn_app (goodIn_of _ (by decide +kernel)) ggX0_addRoundOfFive_X4_gap
set_option maxRecDepth 20000 in
theorem ggX0_addRoundOfFive_X0_areNumbers : GoodIn wsX0_addRoundOfFive wsX0_areNumbers := goodIn_r _ [14, 1, 15, 2, 28, 29, 30, 31, 32, 33, 34, 35, 36] (by decide +kernel) (by decide +kernel)
set_option maxRecDepth 20000 in
theorem gX0_addRoundOfFive_X0_areNumbers : GoodIn wsX0_addRoundOfFive (wsV RX0 92 RX0 yX0_areNumbers wsX0_areNumbers) := goodIn_app (goodIn_of _ (by decide +kernel)) ggX0_addRoundOfFive_X0_areNumbers
set_option maxRecDepth 20000 in
theorem ggX0_addRoundOfFive_X7_keepApart : GoodIn wsX0_addRoundOfFive wsX7_keepApart := goodIn_r _ [19, 20, 21, 4, 5, 6, 7, 8, 9, 35, 36] (by decide +kernel) (by decide +kernel)
set_option maxRecDepth 20000 in
theorem gX0_addRoundOfFive_X7_keepApart : GoodIn wsX0_addRoundOfFive (va_wsS RX0 95 yX7_keepApart wsX7_keepApart) := goodIn_app (goodIn_of _ (by decide +kernel)) ggX0_addRoundOfFive_X7_keepApart
set_option maxRecDepth 20000 in
theorem ggX0_addRoundOfFive_X0_add : GoodIn wsX0_addRoundOfFive wsX0_add := goodIn_r _ [25, 1, 15, 2, 26, 27, 28, 29, 30, 31, 32, 33, 34, 35, 36] (by decide +kernel) (by decide +kernel)
set_option maxRecDepth 20000 in
theorem gX0_addRoundOfFive_X0_add : GoodIn wsX0_addRoundOfFive (wsV RX0 71 RX0 yX0_add wsX0_add) := goodIn_app (goodIn_of _ (by decide +kernel)) ggX0_addRoundOfFive_X0_add
theorem dX0_addRoundOfFive_0 : decode cX0_addRoundOfFive 0 = .ok (.aload_n 0, 1) := by decide +kernel
theorem dX0_addRoundOfFive_1 : decode cX0_addRoundOfFive 1 = .ok (.getfield 12, 3) := by decide +kernel
theorem dX0_addRoundOfFive_4 : decode cX0_addRoundOfFive 4 = .ok (.iconst 0, 1) := by decide +kernel
theorem dX0_addRoundOfFive_5 : decode cX0_addRoundOfFive 5 = .ok (.iload_n 1, 1) := by decide +kernel
theorem dX0_addRoundOfFive_6 : decode cX0_addRoundOfFive 6 = .ok (.invokevirtual 74, 3) := by decide +kernel
theorem dX0_addRoundOfFive_9 : decode cX0_addRoundOfFive 9 = .ok (.istore 5, 2) := by decide +kernel
theorem dX0_addRoundOfFive_11 : decode cX0_addRoundOfFive 11 = .ok (.aload_n 0, 1) := by decide +kernel
theorem dX0_addRoundOfFive_12 : decode cX0_addRoundOfFive 12 = .ok (.getfield 12, 3) := by decide +kernel
theorem dX0_addRoundOfFive_15 : decode cX0_addRoundOfFive 15 = .ok (.iload_n 1, 1) := by decide +kernel
theorem dX0_addRoundOfFive_16 : decode cX0_addRoundOfFive 16 = .ok (.iload_n 2, 1) := by decide +kernel
theorem dX0_addRoundOfFive_17 : decode cX0_addRoundOfFive 17 = .ok (.invokevirtual 74, 3) := by decide +kernel
theorem dX0_addRoundOfFive_20 : decode cX0_addRoundOfFive 20 = .ok (.istore 6, 2) := by decide +kernel
theorem dX0_addRoundOfFive_22 : decode cX0_addRoundOfFive 22 = .ok (.aload_n 0, 1) := by decide +kernel
theorem dX0_addRoundOfFive_23 : decode cX0_addRoundOfFive 23 = .ok (.getfield 12, 3) := by decide +kernel
theorem dX0_addRoundOfFive_26 : decode cX0_addRoundOfFive 26 = .ok (.iload_n 2, 1) := by decide +kernel
theorem dX0_addRoundOfFive_27 : decode cX0_addRoundOfFive 27 = .ok (.iload_n 3, 1) := by decide +kernel
theorem dX0_addRoundOfFive_28 : decode cX0_addRoundOfFive 28 = .ok (.invokevirtual 74, 3) := by decide +kernel
theorem dX0_addRoundOfFive_31 : decode cX0_addRoundOfFive 31 = .ok (.istore 7, 2) := by decide +kernel
theorem dX0_addRoundOfFive_33 : decode cX0_addRoundOfFive 33 = .ok (.aload_n 0, 1) := by decide +kernel
theorem dX0_addRoundOfFive_34 : decode cX0_addRoundOfFive 34 = .ok (.getfield 12, 3) := by decide +kernel
theorem dX0_addRoundOfFive_37 : decode cX0_addRoundOfFive 37 = .ok (.iload_n 3, 1) := by decide +kernel
theorem dX0_addRoundOfFive_38 : decode cX0_addRoundOfFive 38 = .ok (.iload 4, 2) := by decide +kernel
theorem dX0_addRoundOfFive_40 : decode cX0_addRoundOfFive 40 = .ok (.invokevirtual 74, 3) := by decide +kernel
theorem dX0_addRoundOfFive_43 : decode cX0_addRoundOfFive 43 = .ok (.istore 8, 2) := by decide +kernel
theorem dX0_addRoundOfFive_45 : decode cX0_addRoundOfFive 45 = .ok (.aload_n 0, 1) := by decide +kernel
theorem dX0_addRoundOfFive_46 : decode cX0_addRoundOfFive 46 = .ok (.getfield 12, 3) := by decide +kernel
theorem dX0_addRoundOfFive_49 : decode cX0_addRoundOfFive 49 = .ok (.iload 4, 2) := by decide +kernel
theorem dX0_addRoundOfFive_51 : decode cX0_addRoundOfFive 51 = .ok (.iconst 0, 1) := by decide +kernel
theorem dX0_addRoundOfFive_52 : decode cX0_addRoundOfFive 52 = .ok (.invokevirtual 74, 3) := by decide +kernel
theorem dX0_addRoundOfFive_55 : decode cX0_addRoundOfFive 55 = .ok (.istore 9, 2) := by decide +kernel
theorem dX0_addRoundOfFive_57 : decode cX0_addRoundOfFive 57 = .ok (.aload_n 0, 1) := by decide +kernel
theorem dX0_addRoundOfFive_58 : decode cX0_addRoundOfFive 58 = .ok (.getfield 22, 3) := by decide +kernel
theorem dX0_addRoundOfFive_61 : decode cX0_addRoundOfFive 61 = .ok (.iconst 0, 1) := by decide +kernel
theorem dX0_addRoundOfFive_62 : decode cX0_addRoundOfFive 62 = .ok (.iload 5, 2) := by decide +kernel
theorem dX0_addRoundOfFive_64 : decode cX0_addRoundOfFive 64 = .ok (.iload 6, 2) := by decide +kernel
theorem dX0_addRoundOfFive_66 : decode cX0_addRoundOfFive 66 = .ok (.isub, 1) := by decide +kernel
theorem dX0_addRoundOfFive_67 : decode cX0_addRoundOfFive 67 = .ok (.iload 7, 2) := by decide +kernel
theorem dX0_addRoundOfFive_69 : decode cX0_addRoundOfFive 69 = .ok (.iadd, 1) := by decide +kernel
theorem dX0_addRoundOfFive_70 : decode cX0_addRoundOfFive 70 = .ok (.iload 8, 2) := by decide +kernel
theorem dX0_addRoundOfFive_72 : decode cX0_addRoundOfFive 72 = .ok (.isub, 1) := by decide +kernel
theorem dX0_addRoundOfFive_73 : decode cX0_addRoundOfFive 73 = .ok (.iload 9, 2) := by decide +kernel
theorem dX0_addRoundOfFive_75 : decode cX0_addRoundOfFive 75 = .ok (.iadd, 1) := by decide +kernel
theorem dX0_addRoundOfFive_76 : decode cX0_addRoundOfFive 76 = .ok (.iastore, 1) := by decide +kernel
theorem dX0_addRoundOfFive_77 : decode cX0_addRoundOfFive 77 = .ok (.aload_n 0, 1) := by decide +kernel
theorem dX0_addRoundOfFive_78 : decode cX0_addRoundOfFive 78 = .ok (.getfield 22, 3) := by decide +kernel
theorem dX0_addRoundOfFive_81 : decode cX0_addRoundOfFive 81 = .ok (.iload_n 1, 1) := by decide +kernel
theorem dX0_addRoundOfFive_82 : decode cX0_addRoundOfFive 82 = .ok (.iconst 2, 1) := by decide +kernel
theorem dX0_addRoundOfFive_83 : decode cX0_addRoundOfFive 83 = .ok (.iload 5, 2) := by decide +kernel
theorem dX0_addRoundOfFive_85 : decode cX0_addRoundOfFive 85 = .ok (.imul, 1) := by decide +kernel
theorem dX0_addRoundOfFive_86 : decode cX0_addRoundOfFive 86 = .ok (.aload_n 0, 1) := by decide +kernel
theorem dX0_addRoundOfFive_87 : decode cX0_addRoundOfFive 87 = .ok (.getfield 22, 3) := by decide +kernel
theorem dX0_addRoundOfFive_90 : decode cX0_addRoundOfFive 90 = .ok (.iconst 0, 1) := by decide +kernel
theorem dX0_addRoundOfFive_91 : decode cX0_addRoundOfFive 91 = .ok (.iaload, 1) := by decide +kernel
theorem dX0_addRoundOfFive_92 : decode cX0_addRoundOfFive 92 = .ok (.isub, 1) := by decide +kernel
theorem dX0_addRoundOfFive_93 : decode cX0_addRoundOfFive 93 = .ok (.iastore, 1) := by decide +kernel
theorem dX0_addRoundOfFive_94 : decode cX0_addRoundOfFive 94 = .ok (.aload_n 0, 1) := by decide +kernel
theorem dX0_addRoundOfFive_95 : decode cX0_addRoundOfFive 95 = .ok (.getfield 22, 3) := by decide +kernel
theorem dX0_addRoundOfFive_98 : decode cX0_addRoundOfFive 98 = .ok (.iload_n 2, 1) := by decide +kernel
theorem dX0_addRoundOfFive_99 : decode cX0_addRoundOfFive 99 = .ok (.iconst 2, 1) := by decide +kernel
theorem dX0_addRoundOfFive_100 : decode cX0_addRoundOfFive 100 = .ok (.iload 6, 2) := by decide +kernel
theorem dX0_addRoundOfFive_102 : decode cX0_addRoundOfFive 102 = .ok (.imul, 1) := by decide +kernel
theorem dX0_addRoundOfFive_103 : decode cX0_addRoundOfFive 103 = .ok (.aload_n 0, 1) := by decide +kernel
theorem dX0_addRoundOfFive_104 : decode cX0_addRoundOfFive 104 = .ok (.getfield 22, 3) := by decide +kernel
theorem dX0_addRoundOfFive_107 : decode cX0_addRoundOfFive 107 = .ok (.iload_n 1, 1) := by decide +kernel
theorem dX0_addRoundOfFive_108 : decode cX0_addRoundOfFive 108 = .ok (.iaload, 1) := by decide +kernel
theorem dX0_addRoundOfFive_109 : decode cX0_addRoundOfFive 109 = .ok (.isub, 1) := by decide +kernel
theorem dX0_addRoundOfFive_110 : decode cX0_addRoundOfFive 110 = .ok (.iastore, 1) := by decide +kernel
theorem dX0_addRoundOfFive_111 : decode cX0_addRoundOfFive 111 = .ok (.aload_n 0, 1) := by decide +kernel
theorem dX0_addRoundOfFive_112 : decode cX0_addRoundOfFive 112 = .ok (.getfield 22, 3) := by decide +kernel
theorem dX0_addRoundOfFive_115 : decode cX0_addRoundOfFive 115 = .ok (.iload_n 3, 1) := by decide +kernel
theorem dX0_addRoundOfFive_116 : decode cX0_addRoundOfFive 116 = .ok (.iconst 2, 1) := by decide +kernel
theorem dX0_addRoundOfFive_117 : decode cX0_addRoundOfFive 117 = .ok (.iload 7, 2) := by decide +kernel
theorem dX0_addRoundOfFive_119 : decode cX0_addRoundOfFive 119 = .ok (.imul, 1) := by decide +kernel
theorem dX0_addRoundOfFive_120 : decode cX0_addRoundOfFive 120 = .ok (.aload_n 0, 1) := by decide +kernel
theorem dX0_addRoundOfFive_121 : decode cX0_addRoundOfFive 121 = .ok (.getfield 22, 3) := by decide +kernel
theorem dX0_addRoundOfFive_124 : decode cX0_addRoundOfFive 124 = .ok (.iload_n 2, 1) := by decide +kernel
theorem dX0_addRoundOfFive_125 : decode cX0_addRoundOfFive 125 = .ok (.iaload, 1) := by decide +kernel
theorem dX0_addRoundOfFive_126 : decode cX0_addRoundOfFive 126 = .ok (.isub, 1) := by decide +kernel
theorem dX0_addRoundOfFive_127 : decode cX0_addRoundOfFive 127 = .ok (.iastore, 1) := by decide +kernel
theorem dX0_addRoundOfFive_128 : decode cX0_addRoundOfFive 128 = .ok (.aload_n 0, 1) := by decide +kernel
theorem dX0_addRoundOfFive_129 : decode cX0_addRoundOfFive 129 = .ok (.getfield 22, 3) := by decide +kernel
theorem dX0_addRoundOfFive_132 : decode cX0_addRoundOfFive 132 = .ok (.iload 4, 2) := by decide +kernel
theorem dX0_addRoundOfFive_134 : decode cX0_addRoundOfFive 134 = .ok (.iconst 2, 1) := by decide +kernel
theorem dX0_addRoundOfFive_135 : decode cX0_addRoundOfFive 135 = .ok (.iload 8, 2) := by decide +kernel
theorem dX0_addRoundOfFive_137 : decode cX0_addRoundOfFive 137 = .ok (.imul, 1) := by decide +kernel
theorem dX0_addRoundOfFive_138 : decode cX0_addRoundOfFive 138 = .ok (.aload_n 0, 1) := by decide +kernel
theorem dX0_addRoundOfFive_139 : decode cX0_addRoundOfFive 139 = .ok (.getfield 22, 3) := by decide +kernel
theorem dX0_addRoundOfFive_142 : decode cX0_addRoundOfFive 142 = .ok (.iload_n 3, 1) := by decide +kernel
theorem dX0_addRoundOfFive_143 : decode cX0_addRoundOfFive 143 = .ok (.iaload, 1) := by decide +kernel
theorem dX0_addRoundOfFive_144 : decode cX0_addRoundOfFive 144 = .ok (.isub, 1) := by decide +kernel
theorem dX0_addRoundOfFive_145 : decode cX0_addRoundOfFive 145 = .ok (.iastore, 1) := by decide +kernel
theorem dX0_addRoundOfFive_146 : decode cX0_addRoundOfFive 146 = .ok (.aload_n 0, 1) := by decide +kernel
theorem dX0_addRoundOfFive_147 : decode cX0_addRoundOfFive 147 = .ok (.invokevirtual 92, 3) := by decide +kernel
theorem dX0_addRoundOfFive_150 : decode cX0_addRoundOfFive 150 = .ok (.ifCond .eq 21, 3) := by decide +kernel
theorem dX0_addRoundOfFive_153 : decode cX0_addRoundOfFive 153 = .ok (.aload_n 0, 1) := by decide +kernel
theorem dX0_addRoundOfFive_154 : decode cX0_addRoundOfFive 154 = .ok (.getfield 12, 3) := by decide +kernel
theorem dX0_addRoundOfFive_157 : decode cX0_addRoundOfFive 157 = .ok (.aload_n 0, 1) := by decide +kernel
theorem dX0_addRoundOfFive_158 : decode cX0_addRoundOfFive 158 = .ok (.getfield 22, 3) := by decide +kernel
theorem dX0_addRoundOfFive_161 : decode cX0_addRoundOfFive 161 = .ok (.invokestatic 95, 3) := by decide +kernel
theorem dX0_addRoundOfFive_164 : decode cX0_addRoundOfFive 164 = .ok (.ifCond .eq 7, 3) := by decide +kernel
theorem dX0_addRoundOfFive_167 : decode cX0_addRoundOfFive 167 = .ok (.aload_n 0, 1) := by decide +kernel
theorem dX0_addRoundOfFive_168 : decode cX0_addRoundOfFive 168 = .ok (.invokevirtual 71, 3) := by decide +kernel
theorem dX0_addRoundOfFive_171 : decode cX0_addRoundOfFive 171 = .ok (.return_, 1) := by decide +kernel
theorem dX0_areNumbers_0 : decode cX0_areNumbers 0 = .ok (.iconst 0, 1) := by decide +kernel
theorem dX0_areNumbers_1 : decode cX0_areNumbers 1 = .ok (.istore_n 1, 1) := by decide +kernel
theorem dX0_areNumbers_2 : decode cX0_areNumbers 2 = .ok (.iload_n 1, 1) := by decide +kernel
theorem dX0_areNumbers_3 : decode cX0_areNumbers 3 = .ok (.aload_n 0, 1) := by decide +kernel
theorem dX0_areNumbers_4 : decode cX0_areNumbers 4 = .ok (.getfield 12, 3) := by decide +kernel
theorem dX0_areNumbers_7 : decode cX0_areNumbers 7 = .ok (.getfield 64, 3) := by decide +kernel
theorem dX0_areNumbers_10 : decode cX0_areNumbers 10 = .ok (.if_icmp .ge 31, 3) := by decide +kernel
theorem dX0_areNumbers_13 : decode cX0_areNumbers 13 = .ok (.aload_n 0, 1) := by decide +kernel
theorem dX0_areNumbers_14 : decode cX0_areNumbers 14 = .ok (.getfield 22, 3) := by decide +kernel
theorem dX0_areNumbers_17 : decode cX0_areNumbers 17 = .ok (.iload_n 1, 1) := by decide +kernel
theorem dX0_areNumbers_18 : decode cX0_areNumbers 18 = .ok (.iaload, 1) := by decide +kernel
theorem dX0_areNumbers_19 : decode cX0_areNumbers 19 = .ok (.ifCond .lt 14, 3) := by decide +kernel
theorem dX0_areNumbers_22 : decode cX0_areNumbers 22 = .ok (.aload_n 0, 1) := by decide +kernel
theorem dX0_areNumbers_23 : decode cX0_areNumbers 23 = .ok (.getfield 22, 3) := by decide +kernel
theorem dX0_areNumbers_26 : decode cX0_areNumbers 26 = .ok (.iload_n 1, 1) := by decide +kernel
theorem dX0_areNumbers_27 : decode cX0_areNumbers 27 = .ok (.iaload, 1) := by decide +kernel
theorem dX0_areNumbers_28 : decode cX0_areNumbers 28 = .ok (.bipush 80, 2) := by decide +kernel
theorem dX0_areNumbers_30 : decode cX0_areNumbers 30 = .ok (.if_icmp .le 5, 3) := by decide +kernel
theorem dX0_areNumbers_33 : decode cX0_areNumbers 33 = .ok (.iconst 0, 1) := by decide +kernel
theorem dX0_areNumbers_34 : decode cX0_areNumbers 34 = .ok (.ireturn, 1) := by decide +kernel
theorem dX0_areNumbers_35 : decode cX0_areNumbers 35 = .ok (.iinc 1 1, 3) := by decide +kernel
theorem dX0_areNumbers_38 : decode cX0_areNumbers 38 = .ok (.goto (-36), 3) := by decide +kernel
theorem dX0_areNumbers_41 : decode cX0_areNumbers 41 = .ok (.iconst 1, 1) := by decide +kernel
theorem dX0_areNumbers_42 : decode cX0_areNumbers 42 = .ok (.ireturn, 1) := by decide +kernel
theorem dX0_add_0 : decode cX0_add 0 = .ok (.lconst 0, 1) := by decide +kernel
theorem dX0_add_1 : decode cX0_add 1 = .ok (.lstore_n 1, 1) := by decide +kernel
theorem dX0_add_2 : decode cX0_add 2 = .ok (.iconst 0, 1) := by decide +kernel
theorem dX0_add_3 : decode cX0_add 3 = .ok (.istore_n 3, 1) := by decide +kernel
theorem dX0_add_4 : decode cX0_add 4 = .ok (.iload_n 3, 1) := by decide +kernel
theorem dX0_add_5 : decode cX0_add 5 = .ok (.iconst 5, 1) := by decide +kernel
theorem dX0_add_6 : decode cX0_add 6 = .ok (.if_icmp .ge 37, 3) := by decide +kernel
theorem dX0_add_9 : decode cX0_add 9 = .ok (.lload_n 1, 1) := by decide +kernel
theorem dX0_add_10 : decode cX0_add 10 = .ok (.bipush 7, 2) := by decide +kernel
theorem dX0_add_12 : decode cX0_add 12 = .ok (.lshl, 1) := by decide +kernel
theorem dX0_add_13 : decode cX0_add 13 = .ok (.iload_n 3, 1) := by decide +kernel
theorem dX0_add_14 : decode cX0_add 14 = .ok (.aload_n 0, 1) := by decide +kernel
theorem dX0_add_15 : decode cX0_add 15 = .ok (.getfield 12, 3) := by decide +kernel
theorem dX0_add_18 : decode cX0_add 18 = .ok (.getfield 64, 3) := by decide +kernel
theorem dX0_add_21 : decode cX0_add 21 = .ok (.if_icmp .ge 12, 3) := by decide +kernel
theorem dX0_add_24 : decode cX0_add 24 = .ok (.aload_n 0, 1) := by decide +kernel
theorem dX0_add_25 : decode cX0_add 25 = .ok (.getfield 22, 3) := by decide +kernel
theorem dX0_add_28 : decode cX0_add 28 = .ok (.iload_n 3, 1) := by decide +kernel
theorem dX0_add_29 : decode cX0_add 29 = .ok (.iaload, 1) := by decide +kernel
theorem dX0_add_30 : decode cX0_add 30 = .ok (.goto 4, 3) := by decide +kernel
theorem dX0_add_33 : decode cX0_add 33 = .ok (.iconst 0, 1) := by decide +kernel
theorem dX0_add_34 : decode cX0_add 34 = .ok (.i2l, 1) := by decide +kernel
theorem dX0_add_35 : decode cX0_add 35 = .ok (.lor, 1) := by decide +kernel
theorem dX0_add_36 : decode cX0_add 36 = .ok (.lstore_n 1, 1) := by decide +kernel
theorem dX0_add_37 : decode cX0_add 37 = .ok (.iinc 3 1, 3) := by decide +kernel
theorem dX0_add_40 : decode cX0_add 40 = .ok (.goto (-36), 3) := by decide +kernel
theorem dX0_add_43 : decode cX0_add 43 = .ok (.iconst 0, 1) := by decide +kernel
theorem dX0_add_44 : decode cX0_add 44 = .ok (.istore_n 3, 1) := by decide +kernel
theorem dX0_add_45 : decode cX0_add 45 = .ok (.iload_n 3, 1) := by decide +kernel
theorem dX0_add_46 : decode cX0_add 46 = .ok (.aload_n 0, 1) := by decide +kernel
theorem dX0_add_47 : decode cX0_add 47 = .ok (.getfield 36, 3) := by decide +kernel
theorem dX0_add_50 : decode cX0_add 50 = .ok (.if_icmp .ge 20, 3) := by decide +kernel
theorem dX0_add_53 : decode cX0_add 53 = .ok (.aload_n 0, 1) := by decide +kernel
theorem dX0_add_54 : decode cX0_add 54 = .ok (.getfield 26, 3) := by decide +kernel
theorem dX0_add_57 : decode cX0_add 57 = .ok (.iload_n 3, 1) := by decide +kernel
theorem dX0_add_58 : decode cX0_add 58 = .ok (.laload, 1) := by decide +kernel
theorem dX0_add_59 : decode cX0_add 59 = .ok (.lload_n 1, 1) := by decide +kernel
theorem dX0_add_60 : decode cX0_add 60 = .ok (.lcmp, 1) := by decide +kernel
theorem dX0_add_61 : decode cX0_add 61 = .ok (.ifCond .ge 9, 3) := by decide +kernel
theorem dX0_add_64 : decode cX0_add 64 = .ok (.iinc 3 1, 3) := by decide +kernel
theorem dX0_add_67 : decode cX0_add 67 = .ok (.goto (-22), 3) := by decide +kernel
theorem dX0_add_70 : decode cX0_add 70 = .ok (.aload_n 0, 1) := by decide +kernel
theorem dX0_add_71 : decode cX0_add 71 = .ok (.getfield 36, 3) := by decide +kernel
theorem dX0_add_74 : decode cX0_add 74 = .ok (.bipush 37, 2) := by decide +kernel
theorem dX0_add_76 : decode cX0_add 76 = .ok (.if_icmp .ge 22, 3) := by decide +kernel
theorem dX0_add_79 : decode cX0_add 79 = .ok (.iload_n 3, 1) := by decide +kernel
theorem dX0_add_80 : decode cX0_add 80 = .ok (.aload_n 0, 1) := by decide +kernel
theorem dX0_add_81 : decode cX0_add 81 = .ok (.getfield 36, 3) := by decide +kernel
theorem dX0_add_84 : decode cX0_add 84 = .ok (.if_icmp .ge 15, 3) := by decide +kernel
theorem dX0_add_87 : decode cX0_add 87 = .ok (.aload_n 0, 1) := by decide +kernel
theorem dX0_add_88 : decode cX0_add 88 = .ok (.getfield 26, 3) := by decide +kernel
theorem dX0_add_91 : decode cX0_add 91 = .ok (.iload_n 3, 1) := by decide +kernel
theorem dX0_add_92 : decode cX0_add 92 = .ok (.laload, 1) := by decide +kernel
theorem dX0_add_93 : decode cX0_add 93 = .ok (.lload_n 1, 1) := by decide +kernel
theorem dX0_add_94 : decode cX0_add 94 = .ok (.lcmp, 1) := by decide +kernel
theorem dX0_add_95 : decode cX0_add 95 = .ok (.ifCond .ne 4, 3) := by decide +kernel
theorem dX0_add_98 : decode cX0_add 98 = .ok (.return_, 1) := by decide +kernel
theorem dX0_add_99 : decode cX0_add 99 = .ok (.aload_n 0, 1) := by decide +kernel
theorem dX0_add_100 : decode cX0_add 100 = .ok (.getfield 36, 3) := by decide +kernel
theorem dX0_add_103 : decode cX0_add 103 = .ok (.istore 4, 2) := by decide +kernel
theorem dX0_add_105 : decode cX0_add 105 = .ok (.iload 4, 2) := by decide +kernel
theorem dX0_add_107 : decode cX0_add 107 = .ok (.iload_n 3, 1) := by decide +kernel
theorem dX0_add_108 : decode cX0_add 108 = .ok (.if_icmp .le 25, 3) := by decide +kernel
theorem dX0_add_111 : decode cX0_add 111 = .ok (.aload_n 0, 1) := by decide +kernel
theorem dX0_add_112 : decode cX0_add 112 = .ok (.getfield 26, 3) := by decide +kernel
theorem dX0_add_115 : decode cX0_add 115 = .ok (.iload 4, 2) := by decide +kernel
theorem dX0_add_117 : decode cX0_add 117 = .ok (.aload_n 0, 1) := by decide +kernel
theorem dX0_add_118 : decode cX0_add 118 = .ok (.getfield 26, 3) := by decide +kernel
theorem dX0_add_121 : decode cX0_add 121 = .ok (.iload 4, 2) := by decide +kernel
theorem dX0_add_123 : decode cX0_add 123 = .ok (.iconst 1, 1) := by decide +kernel
theorem dX0_add_124 : decode cX0_add 124 = .ok (.isub, 1) := by decide +kernel
theorem dX0_add_125 : decode cX0_add 125 = .ok (.laload, 1) := by decide +kernel
theorem dX0_add_126 : decode cX0_add 126 = .ok (.lastore, 1) := by decide +kernel
theorem dX0_add_127 : decode cX0_add 127 = .ok (.iinc 4 (-1), 3) := by decide +kernel
theorem dX0_add_130 : decode cX0_add 130 = .ok (.goto (-25), 3) := by decide +kernel
theorem dX0_add_133 : decode cX0_add 133 = .ok (.aload_n 0, 1) := by decide +kernel
theorem dX0_add_134 : decode cX0_add 134 = .ok (.getfield 26, 3) := by decide +kernel
theorem dX0_add_137 : decode cX0_add 137 = .ok (.iload_n 3, 1) := by decide +kernel
theorem dX0_add_138 : decode cX0_add 138 = .ok (.lload_n 1, 1) := by decide +kernel
theorem dX0_add_139 : decode cX0_add 139 = .ok (.lastore, 1) := by decide +kernel
theorem dX0_add_140 : decode cX0_add 140 = .ok (.aload_n 0, 1) := by decide +kernel
theorem dX0_add_141 : decode cX0_add 141 = .ok (.dup, 1) := by decide +kernel
theorem dX0_add_142 : decode cX0_add 142 = .ok (.getfield 36, 3) := by decide +kernel
theorem dX0_add_145 : decode cX0_add 145 = .ok (.iconst 1, 1) := by decide +kernel
theorem dX0_add_146 : decode cX0_add 146 = .ok (.iadd, 1) := by decide +kernel
theorem dX0_add_147 : decode cX0_add 147 = .ok (.putfield 36, 3) := by decide +kernel
theorem dX0_add_150 : decode cX0_add 150 = .ok (.return_, 1) := by decide +kernel
set_option maxRecDepth 20000 in
theorem ggX0_noteTwos_X0_number : GoodIn wsX0_noteTwos wsX0_number := goodIn_r _ [10, 2, 11, 12, 13, 14, 15, 9, 16, 1, 17, 18, 19, 20, 21, 22, 33, 34, 35, 36, 37, 38, 39, 40, 41] (by decide +kernel) (by decide +kernel)
set_option maxRecDepth 20000 in
theorem gX0_noteTwos_X0_number : GoodIn wsX0_noteTwos (wsV RX0 99 RX0 yX0_number wsX0_number) := goodIn_app (goodIn_of _ (by decide +kernel)) ggX0_noteTwos_X0_number
set_option maxRecDepth 20000 in
theorem ggX0_noteTwos_X7_tightTwos : GoodIn wsX0_noteTwos wsX7_tightTwos := goodIn_r _ [26, 27, 28, 29, 30, 20, 31, 22, 32, 40, 41] (by decide +kernel) (by decide +kernel)
set_option maxRecDepth 20000 in
theorem gX0_noteTwos_X7_tightTwos : GoodIn wsX0_noteTwos (va_wsS RX0 102 yX7_tightTwos wsX7_tightTwos) := goodIn_app (goodIn_of _ (by decide +kernel)) ggX0_noteTwos_X7_tightTwos
theorem dX0_noteTwos_0 : decode cX0_noteTwos 0 = .ok (.iconst 0, 1) := by decide +kernel
theorem dX0_noteTwos_1 : decode cX0_noteTwos 1 = .ok (.istore_n 1, 1) := by decide +kernel
theorem dX0_noteTwos_2 : decode cX0_noteTwos 2 = .ok (.iload_n 1, 1) := by decide +kernel
theorem dX0_noteTwos_3 : decode cX0_noteTwos 3 = .ok (.aload_n 0, 1) := by decide +kernel
theorem dX0_noteTwos_4 : decode cX0_noteTwos 4 = .ok (.getfield 36, 3) := by decide +kernel
theorem dX0_noteTwos_7 : decode cX0_noteTwos 7 = .ok (.if_icmp .ge 57, 3) := by decide +kernel
theorem dX0_noteTwos_10 : decode cX0_noteTwos 10 = .ok (.iconst 0, 1) := by decide +kernel
theorem dX0_noteTwos_11 : decode cX0_noteTwos 11 = .ok (.istore_n 2, 1) := by decide +kernel
theorem dX0_noteTwos_12 : decode cX0_noteTwos 12 = .ok (.iload_n 2, 1) := by decide +kernel
theorem dX0_noteTwos_13 : decode cX0_noteTwos 13 = .ok (.aload_n 0, 1) := by decide +kernel
theorem dX0_noteTwos_14 : decode cX0_noteTwos 14 = .ok (.getfield 12, 3) := by decide +kernel
theorem dX0_noteTwos_17 : decode cX0_noteTwos 17 = .ok (.getfield 64, 3) := by decide +kernel
theorem dX0_noteTwos_20 : decode cX0_noteTwos 20 = .ok (.if_icmp .ge 21, 3) := by decide +kernel
theorem dX0_noteTwos_23 : decode cX0_noteTwos 23 = .ok (.aload_n 0, 1) := by decide +kernel
theorem dX0_noteTwos_24 : decode cX0_noteTwos 24 = .ok (.getfield 22, 3) := by decide +kernel
theorem dX0_noteTwos_27 : decode cX0_noteTwos 27 = .ok (.iload_n 2, 1) := by decide +kernel
theorem dX0_noteTwos_28 : decode cX0_noteTwos 28 = .ok (.aload_n 0, 1) := by decide +kernel
theorem dX0_noteTwos_29 : decode cX0_noteTwos 29 = .ok (.iload_n 1, 1) := by decide +kernel
theorem dX0_noteTwos_30 : decode cX0_noteTwos 30 = .ok (.iload_n 2, 1) := by decide +kernel
theorem dX0_noteTwos_31 : decode cX0_noteTwos 31 = .ok (.invokevirtual 99, 3) := by decide +kernel
theorem dX0_noteTwos_34 : decode cX0_noteTwos 34 = .ok (.iastore, 1) := by decide +kernel
theorem dX0_noteTwos_35 : decode cX0_noteTwos 35 = .ok (.iinc 2 1, 3) := by decide +kernel
theorem dX0_noteTwos_38 : decode cX0_noteTwos 38 = .ok (.goto (-26), 3) := by decide +kernel
theorem dX0_noteTwos_41 : decode cX0_noteTwos 41 = .ok (.aload_n 0, 1) := by decide +kernel
theorem dX0_noteTwos_42 : decode cX0_noteTwos 42 = .ok (.getfield 30, 3) := by decide +kernel
theorem dX0_noteTwos_45 : decode cX0_noteTwos 45 = .ok (.iload_n 1, 1) := by decide +kernel
theorem dX0_noteTwos_46 : decode cX0_noteTwos 46 = .ok (.aload_n 0, 1) := by decide +kernel
theorem dX0_noteTwos_47 : decode cX0_noteTwos 47 = .ok (.getfield 12, 3) := by decide +kernel
theorem dX0_noteTwos_50 : decode cX0_noteTwos 50 = .ok (.aload_n 0, 1) := by decide +kernel
theorem dX0_noteTwos_51 : decode cX0_noteTwos 51 = .ok (.getfield 22, 3) := by decide +kernel
theorem dX0_noteTwos_54 : decode cX0_noteTwos 54 = .ok (.invokestatic 102, 3) := by decide +kernel
theorem dX0_noteTwos_57 : decode cX0_noteTwos 57 = .ok (.iastore, 1) := by decide +kernel
theorem dX0_noteTwos_58 : decode cX0_noteTwos 58 = .ok (.iinc 1 1, 3) := by decide +kernel
theorem dX0_noteTwos_61 : decode cX0_noteTwos 61 = .ok (.goto (-59), 3) := by decide +kernel
theorem dX0_noteTwos_64 : decode cX0_noteTwos 64 = .ok (.return_, 1) := by decide +kernel
set_option maxRecDepth 20000 in
theorem ggX0_number_X0_has : GoodIn wsX0_number wsX0_has := goodIn_r _ [8, 9, 16, 17, 18, 19, 20, 21, 22] (by decide +kernel) (by decide +kernel)
set_option maxRecDepth 20000 in
theorem gX0_number_X0_has : GoodIn wsX0_number (wsV RX0 106 RX0 yX0_has wsX0_has) := goodIn_app (goodIn_of _ (by decide +kernel)) ggX0_number_X0_has
set_option maxRecDepth 20000 in
theorem ggX0_number_X4_has : GoodIn wsX0_number wsX4_has := goodIn_r _ [14, 15, 23, 24] (by decide +kernel) (by decide +kernel)
set_option maxRecDepth 20000 in
theorem gX0_number_X4_has : GoodIn wsX0_number (wsV RX0 110 RX4 yX4_has wsX4_has) := goodIn_app (goodIn_of _ (by decide +kernel)) ggX0_number_X4_has
theorem dX0_number_0 : decode cX0_number 0 = .ok (.aload_n 0, 1) := by decide +kernel
theorem dX0_number_1 : decode cX0_number 1 = .ok (.iload_n 1, 1) := by decide +kernel
theorem dX0_number_2 : decode cX0_number 2 = .ok (.invokevirtual 106, 3) := by decide +kernel
theorem dX0_number_5 : decode cX0_number 5 = .ok (.ifCond .eq 14, 3) := by decide +kernel
theorem dX0_number_8 : decode cX0_number 8 = .ok (.aload_n 0, 1) := by decide +kernel
theorem dX0_number_9 : decode cX0_number 9 = .ok (.getfield 12, 3) := by decide +kernel
theorem dX0_number_12 : decode cX0_number 12 = .ok (.iload_n 2, 1) := by decide +kernel
theorem dX0_number_13 : decode cX0_number 13 = .ok (.invokevirtual 110, 3) := by decide +kernel
theorem dX0_number_16 : decode cX0_number 16 = .ok (.ifCond .ne 5, 3) := by decide +kernel
theorem dX0_number_19 : decode cX0_number 19 = .ok (.iconst 0, 1) := by decide +kernel
theorem dX0_number_20 : decode cX0_number 20 = .ok (.ireturn, 1) := by decide +kernel
theorem dX0_number_21 : decode cX0_number 21 = .ok (.aload_n 0, 1) := by decide +kernel
theorem dX0_number_22 : decode cX0_number 22 = .ok (.getfield 26, 3) := by decide +kernel
theorem dX0_number_25 : decode cX0_number 25 = .ok (.iload_n 1, 1) := by decide +kernel
theorem dX0_number_26 : decode cX0_number 26 = .ok (.laload, 1) := by decide +kernel
theorem dX0_number_27 : decode cX0_number 27 = .ok (.bipush 7, 2) := by decide +kernel
theorem dX0_number_29 : decode cX0_number 29 = .ok (.iconst 4, 1) := by decide +kernel
theorem dX0_number_30 : decode cX0_number 30 = .ok (.iload_n 2, 1) := by decide +kernel
theorem dX0_number_31 : decode cX0_number 31 = .ok (.isub, 1) := by decide +kernel
theorem dX0_number_32 : decode cX0_number 32 = .ok (.imul, 1) := by decide +kernel
theorem dX0_number_33 : decode cX0_number 33 = .ok (.lshr, 1) := by decide +kernel
theorem dX0_number_34 : decode cX0_number 34 = .ok (.lstore_n 3, 1) := by decide +kernel
theorem dX0_number_35 : decode cX0_number 35 = .ok (.lload_n 3, 1) := by decide +kernel
theorem dX0_number_36 : decode cX0_number 36 = .ok (.ldc2_w 111, 3) := by decide +kernel
theorem dX0_number_39 : decode cX0_number 39 = .ok (.land, 1) := by decide +kernel
theorem dX0_number_40 : decode cX0_number 40 = .ok (.l2i, 1) := by decide +kernel
theorem dX0_number_41 : decode cX0_number 41 = .ok (.ireturn, 1) := by decide +kernel
set_option maxRecDepth 20000 in
theorem ggX0_twosAt_X0_has : GoodIn wsX0_twosAt wsX0_has := goodIn_r _ [6, 7, 8, 9, 10, 11, 12, 13, 14] (by decide +kernel) (by decide +kernel)
set_option maxRecDepth 20000 in
theorem gX0_twosAt_X0_has : GoodIn wsX0_twosAt (wsV RX0 106 RX0 yX0_has wsX0_has) := goodIn_app (goodIn_of _ (by decide +kernel)) ggX0_twosAt_X0_has
theorem dX0_twosAt_0 : decode cX0_twosAt 0 = .ok (.aload_n 0, 1) := by decide +kernel
theorem dX0_twosAt_1 : decode cX0_twosAt 1 = .ok (.iload_n 1, 1) := by decide +kernel
theorem dX0_twosAt_2 : decode cX0_twosAt 2 = .ok (.invokevirtual 106, 3) := by decide +kernel
theorem dX0_twosAt_5 : decode cX0_twosAt 5 = .ok (.ifCond .eq 12, 3) := by decide +kernel
theorem dX0_twosAt_8 : decode cX0_twosAt 8 = .ok (.aload_n 0, 1) := by decide +kernel
theorem dX0_twosAt_9 : decode cX0_twosAt 9 = .ok (.getfield 30, 3) := by decide +kernel
theorem dX0_twosAt_12 : decode cX0_twosAt 12 = .ok (.iload_n 1, 1) := by decide +kernel
theorem dX0_twosAt_13 : decode cX0_twosAt 13 = .ok (.iaload, 1) := by decide +kernel
theorem dX0_twosAt_14 : decode cX0_twosAt 14 = .ok (.goto 4, 3) := by decide +kernel
theorem dX0_twosAt_17 : decode cX0_twosAt 17 = .ok (.iconst 0, 1) := by decide +kernel
theorem dX0_twosAt_18 : decode cX0_twosAt 18 = .ok (.ireturn, 1) := by decide +kernel
set_option maxRecDepth 20000 in
theorem ggX0_apart_X0_number : GoodIn wsX0_apart wsX0_number := goodIn_r _ [14, 1, 15, 16, 17, 18, 19, 13, 20, 21, 22, 23, 24, 25, 26, 27, 28, 29, 30, 31, 32, 33, 34, 35, 36] (by decide +kernel) (by decide +kernel)
set_option maxRecDepth 20000 in
theorem gX0_apart_X0_number : GoodIn wsX0_apart (wsV RX0 99 RX0 yX0_number wsX0_number) := goodIn_app (goodIn_of _ (by decide +kernel)) ggX0_apart_X0_number
theorem dX0_apart_0 : decode cX0_apart 0 = .ok (.iconst 0, 1) := by decide +kernel
theorem dX0_apart_1 : decode cX0_apart 1 = .ok (.istore_n 3, 1) := by decide +kernel
theorem dX0_apart_2 : decode cX0_apart 2 = .ok (.iconst 0, 1) := by decide +kernel
theorem dX0_apart_3 : decode cX0_apart 3 = .ok (.istore 4, 2) := by decide +kernel
theorem dX0_apart_5 : decode cX0_apart 5 = .ok (.iload 4, 2) := by decide +kernel
theorem dX0_apart_7 : decode cX0_apart 7 = .ok (.aload_n 0, 1) := by decide +kernel
theorem dX0_apart_8 : decode cX0_apart 8 = .ok (.getfield 12, 3) := by decide +kernel
theorem dX0_apart_11 : decode cX0_apart 11 = .ok (.getfield 64, 3) := by decide +kernel
theorem dX0_apart_14 : decode cX0_apart 14 = .ok (.if_icmp .ge 32, 3) := by decide +kernel
theorem dX0_apart_17 : decode cX0_apart 17 = .ok (.iload_n 3, 1) := by decide +kernel
theorem dX0_apart_18 : decode cX0_apart 18 = .ok (.aload_n 0, 1) := by decide +kernel
theorem dX0_apart_19 : decode cX0_apart 19 = .ok (.iload_n 1, 1) := by decide +kernel
theorem dX0_apart_20 : decode cX0_apart 20 = .ok (.iload 4, 2) := by decide +kernel
theorem dX0_apart_22 : decode cX0_apart 22 = .ok (.invokevirtual 99, 3) := by decide +kernel
theorem dX0_apart_25 : decode cX0_apart 25 = .ok (.aload_n 0, 1) := by decide +kernel
theorem dX0_apart_26 : decode cX0_apart 26 = .ok (.iload_n 2, 1) := by decide +kernel
theorem dX0_apart_27 : decode cX0_apart 27 = .ok (.iload 4, 2) := by decide +kernel
theorem dX0_apart_29 : decode cX0_apart 29 = .ok (.invokevirtual 99, 3) := by decide +kernel
theorem dX0_apart_32 : decode cX0_apart 32 = .ok (.isub, 1) := by decide +kernel
theorem dX0_apart_33 : decode cX0_apart 33 = .ok (.invokestatic 113, 3) := by decide +kernel
theorem dX0_apart_36 : decode cX0_apart 36 = .ok (.invokestatic 119, 3) := by decide +kernel
theorem dX0_apart_39 : decode cX0_apart 39 = .ok (.istore_n 3, 1) := by decide +kernel
theorem dX0_apart_40 : decode cX0_apart 40 = .ok (.iinc 4 1, 3) := by decide +kernel
theorem dX0_apart_43 : decode cX0_apart 43 = .ok (.goto (-38), 3) := by decide +kernel
theorem dX0_apart_46 : decode cX0_apart 46 = .ok (.iload_n 3, 1) := by decide +kernel
theorem dX0_apart_47 : decode cX0_apart 47 = .ok (.ireturn, 1) := by decide +kernel
set_option maxRecDepth 20000 in
theorem ggX0_areBeside_X0_twosAt : GoodIn wsX0_areBeside wsX0_twosAt := goodIn_r _ [9, 4, 10, 11, 12, 8, 13, 3, 21, 22, 23, 24, 25, 26, 27] (by decide +kernel) (by decide +kernel)
set_option maxRecDepth 20000 in
theorem gX0_areBeside_X0_twosAt : GoodIn wsX0_areBeside (wsV RX0 122 RX0 yX0_twosAt wsX0_twosAt) := goodIn_app (goodIn_of _ (by decide +kernel)) ggX0_areBeside_X0_twosAt
set_option maxRecDepth 20000 in
theorem ggX0_areBeside_X7_coverAll : GoodIn wsX0_areBeside wsX7_coverAll := goodIn_r _ [17, 18, 19, 16, 20] (by decide +kernel) (by decide +kernel)
set_option maxRecDepth 20000 in
theorem gX0_areBeside_X7_coverAll : GoodIn wsX0_areBeside (va_wsS RX0 125 yX7_coverAll wsX7_coverAll) := goodIn_app (goodIn_of _ (by decide +kernel)) ggX0_areBeside_X7_coverAll
theorem dX0_areBeside_0 : decode cX0_areBeside 0 = .ok (.aload_n 0, 1) := by decide +kernel
theorem dX0_areBeside_1 : decode cX0_areBeside 1 = .ok (.iload_n 1, 1) := by decide +kernel
theorem dX0_areBeside_2 : decode cX0_areBeside 2 = .ok (.invokevirtual 122, 3) := by decide +kernel
theorem dX0_areBeside_5 : decode cX0_areBeside 5 = .ok (.aload_n 0, 1) := by decide +kernel
theorem dX0_areBeside_6 : decode cX0_areBeside 6 = .ok (.iload_n 2, 1) := by decide +kernel
theorem dX0_areBeside_7 : decode cX0_areBeside 7 = .ok (.invokevirtual 122, 3) := by decide +kernel
theorem dX0_areBeside_10 : decode cX0_areBeside 10 = .ok (.iand, 1) := by decide +kernel
theorem dX0_areBeside_11 : decode cX0_areBeside 11 = .ok (.istore_n 3, 1) := by decide +kernel
theorem dX0_areBeside_12 : decode cX0_areBeside 12 = .ok (.iload_n 1, 1) := by decide +kernel
theorem dX0_areBeside_13 : decode cX0_areBeside 13 = .ok (.iload_n 2, 1) := by decide +kernel
theorem dX0_areBeside_14 : decode cX0_areBeside 14 = .ok (.if_icmp .eq 17, 3) := by decide +kernel
theorem dX0_areBeside_17 : decode cX0_areBeside 17 = .ok (.aload_n 0, 1) := by decide +kernel
theorem dX0_areBeside_18 : decode cX0_areBeside 18 = .ok (.getfield 12, 3) := by decide +kernel
theorem dX0_areBeside_21 : decode cX0_areBeside 21 = .ok (.getfield 64, 3) := by decide +kernel
theorem dX0_areBeside_24 : decode cX0_areBeside 24 = .ok (.iload_n 3, 1) := by decide +kernel
theorem dX0_areBeside_25 : decode cX0_areBeside 25 = .ok (.invokestatic 125, 3) := by decide +kernel
theorem dX0_areBeside_28 : decode cX0_areBeside 28 = .ok (.ifCond .ne 5, 3) := by decide +kernel
theorem dX0_areBeside_31 : decode cX0_areBeside 31 = .ok (.iconst 0, 1) := by decide +kernel
theorem dX0_areBeside_32 : decode cX0_areBeside 32 = .ok (.ireturn, 1) := by decide +kernel
theorem dX0_areBeside_33 : decode cX0_areBeside 33 = .ok (.iconst 0, 1) := by decide +kernel
theorem dX0_areBeside_34 : decode cX0_areBeside 34 = .ok (.istore 4, 2) := by decide +kernel
theorem dX0_areBeside_36 : decode cX0_areBeside 36 = .ok (.iload 4, 2) := by decide +kernel
theorem dX0_areBeside_38 : decode cX0_areBeside 38 = .ok (.aload_n 0, 1) := by decide +kernel
theorem dX0_areBeside_39 : decode cX0_areBeside 39 = .ok (.getfield 36, 3) := by decide +kernel
theorem dX0_areBeside_42 : decode cX0_areBeside 42 = .ok (.if_icmp .ge 36, 3) := by decide +kernel
theorem dX0_areBeside_45 : decode cX0_areBeside 45 = .ok (.iload 4, 2) := by decide +kernel
theorem dX0_areBeside_47 : decode cX0_areBeside 47 = .ok (.iload_n 1, 1) := by decide +kernel
theorem dX0_areBeside_48 : decode cX0_areBeside 48 = .ok (.if_icmp .eq 24, 3) := by decide +kernel
theorem dX0_areBeside_51 : decode cX0_areBeside 51 = .ok (.iload 4, 2) := by decide +kernel
theorem dX0_areBeside_53 : decode cX0_areBeside 53 = .ok (.iload_n 2, 1) := by decide +kernel
theorem dX0_areBeside_54 : decode cX0_areBeside 54 = .ok (.if_icmp .eq 18, 3) := by decide +kernel
theorem dX0_areBeside_57 : decode cX0_areBeside 57 = .ok (.aload_n 0, 1) := by decide +kernel
theorem dX0_areBeside_58 : decode cX0_areBeside 58 = .ok (.getfield 30, 3) := by decide +kernel
theorem dX0_areBeside_61 : decode cX0_areBeside 61 = .ok (.iload 4, 2) := by decide +kernel
theorem dX0_areBeside_63 : decode cX0_areBeside 63 = .ok (.iaload, 1) := by decide +kernel
theorem dX0_areBeside_64 : decode cX0_areBeside 64 = .ok (.iload_n 3, 1) := by decide +kernel
theorem dX0_areBeside_65 : decode cX0_areBeside 65 = .ok (.iand, 1) := by decide +kernel
theorem dX0_areBeside_66 : decode cX0_areBeside 66 = .ok (.iload_n 3, 1) := by decide +kernel
theorem dX0_areBeside_67 : decode cX0_areBeside 67 = .ok (.if_icmp .ne 5, 3) := by decide +kernel
theorem dX0_areBeside_70 : decode cX0_areBeside 70 = .ok (.iconst 0, 1) := by decide +kernel
theorem dX0_areBeside_71 : decode cX0_areBeside 71 = .ok (.ireturn, 1) := by decide +kernel
theorem dX0_areBeside_72 : decode cX0_areBeside 72 = .ok (.iinc 4 1, 3) := by decide +kernel
theorem dX0_areBeside_75 : decode cX0_areBeside 75 = .ok (.goto (-39), 3) := by decide +kernel
theorem dX0_areBeside_78 : decode cX0_areBeside 78 = .ok (.iconst 1, 1) := by decide +kernel
theorem dX0_areBeside_79 : decode cX0_areBeside 79 = .ok (.ireturn, 1) := by decide +kernel
set_option maxRecDepth 20000 in
theorem ggX0_neighbours_X0_areBeside : GoodIn wsX0_neighbours wsX0_areBeside := goodIn_r _ [6, 7, 8, 1, 9, 10, 11, 12, 5, 13, 14, 15, 16, 17, 18, 19, 20, 21, 22, 23, 24, 25, 26, 27, 28, 29, 30, 31, 32, 33] (by decide +kernel) (by decide +kernel)
set_option maxRecDepth 20000 in
theorem gX0_neighbours_X0_areBeside : GoodIn wsX0_neighbours (wsV RX0 129 RX0 yX0_areBeside wsX0_areBeside) := goodIn_app (goodIn_of _ (by decide +kernel)) ggX0_neighbours_X0_areBeside
theorem dX0_neighbours_0 : decode cX0_neighbours 0 = .ok (.iconst 0, 1) := by decide +kernel
theorem dX0_neighbours_1 : decode cX0_neighbours 1 = .ok (.istore_n 2, 1) := by decide +kernel
theorem dX0_neighbours_2 : decode cX0_neighbours 2 = .ok (.iconst 0, 1) := by decide +kernel
theorem dX0_neighbours_3 : decode cX0_neighbours 3 = .ok (.istore_n 3, 1) := by decide +kernel
theorem dX0_neighbours_4 : decode cX0_neighbours 4 = .ok (.iload_n 3, 1) := by decide +kernel
theorem dX0_neighbours_5 : decode cX0_neighbours 5 = .ok (.aload_n 0, 1) := by decide +kernel
theorem dX0_neighbours_6 : decode cX0_neighbours 6 = .ok (.getfield 36, 3) := by decide +kernel
theorem dX0_neighbours_9 : decode cX0_neighbours 9 = .ok (.if_icmp .ge 26, 3) := by decide +kernel
theorem dX0_neighbours_12 : decode cX0_neighbours 12 = .ok (.iload_n 2, 1) := by decide +kernel
theorem dX0_neighbours_13 : decode cX0_neighbours 13 = .ok (.aload_n 0, 1) := by decide +kernel
theorem dX0_neighbours_14 : decode cX0_neighbours 14 = .ok (.iload_n 1, 1) := by decide +kernel
theorem dX0_neighbours_15 : decode cX0_neighbours 15 = .ok (.iload_n 3, 1) := by decide +kernel
theorem dX0_neighbours_16 : decode cX0_neighbours 16 = .ok (.invokevirtual 129, 3) := by decide +kernel
theorem dX0_neighbours_19 : decode cX0_neighbours 19 = .ok (.ifCond .eq 7, 3) := by decide +kernel
theorem dX0_neighbours_22 : decode cX0_neighbours 22 = .ok (.iconst 1, 1) := by decide +kernel
theorem dX0_neighbours_23 : decode cX0_neighbours 23 = .ok (.goto 4, 3) := by decide +kernel
theorem dX0_neighbours_26 : decode cX0_neighbours 26 = .ok (.iconst 0, 1) := by decide +kernel
theorem dX0_neighbours_27 : decode cX0_neighbours 27 = .ok (.iadd, 1) := by decide +kernel
theorem dX0_neighbours_28 : decode cX0_neighbours 28 = .ok (.istore_n 2, 1) := by decide +kernel
theorem dX0_neighbours_29 : decode cX0_neighbours 29 = .ok (.iinc 3 1, 3) := by decide +kernel
theorem dX0_neighbours_32 : decode cX0_neighbours 32 = .ok (.goto (-28), 3) := by decide +kernel
theorem dX0_neighbours_35 : decode cX0_neighbours 35 = .ok (.iload_n 2, 1) := by decide +kernel
theorem dX0_neighbours_36 : decode cX0_neighbours 36 = .ok (.ireturn, 1) := by decide +kernel
set_option maxRecDepth 20000 in
theorem ggX0_ownerOf_X0_number : GoodIn wsX0_ownerOf wsX0_number := goodIn_r _ [7, 1, 8, 9, 10, 11, 12, 6, 13, 14, 15, 16, 17, 18, 19, 20, 21, 22, 23, 24, 25, 26, 27, 28, 29] (by decide +kernel) (by decide +kernel)
set_option maxRecDepth 20000 in
theorem gX0_ownerOf_X0_number : GoodIn wsX0_ownerOf (wsV RX0 99 RX0 yX0_number wsX0_number) := goodIn_app (goodIn_of _ (by decide +kernel)) ggX0_ownerOf_X0_number
theorem dX0_ownerOf_0 : decode cX0_ownerOf 0 = .ok (.iconst 0, 1) := by decide +kernel
theorem dX0_ownerOf_1 : decode cX0_ownerOf 1 = .ok (.istore_n 2, 1) := by decide +kernel
theorem dX0_ownerOf_2 : decode cX0_ownerOf 2 = .ok (.iload_n 2, 1) := by decide +kernel
theorem dX0_ownerOf_3 : decode cX0_ownerOf 3 = .ok (.aload_n 0, 1) := by decide +kernel
theorem dX0_ownerOf_4 : decode cX0_ownerOf 4 = .ok (.getfield 12, 3) := by decide +kernel
theorem dX0_ownerOf_7 : decode cX0_ownerOf 7 = .ok (.getfield 64, 3) := by decide +kernel
theorem dX0_ownerOf_10 : decode cX0_ownerOf 10 = .ok (.if_icmp .ge 20, 3) := by decide +kernel
theorem dX0_ownerOf_13 : decode cX0_ownerOf 13 = .ok (.aload_n 0, 1) := by decide +kernel
theorem dX0_ownerOf_14 : decode cX0_ownerOf 14 = .ok (.iload_n 1, 1) := by decide +kernel
theorem dX0_ownerOf_15 : decode cX0_ownerOf 15 = .ok (.iload_n 2, 1) := by decide +kernel
theorem dX0_ownerOf_16 : decode cX0_ownerOf 16 = .ok (.invokevirtual 99, 3) := by decide +kernel
theorem dX0_ownerOf_19 : decode cX0_ownerOf 19 = .ok (.ifCond .ne 5, 3) := by decide +kernel
theorem dX0_ownerOf_22 : decode cX0_ownerOf 22 = .ok (.iload_n 2, 1) := by decide +kernel
theorem dX0_ownerOf_23 : decode cX0_ownerOf 23 = .ok (.ireturn, 1) := by decide +kernel
theorem dX0_ownerOf_24 : decode cX0_ownerOf 24 = .ok (.iinc 2 1, 3) := by decide +kernel
theorem dX0_ownerOf_27 : decode cX0_ownerOf 27 = .ok (.goto (-25), 3) := by decide +kernel
theorem dX0_ownerOf_30 : decode cX0_ownerOf 30 = .ok (.bipush (-5), 2) := by decide +kernel
theorem dX0_ownerOf_32 : decode cX0_ownerOf 32 = .ok (.ireturn, 1) := by decide +kernel
set_option maxRecDepth 20000 in
theorem ggX0_eyeOf_X0_number : GoodIn wsX0_eyeOf wsX0_number := goodIn_r _ [6, 7, 8, 9, 10, 11, 12, 5, 13, 1, 14, 15, 16, 17, 18, 19, 20, 21, 22, 23, 24, 25, 26, 27, 28] (by decide +kernel) (by decide +kernel)
set_option maxRecDepth 20000 in
theorem gX0_eyeOf_X0_number : GoodIn wsX0_eyeOf (wsV RX0 99 RX0 yX0_number wsX0_number) := goodIn_app (goodIn_of _ (by decide +kernel)) ggX0_eyeOf_X0_number
theorem dX0_eyeOf_0 : decode cX0_eyeOf 0 = .ok (.iconst 0, 1) := by decide +kernel
theorem dX0_eyeOf_1 : decode cX0_eyeOf 1 = .ok (.istore_n 2, 1) := by decide +kernel
theorem dX0_eyeOf_2 : decode cX0_eyeOf 2 = .ok (.iload_n 2, 1) := by decide +kernel
theorem dX0_eyeOf_3 : decode cX0_eyeOf 3 = .ok (.aload_n 0, 1) := by decide +kernel
theorem dX0_eyeOf_4 : decode cX0_eyeOf 4 = .ok (.getfield 36, 3) := by decide +kernel
theorem dX0_eyeOf_7 : decode cX0_eyeOf 7 = .ok (.if_icmp .ge 20, 3) := by decide +kernel
theorem dX0_eyeOf_10 : decode cX0_eyeOf 10 = .ok (.aload_n 0, 1) := by decide +kernel
theorem dX0_eyeOf_11 : decode cX0_eyeOf 11 = .ok (.iload_n 2, 1) := by decide +kernel
theorem dX0_eyeOf_12 : decode cX0_eyeOf 12 = .ok (.iload_n 1, 1) := by decide +kernel
theorem dX0_eyeOf_13 : decode cX0_eyeOf 13 = .ok (.invokevirtual 99, 3) := by decide +kernel
theorem dX0_eyeOf_16 : decode cX0_eyeOf 16 = .ok (.ifCond .ne 5, 3) := by decide +kernel
theorem dX0_eyeOf_19 : decode cX0_eyeOf 19 = .ok (.iload_n 2, 1) := by decide +kernel
theorem dX0_eyeOf_20 : decode cX0_eyeOf 20 = .ok (.ireturn, 1) := by decide +kernel
theorem dX0_eyeOf_21 : decode cX0_eyeOf 21 = .ok (.iinc 2 1, 3) := by decide +kernel
theorem dX0_eyeOf_24 : decode cX0_eyeOf 24 = .ok (.goto (-22), 3) := by decide +kernel
theorem dX0_eyeOf_27 : decode cX0_eyeOf 27 = .ok (.iconst (-1), 1) := by decide +kernel
theorem dX0_eyeOf_28 : decode cX0_eyeOf 28 = .ok (.ireturn, 1) := by decide +kernel
theorem dX1_init_0 : decode cX1_init 0 = .ok (.aload_n 0, 1) := by decide +kernel
theorem dX1_init_1 : decode cX1_init 1 = .ok (.invokespecial 1, 3) := by decide +kernel
theorem dX1_init_4 : decode cX1_init 4 = .ok (.aload_n 0, 1) := by decide +kernel
theorem dX1_init_5 : decode cX1_init 5 = .ok (.iload_n 1, 1) := by decide +kernel
theorem dX1_init_6 : decode cX1_init 6 = .ok (.iconst 0, 1) := by decide +kernel
theorem dX1_init_7 : decode cX1_init 7 = .ok (.invokestatic 7, 3) := by decide +kernel
theorem dX1_init_10 : decode cX1_init 10 = .ok (.putfield 13, 3) := by decide +kernel
theorem dX1_init_13 : decode cX1_init 13 = .ok (.aload_n 0, 1) := by decide +kernel
theorem dX1_init_14 : decode cX1_init 14 = .ok (.iconst 3, 1) := by decide +kernel
theorem dX1_init_15 : decode cX1_init 15 = .ok (.aload_n 0, 1) := by decide +kernel
theorem dX1_init_16 : decode cX1_init 16 = .ok (.getfield 13, 3) := by decide +kernel
theorem dX1_init_19 : decode cX1_init 19 = .ok (.imul, 1) := by decide +kernel
theorem dX1_init_20 : decode cX1_init 20 = .ok (.newarray .int, 2) := by decide +kernel
theorem dX1_init_22 : decode cX1_init 22 = .ok (.putfield 19, 3) := by decide +kernel
theorem dX1_init_25 : decode cX1_init 25 = .ok (.aload_n 0, 1) := by decide +kernel
theorem dX1_init_26 : decode cX1_init 26 = .ok (.iconst 0, 1) := by decide +kernel
theorem dX1_init_27 : decode cX1_init 27 = .ok (.putfield 23, 3) := by decide +kernel
theorem dX1_init_30 : decode cX1_init 30 = .ok (.return_, 1) := by decide +kernel
theorem dX1_empty_0 : decode cX1_empty 0 = .ok (.aload_n 0, 1) := by decide +kernel
theorem dX1_empty_1 : decode cX1_empty 1 = .ok (.iconst 0, 1) := by decide +kernel
theorem dX1_empty_2 : decode cX1_empty 2 = .ok (.putfield 23, 3) := by decide +kernel
theorem dX1_empty_5 : decode cX1_empty 5 = .ok (.return_, 1) := by decide +kernel
theorem dX1_add_0 : decode cX1_add 0 = .ok (.aload_n 0, 1) := by decide +kernel
theorem dX1_add_1 : decode cX1_add 1 = .ok (.getfield 23, 3) := by decide +kernel
theorem dX1_add_4 : decode cX1_add 4 = .ok (.aload_n 0, 1) := by decide +kernel
theorem dX1_add_5 : decode cX1_add 5 = .ok (.getfield 13, 3) := by decide +kernel
theorem dX1_add_8 : decode cX1_add 8 = .ok (.if_icmp .lt 5, 3) := by decide +kernel
theorem dX1_add_11 : decode cX1_add 11 = .ok (.iconst 0, 1) := by decide +kernel
theorem dX1_add_12 : decode cX1_add 12 = .ok (.ireturn, 1) := by decide +kernel
theorem dX1_add_13 : decode cX1_add 13 = .ok (.aload_n 0, 1) := by decide +kernel
theorem dX1_add_14 : decode cX1_add 14 = .ok (.getfield 19, 3) := by decide +kernel
theorem dX1_add_17 : decode cX1_add 17 = .ok (.iconst 3, 1) := by decide +kernel
theorem dX1_add_18 : decode cX1_add 18 = .ok (.aload_n 0, 1) := by decide +kernel
theorem dX1_add_19 : decode cX1_add 19 = .ok (.getfield 23, 3) := by decide +kernel
theorem dX1_add_22 : decode cX1_add 22 = .ok (.imul, 1) := by decide +kernel
theorem dX1_add_23 : decode cX1_add 23 = .ok (.iload_n 1, 1) := by decide +kernel
theorem dX1_add_24 : decode cX1_add 24 = .ok (.iastore, 1) := by decide +kernel
theorem dX1_add_25 : decode cX1_add 25 = .ok (.aload_n 0, 1) := by decide +kernel
theorem dX1_add_26 : decode cX1_add 26 = .ok (.getfield 19, 3) := by decide +kernel
theorem dX1_add_29 : decode cX1_add 29 = .ok (.iconst 3, 1) := by decide +kernel
theorem dX1_add_30 : decode cX1_add 30 = .ok (.aload_n 0, 1) := by decide +kernel
theorem dX1_add_31 : decode cX1_add 31 = .ok (.getfield 23, 3) := by decide +kernel
theorem dX1_add_34 : decode cX1_add 34 = .ok (.imul, 1) := by decide +kernel
theorem dX1_add_35 : decode cX1_add 35 = .ok (.iconst 1, 1) := by decide +kernel
theorem dX1_add_36 : decode cX1_add 36 = .ok (.iadd, 1) := by decide +kernel
theorem dX1_add_37 : decode cX1_add 37 = .ok (.iload_n 2, 1) := by decide +kernel
theorem dX1_add_38 : decode cX1_add 38 = .ok (.iastore, 1) := by decide +kernel
theorem dX1_add_39 : decode cX1_add 39 = .ok (.aload_n 0, 1) := by decide +kernel
theorem dX1_add_40 : decode cX1_add 40 = .ok (.getfield 19, 3) := by decide +kernel
theorem dX1_add_43 : decode cX1_add 43 = .ok (.iconst 3, 1) := by decide +kernel
theorem dX1_add_44 : decode cX1_add 44 = .ok (.aload_n 0, 1) := by decide +kernel
theorem dX1_add_45 : decode cX1_add 45 = .ok (.getfield 23, 3) := by decide +kernel
theorem dX1_add_48 : decode cX1_add 48 = .ok (.imul, 1) := by decide +kernel
theorem dX1_add_49 : decode cX1_add 49 = .ok (.iconst 2, 1) := by decide +kernel
theorem dX1_add_50 : decode cX1_add 50 = .ok (.iadd, 1) := by decide +kernel
theorem dX1_add_51 : decode cX1_add 51 = .ok (.iload_n 3, 1) := by decide +kernel
theorem dX1_add_52 : decode cX1_add 52 = .ok (.iastore, 1) := by decide +kernel
theorem dX1_add_53 : decode cX1_add 53 = .ok (.aload_n 0, 1) := by decide +kernel
theorem dX1_add_54 : decode cX1_add 54 = .ok (.dup, 1) := by decide +kernel
theorem dX1_add_55 : decode cX1_add 55 = .ok (.getfield 23, 3) := by decide +kernel
theorem dX1_add_58 : decode cX1_add 58 = .ok (.iconst 1, 1) := by decide +kernel
theorem dX1_add_59 : decode cX1_add 59 = .ok (.iadd, 1) := by decide +kernel
theorem dX1_add_60 : decode cX1_add 60 = .ok (.putfield 23, 3) := by decide +kernel
theorem dX1_add_63 : decode cX1_add 63 = .ok (.iconst 1, 1) := by decide +kernel
theorem dX1_add_64 : decode cX1_add 64 = .ok (.ireturn, 1) := by decide +kernel
theorem dX1_cell_0 : decode cX1_cell 0 = .ok (.iload_n 1, 1) := by decide +kernel
theorem dX1_cell_1 : decode cX1_cell 1 = .ok (.ifCond .lt 24, 3) := by decide +kernel
theorem dX1_cell_4 : decode cX1_cell 4 = .ok (.iload_n 1, 1) := by decide +kernel
theorem dX1_cell_5 : decode cX1_cell 5 = .ok (.aload_n 0, 1) := by decide +kernel
theorem dX1_cell_6 : decode cX1_cell 6 = .ok (.getfield 23, 3) := by decide +kernel
theorem dX1_cell_9 : decode cX1_cell 9 = .ok (.if_icmp .ge 16, 3) := by decide +kernel
theorem dX1_cell_12 : decode cX1_cell 12 = .ok (.iload_n 2, 1) := by decide +kernel
theorem dX1_cell_13 : decode cX1_cell 13 = .ok (.ifCond .lt 12, 3) := by decide +kernel
theorem dX1_cell_16 : decode cX1_cell 16 = .ok (.iload_n 2, 1) := by decide +kernel
theorem dX1_cell_17 : decode cX1_cell 17 = .ok (.iconst 3, 1) := by decide +kernel
theorem dX1_cell_18 : decode cX1_cell 18 = .ok (.if_icmp .ge 7, 3) := by decide +kernel
theorem dX1_cell_21 : decode cX1_cell 21 = .ok (.iconst 1, 1) := by decide +kernel
theorem dX1_cell_22 : decode cX1_cell 22 = .ok (.goto 4, 3) := by decide +kernel
theorem dX1_cell_25 : decode cX1_cell 25 = .ok (.iconst 0, 1) := by decide +kernel
theorem dX1_cell_26 : decode cX1_cell 26 = .ok (.istore_n 3, 1) := by decide +kernel
theorem dX1_cell_27 : decode cX1_cell 27 = .ok (.iload_n 3, 1) := by decide +kernel
theorem dX1_cell_28 : decode cX1_cell 28 = .ok (.ifCond .eq 16, 3) := by decide +kernel
theorem dX1_cell_31 : decode cX1_cell 31 = .ok (.aload_n 0, 1) := by decide +kernel
theorem dX1_cell_32 : decode cX1_cell 32 = .ok (.getfield 19, 3) := by decide +kernel
theorem dX1_cell_35 : decode cX1_cell 35 = .ok (.iconst 3, 1) := by decide +kernel
theorem dX1_cell_36 : decode cX1_cell 36 = .ok (.iload_n 1, 1) := by decide +kernel
theorem dX1_cell_37 : decode cX1_cell 37 = .ok (.imul, 1) := by decide +kernel
theorem dX1_cell_38 : decode cX1_cell 38 = .ok (.iload_n 2, 1) := by decide +kernel
theorem dX1_cell_39 : decode cX1_cell 39 = .ok (.iadd, 1) := by decide +kernel
theorem dX1_cell_40 : decode cX1_cell 40 = .ok (.iaload, 1) := by decide +kernel
theorem dX1_cell_41 : decode cX1_cell 41 = .ok (.goto 4, 3) := by decide +kernel
theorem dX1_cell_44 : decode cX1_cell 44 = .ok (.iconst 0, 1) := by decide +kernel
theorem dX1_cell_45 : decode cX1_cell 45 = .ok (.ireturn, 1) := by decide +kernel
set_option maxRecDepth 20000 in
theorem ggX1_become_X1_cell : GoodIn wsX1_become wsX1_cell := goodIn_r _ [6, 1, 7, 13, 14, 15] (by decide +kernel) (by decide +kernel)
set_option maxRecDepth 20000 in
theorem gX1_become_X1_cell : GoodIn wsX1_become (wsV RX1 26 RX1 yX1_cell wsX1_cell) := goodIn_app (goodIn_of _ (by decide +kernel)) ggX1_become_X1_cell
set_option maxRecDepth 20000 in
theorem ggX1_become_X1_add : GoodIn wsX1_become wsX1_add := goodIn_r _ [11, 1, 12, 7, 13, 14, 15] (by decide +kernel) (by decide +kernel)
set_option maxRecDepth 20000 in
theorem gX1_become_X1_add : GoodIn wsX1_become (wsV RX1 29 RX1 yX1_add wsX1_add) := goodIn_app (goodIn_of _ (by decide +kernel)) ggX1_become_X1_add
theorem dX1_become_0 : decode cX1_become 0 = .ok (.aload_n 0, 1) := by decide +kernel
theorem dX1_become_1 : decode cX1_become 1 = .ok (.iconst 0, 1) := by decide +kernel
theorem dX1_become_2 : decode cX1_become 2 = .ok (.putfield 23, 3) := by decide +kernel
theorem dX1_become_5 : decode cX1_become 5 = .ok (.iconst 0, 1) := by decide +kernel
theorem dX1_become_6 : decode cX1_become 6 = .ok (.istore_n 2, 1) := by decide +kernel
theorem dX1_become_7 : decode cX1_become 7 = .ok (.iload_n 2, 1) := by decide +kernel
theorem dX1_become_8 : decode cX1_become 8 = .ok (.aload_n 1, 1) := by decide +kernel
theorem dX1_become_9 : decode cX1_become 9 = .ok (.getfield 23, 3) := by decide +kernel
theorem dX1_become_12 : decode cX1_become 12 = .ok (.if_icmp .ge 32, 3) := by decide +kernel
theorem dX1_become_15 : decode cX1_become 15 = .ok (.aload_n 0, 1) := by decide +kernel
theorem dX1_become_16 : decode cX1_become 16 = .ok (.aload_n 1, 1) := by decide +kernel
theorem dX1_become_17 : decode cX1_become 17 = .ok (.iload_n 2, 1) := by decide +kernel
theorem dX1_become_18 : decode cX1_become 18 = .ok (.iconst 0, 1) := by decide +kernel
theorem dX1_become_19 : decode cX1_become 19 = .ok (.invokevirtual 26, 3) := by decide +kernel
theorem dX1_become_22 : decode cX1_become 22 = .ok (.aload_n 1, 1) := by decide +kernel
theorem dX1_become_23 : decode cX1_become 23 = .ok (.iload_n 2, 1) := by decide +kernel
theorem dX1_become_24 : decode cX1_become 24 = .ok (.iconst 1, 1) := by decide +kernel
theorem dX1_become_25 : decode cX1_become 25 = .ok (.invokevirtual 26, 3) := by decide +kernel
theorem dX1_become_28 : decode cX1_become 28 = .ok (.aload_n 1, 1) := by decide +kernel
theorem dX1_become_29 : decode cX1_become 29 = .ok (.iload_n 2, 1) := by decide +kernel
theorem dX1_become_30 : decode cX1_become 30 = .ok (.iconst 2, 1) := by decide +kernel
theorem dX1_become_31 : decode cX1_become 31 = .ok (.invokevirtual 26, 3) := by decide +kernel
theorem dX1_become_34 : decode cX1_become 34 = .ok (.invokevirtual 29, 3) := by decide +kernel
theorem dX1_become_37 : decode cX1_become 37 = .ok (.pop, 1) := by decide +kernel
theorem dX1_become_38 : decode cX1_become 38 = .ok (.iinc 2 1, 3) := by decide +kernel
theorem dX1_become_41 : decode cX1_become 41 = .ok (.goto (-34), 3) := by decide +kernel
theorem dX1_become_44 : decode cX1_become 44 = .ok (.return_, 1) := by decide +kernel
set_option maxRecDepth 20000 in
theorem ggX2_init_X4_init : GoodIn wsX2_init wsX4_init := goodIn_r _ [19, 20, 2, 3, 8, 21, 22, 23, 24, 6, 25, 26, 27, 28, 29, 30, 31, 32, 33, 34, 35, 36, 37, 38, 39, 40, 41, 56, 57] (by decide +kernel) (by decide +kernel)
set_option maxRecDepth 20000 in
theorem gX2_init_X4_init : GoodIn wsX2_init (wsX4_init) := ggX2_init_X4_init
set_option maxRecDepth 20000 in
theorem ggX2_init_X1_init : GoodIn wsX2_init wsX1_init := goodIn_r _ [44, 45, 2, 3, 46, 31, 28, 32, 47, 8, 48, 49, 64, 65, 66] (by decide +kernel) (by decide +kernel)
set_option maxRecDepth 20000 in
theorem gX2_init_X1_init : GoodIn wsX2_init (wsX1_init) := ggX2_init_X1_init
set_option maxRecDepth 20000 in
theorem ggX2_init_X2_begin : GoodIn wsX2_init wsX2_begin := goodIn_r _ [54, 7, 9, 10, 55, 23, 24, 6, 25, 26, 27, 28, 29, 30, 31, 32, 33, 34, 35, 36, 37, 21, 38, 39, 40, 41, 58, 59, 60, 61, 62, 63, 56, 57] (by decide +kernel) (by decide +kernel)
set_option maxRecDepth 20000 in
theorem gX2_init_X2_begin : GoodIn wsX2_init (wsV RX2 40 RX2 yX2_begin wsX2_begin) := goodIn_app (goodIn_of _ (by decide +kernel)) ggX2_init_X2_begin
theorem dX2_init_0 : decode cX2_init 0 = .ok (.aload_n 0, 1) := by decide +kernel
theorem dX2_init_1 : decode cX2_init 1 = .ok (.invokespecial 3, 3) := by decide +kernel
theorem dX2_init_4 : decode cX2_init 4 = .ok (.aload_n 0, 1) := by decide +kernel
theorem dX2_init_5 : decode cX2_init 5 = .ok (.new 9, 3) := by decide +kernel
theorem dX2_init_8 : decode cX2_init 8 = .ok (.dup, 1) := by decide +kernel
theorem dX2_init_9 : decode cX2_init 9 = .ok (.invokespecial 11, 3) := by decide +kernel
theorem dX2_init_12 : decode cX2_init 12 = .ok (.putfield 12, 3) := by decide +kernel
theorem dX2_init_15 : decode cX2_init 15 = .ok (.aload_n 0, 1) := by decide +kernel
theorem dX2_init_16 : decode cX2_init 16 = .ok (.iconst 5, 1) := by decide +kernel
theorem dX2_init_17 : decode cX2_init 17 = .ok (.newarray .int, 2) := by decide +kernel
theorem dX2_init_19 : decode cX2_init 19 = .ok (.putfield 18, 3) := by decide +kernel
theorem dX2_init_22 : decode cX2_init 22 = .ok (.aload_n 0, 1) := by decide +kernel
theorem dX2_init_23 : decode cX2_init 23 = .ok (.iconst 5, 1) := by decide +kernel
theorem dX2_init_24 : decode cX2_init 24 = .ok (.newarray .int, 2) := by decide +kernel
theorem dX2_init_26 : decode cX2_init 26 = .ok (.putfield 22, 3) := by decide +kernel
theorem dX2_init_29 : decode cX2_init 29 = .ok (.aload_n 0, 1) := by decide +kernel
theorem dX2_init_30 : decode cX2_init 30 = .ok (.new 25, 3) := by decide +kernel
theorem dX2_init_33 : decode cX2_init 33 = .ok (.dup, 1) := by decide +kernel
theorem dX2_init_34 : decode cX2_init 34 = .ok (.iconst 4, 1) := by decide +kernel
theorem dX2_init_35 : decode cX2_init 35 = .ok (.invokespecial 27, 3) := by decide +kernel
theorem dX2_init_38 : decode cX2_init 38 = .ok (.putfield 30, 3) := by decide +kernel
theorem dX2_init_41 : decode cX2_init 41 = .ok (.aload_n 0, 1) := by decide +kernel
theorem dX2_init_42 : decode cX2_init 42 = .ok (.new 25, 3) := by decide +kernel
theorem dX2_init_45 : decode cX2_init 45 = .ok (.dup, 1) := by decide +kernel
theorem dX2_init_46 : decode cX2_init 46 = .ok (.bipush 8, 2) := by decide +kernel
theorem dX2_init_48 : decode cX2_init 48 = .ok (.invokespecial 27, 3) := by decide +kernel
theorem dX2_init_51 : decode cX2_init 51 = .ok (.putfield 34, 3) := by decide +kernel
theorem dX2_init_54 : decode cX2_init 54 = .ok (.aload_n 0, 1) := by decide +kernel
theorem dX2_init_55 : decode cX2_init 55 = .ok (.new 25, 3) := by decide +kernel
theorem dX2_init_58 : decode cX2_init 58 = .ok (.dup, 1) := by decide +kernel
theorem dX2_init_59 : decode cX2_init 59 = .ok (.bipush 8, 2) := by decide +kernel
theorem dX2_init_61 : decode cX2_init 61 = .ok (.invokespecial 27, 3) := by decide +kernel
theorem dX2_init_64 : decode cX2_init 64 = .ok (.putfield 37, 3) := by decide +kernel
theorem dX2_init_67 : decode cX2_init 67 = .ok (.aload_n 0, 1) := by decide +kernel
theorem dX2_init_68 : decode cX2_init 68 = .ok (.iconst 4, 1) := by decide +kernel
theorem dX2_init_69 : decode cX2_init 69 = .ok (.invokevirtual 40, 3) := by decide +kernel
theorem dX2_init_72 : decode cX2_init 72 = .ok (.pop, 1) := by decide +kernel
theorem dX2_init_73 : decode cX2_init 73 = .ok (.return_, 1) := by decide +kernel
set_option maxRecDepth 20000 in
theorem ggX2_become_X4_become : GoodIn wsX2_become wsX4_become := goodIn_r _ [15, 16, 17, 18, 4, 5, 6, 41, 42] (by decide +kernel) (by decide +kernel)
set_option maxRecDepth 20000 in
theorem gX2_become_X4_become : GoodIn wsX2_become (wsV RX2 44 RX4 yX4_become wsX4_become) := goodIn_app (goodIn_of _ (by decide +kernel)) ggX2_become_X4_become
set_option maxRecDepth 20000 in
theorem ggX2_become_X1_become : GoodIn wsX2_become wsX1_become := goodIn_r _ [23, 24, 25, 26, 27, 22, 28, 29, 30, 31, 32, 33, 34, 43, 44, 45] (by decide +kernel) (by decide +kernel)
set_option maxRecDepth 20000 in
theorem gX2_become_X1_become : GoodIn wsX2_become (wsV RX2 54 RX1 yX1_become wsX1_become) := goodIn_app (goodIn_of _ (by decide +kernel)) ggX2_become_X1_become
theorem dX2_become_0 : decode cX2_become 0 = .ok (.aload_n 0, 1) := by decide +kernel
theorem dX2_become_1 : decode cX2_become 1 = .ok (.getfield 12, 3) := by decide +kernel
theorem dX2_become_4 : decode cX2_become 4 = .ok (.aload_n 1, 1) := by decide +kernel
theorem dX2_become_5 : decode cX2_become 5 = .ok (.getfield 12, 3) := by decide +kernel
theorem dX2_become_8 : decode cX2_become 8 = .ok (.invokevirtual 44, 3) := by decide +kernel
theorem dX2_become_11 : decode cX2_become 11 = .ok (.aload_n 1, 1) := by decide +kernel
theorem dX2_become_12 : decode cX2_become 12 = .ok (.getfield 18, 3) := by decide +kernel
theorem dX2_become_15 : decode cX2_become 15 = .ok (.iconst 0, 1) := by decide +kernel
theorem dX2_become_16 : decode cX2_become 16 = .ok (.aload_n 0, 1) := by decide +kernel
theorem dX2_become_17 : decode cX2_become 17 = .ok (.getfield 18, 3) := by decide +kernel
theorem dX2_become_20 : decode cX2_become 20 = .ok (.iconst 0, 1) := by decide +kernel
theorem dX2_become_21 : decode cX2_become 21 = .ok (.iconst 5, 1) := by decide +kernel
theorem dX2_become_22 : decode cX2_become 22 = .ok (.invokestatic 48, 3) := by decide +kernel
theorem dX2_become_25 : decode cX2_become 25 = .ok (.aload_n 1, 1) := by decide +kernel
theorem dX2_become_26 : decode cX2_become 26 = .ok (.getfield 22, 3) := by decide +kernel
theorem dX2_become_29 : decode cX2_become 29 = .ok (.iconst 0, 1) := by decide +kernel
theorem dX2_become_30 : decode cX2_become 30 = .ok (.aload_n 0, 1) := by decide +kernel
theorem dX2_become_31 : decode cX2_become 31 = .ok (.getfield 22, 3) := by decide +kernel
theorem dX2_become_34 : decode cX2_become 34 = .ok (.iconst 0, 1) := by decide +kernel
theorem dX2_become_35 : decode cX2_become 35 = .ok (.iconst 5, 1) := by decide +kernel
theorem dX2_become_36 : decode cX2_become 36 = .ok (.invokestatic 48, 3) := by decide +kernel
theorem dX2_become_39 : decode cX2_become 39 = .ok (.aload_n 0, 1) := by decide +kernel
theorem dX2_become_40 : decode cX2_become 40 = .ok (.getfield 30, 3) := by decide +kernel
theorem dX2_become_43 : decode cX2_become 43 = .ok (.aload_n 1, 1) := by decide +kernel
theorem dX2_become_44 : decode cX2_become 44 = .ok (.getfield 30, 3) := by decide +kernel
theorem dX2_become_47 : decode cX2_become 47 = .ok (.invokevirtual 54, 3) := by decide +kernel
theorem dX2_become_50 : decode cX2_become 50 = .ok (.aload_n 0, 1) := by decide +kernel
theorem dX2_become_51 : decode cX2_become 51 = .ok (.getfield 34, 3) := by decide +kernel
theorem dX2_become_54 : decode cX2_become 54 = .ok (.aload_n 1, 1) := by decide +kernel
theorem dX2_become_55 : decode cX2_become 55 = .ok (.getfield 34, 3) := by decide +kernel
theorem dX2_become_58 : decode cX2_become 58 = .ok (.invokevirtual 54, 3) := by decide +kernel
theorem dX2_become_61 : decode cX2_become 61 = .ok (.aload_n 0, 1) := by decide +kernel
theorem dX2_become_62 : decode cX2_become 62 = .ok (.getfield 37, 3) := by decide +kernel
theorem dX2_become_65 : decode cX2_become 65 = .ok (.aload_n 1, 1) := by decide +kernel
theorem dX2_become_66 : decode cX2_become 66 = .ok (.getfield 37, 3) := by decide +kernel
theorem dX2_become_69 : decode cX2_become 69 = .ok (.invokevirtual 54, 3) := by decide +kernel
theorem dX2_become_72 : decode cX2_become 72 = .ok (.return_, 1) := by decide +kernel
set_option maxRecDepth 20000 in
theorem ggX2_begin_X4_spread : GoodIn wsX2_begin wsX4_spread := goodIn_r _ [8, 9, 10, 11, 12, 13, 14, 15, 16, 17, 18, 19, 7, 20, 21, 22, 23, 24, 25, 32, 33] (by decide +kernel) (by decide +kernel)
set_option maxRecDepth 20000 in
theorem gX2_begin_X4_spread : GoodIn wsX2_begin (wsV RX2 57 RX4 yX4_spread wsX4_spread) := goodIn_app (goodIn_of _ (by decide +kernel)) ggX2_begin_X4_spread
theorem dX2_begin_0 : decode cX2_begin 0 = .ok (.iload_n 1, 1) := by decide +kernel
theorem dX2_begin_1 : decode cX2_begin 1 = .ok (.iconst 3, 1) := by decide +kernel
theorem dX2_begin_2 : decode cX2_begin 2 = .ok (.if_icmp .lt 8, 3) := by decide +kernel
theorem dX2_begin_5 : decode cX2_begin 5 = .ok (.iload_n 1, 1) := by decide +kernel
theorem dX2_begin_6 : decode cX2_begin 6 = .ok (.iconst 5, 1) := by decide +kernel
theorem dX2_begin_7 : decode cX2_begin 7 = .ok (.if_icmp .le 5, 3) := by decide +kernel
theorem dX2_begin_10 : decode cX2_begin 10 = .ok (.iconst 0, 1) := by decide +kernel
theorem dX2_begin_11 : decode cX2_begin 11 = .ok (.ireturn, 1) := by decide +kernel
theorem dX2_begin_12 : decode cX2_begin 12 = .ok (.aload_n 0, 1) := by decide +kernel
theorem dX2_begin_13 : decode cX2_begin 13 = .ok (.getfield 12, 3) := by decide +kernel
theorem dX2_begin_16 : decode cX2_begin 16 = .ok (.iload_n 1, 1) := by decide +kernel
theorem dX2_begin_17 : decode cX2_begin 17 = .ok (.invokevirtual 57, 3) := by decide +kernel
theorem dX2_begin_20 : decode cX2_begin 20 = .ok (.iconst 0, 1) := by decide +kernel
theorem dX2_begin_21 : decode cX2_begin 21 = .ok (.istore_n 2, 1) := by decide +kernel
theorem dX2_begin_22 : decode cX2_begin 22 = .ok (.iload_n 2, 1) := by decide +kernel
theorem dX2_begin_23 : decode cX2_begin 23 = .ok (.iconst 5, 1) := by decide +kernel
theorem dX2_begin_24 : decode cX2_begin 24 = .ok (.if_icmp .ge 23, 3) := by decide +kernel
theorem dX2_begin_27 : decode cX2_begin 27 = .ok (.aload_n 0, 1) := by decide +kernel
theorem dX2_begin_28 : decode cX2_begin 28 = .ok (.getfield 18, 3) := by decide +kernel
theorem dX2_begin_31 : decode cX2_begin 31 = .ok (.iload_n 2, 1) := by decide +kernel
theorem dX2_begin_32 : decode cX2_begin 32 = .ok (.iconst 0, 1) := by decide +kernel
theorem dX2_begin_33 : decode cX2_begin 33 = .ok (.iastore, 1) := by decide +kernel
theorem dX2_begin_34 : decode cX2_begin 34 = .ok (.aload_n 0, 1) := by decide +kernel
theorem dX2_begin_35 : decode cX2_begin 35 = .ok (.getfield 22, 3) := by decide +kernel
theorem dX2_begin_38 : decode cX2_begin 38 = .ok (.iload_n 2, 1) := by decide +kernel
theorem dX2_begin_39 : decode cX2_begin 39 = .ok (.iload_n 2, 1) := by decide +kernel
theorem dX2_begin_40 : decode cX2_begin 40 = .ok (.iastore, 1) := by decide +kernel
theorem dX2_begin_41 : decode cX2_begin 41 = .ok (.iinc 2 1, 3) := by decide +kernel
theorem dX2_begin_44 : decode cX2_begin 44 = .ok (.goto (-22), 3) := by decide +kernel
theorem dX2_begin_47 : decode cX2_begin 47 = .ok (.iconst 1, 1) := by decide +kernel
theorem dX2_begin_48 : decode cX2_begin 48 = .ok (.ireturn, 1) := by decide +kernel
set_option maxRecDepth 20000 in
theorem ggX2_place_X4_areTwo : GoodIn wsX2_place wsX4_areTwo := goodIn_r _ [6, 7, 20, 21] (by decide +kernel) (by decide +kernel)
set_option maxRecDepth 20000 in
theorem gX2_place_X4_areTwo : GoodIn wsX2_place (wsV RX2 60 RX4 yX4_areTwo wsX4_areTwo) := goodIn_app (goodIn_of _ (by decide +kernel)) ggX2_place_X4_areTwo
set_option maxRecDepth 20000 in
theorem ggX2_place_X4_put : GoodIn wsX2_place wsX4_put := goodIn_r _ [11, 12, 13, 3, 4, 5, 6, 7, 20, 21] (by decide +kernel) (by decide +kernel)
set_option maxRecDepth 20000 in
theorem gX2_place_X4_put : GoodIn wsX2_place (wsV RX2 64 RX4 yX4_put wsX4_put) := goodIn_app (goodIn_of _ (by decide +kernel)) ggX2_place_X4_put
theorem dX2_place_0 : decode cX2_place 0 = .ok (.aload_n 0, 1) := by decide +kernel
theorem dX2_place_1 : decode cX2_place 1 = .ok (.getfield 12, 3) := by decide +kernel
theorem dX2_place_4 : decode cX2_place 4 = .ok (.iload_n 1, 1) := by decide +kernel
theorem dX2_place_5 : decode cX2_place 5 = .ok (.iload_n 2, 1) := by decide +kernel
theorem dX2_place_6 : decode cX2_place 6 = .ok (.invokevirtual 60, 3) := by decide +kernel
theorem dX2_place_9 : decode cX2_place 9 = .ok (.ifCond .eq 13, 3) := by decide +kernel
theorem dX2_place_12 : decode cX2_place 12 = .ok (.iload_n 3, 1) := by decide +kernel
theorem dX2_place_13 : decode cX2_place 13 = .ok (.ifCond .lt 9, 3) := by decide +kernel
theorem dX2_place_16 : decode cX2_place 16 = .ok (.iload_n 3, 1) := by decide +kernel
theorem dX2_place_17 : decode cX2_place 17 = .ok (.bipush 40, 2) := by decide +kernel
theorem dX2_place_19 : decode cX2_place 19 = .ok (.if_icmp .le 5, 3) := by decide +kernel
theorem dX2_place_22 : decode cX2_place 22 = .ok (.iconst 0, 1) := by decide +kernel
theorem dX2_place_23 : decode cX2_place 23 = .ok (.ireturn, 1) := by decide +kernel
theorem dX2_place_24 : decode cX2_place 24 = .ok (.aload_n 0, 1) := by decide +kernel
theorem dX2_place_25 : decode cX2_place 25 = .ok (.getfield 12, 3) := by decide +kernel
theorem dX2_place_28 : decode cX2_place 28 = .ok (.iload_n 1, 1) := by decide +kernel
theorem dX2_place_29 : decode cX2_place 29 = .ok (.iload_n 2, 1) := by decide +kernel
theorem dX2_place_30 : decode cX2_place 30 = .ok (.iload_n 3, 1) := by decide +kernel
theorem dX2_place_31 : decode cX2_place 31 = .ok (.invokevirtual 64, 3) := by decide +kernel
theorem dX2_place_34 : decode cX2_place 34 = .ok (.iconst 1, 1) := by decide +kernel
theorem dX2_place_35 : decode cX2_place 35 = .ok (.ireturn, 1) := by decide +kernel
set_option maxRecDepth 20000 in
theorem ggX2_setApart_X4_gap : GoodIn wsX2_setApart wsX4_gap := goodIn_r _ [11, 12, 13, 28, 29] (by decide +kernel) (by decide +kernel)
set_option maxRecDepth 20000 in
theorem gX2_setApart_X4_gap : GoodIn wsX2_setApart (wsV RX2 72 RX4 yX4_gap wsX4_gap) := goodIn_app (goodIn_of _ (by decide +kernel)) ggX2_setApart_X4_gap
set_option maxRecDepth 20000 in
theorem ggX2_setApart_X4_put : GoodIn wsX2_setApart wsX4_put := goodIn_r _ [17, 13, 18, 19, 20, 10, 21, 12, 28, 29] (by decide +kernel) (by decide +kernel)
set_option maxRecDepth 20000 in
theorem gX2_setApart_X4_put : GoodIn wsX2_setApart (wsV RX2 64 RX4 yX4_put wsX4_put) := goodIn_app (goodIn_of _ (by decide +kernel)) ggX2_setApart_X4_put
theorem dX2_setApart_0 : decode cX2_setApart 0 = .ok (.iload_n 1, 1) := by decide +kernel
theorem dX2_setApart_1 : decode cX2_setApart 1 = .ok (.iconst 1, 1) := by decide +kernel
theorem dX2_setApart_2 : decode cX2_setApart 2 = .ok (.aload_n 0, 1) := by decide +kernel
theorem dX2_setApart_3 : decode cX2_setApart 3 = .ok (.getfield 12, 3) := by decide +kernel
theorem dX2_setApart_6 : decode cX2_setApart 6 = .ok (.getfield 68, 3) := by decide +kernel
theorem dX2_setApart_9 : decode cX2_setApart 9 = .ok (.ishl, 1) := by decide +kernel
theorem dX2_setApart_10 : decode cX2_setApart 10 = .ok (.if_icmp .lt 5, 3) := by decide +kernel
theorem dX2_setApart_13 : decode cX2_setApart 13 = .ok (.iconst 0, 1) := by decide +kernel
theorem dX2_setApart_14 : decode cX2_setApart 14 = .ok (.ireturn, 1) := by decide +kernel
theorem dX2_setApart_15 : decode cX2_setApart 15 = .ok (.iconst 0, 1) := by decide +kernel
theorem dX2_setApart_16 : decode cX2_setApart 16 = .ok (.istore_n 3, 1) := by decide +kernel
theorem dX2_setApart_17 : decode cX2_setApart 17 = .ok (.iload_n 3, 1) := by decide +kernel
theorem dX2_setApart_18 : decode cX2_setApart 18 = .ok (.aload_n 0, 1) := by decide +kernel
theorem dX2_setApart_19 : decode cX2_setApart 19 = .ok (.getfield 12, 3) := by decide +kernel
theorem dX2_setApart_22 : decode cX2_setApart 22 = .ok (.getfield 68, 3) := by decide +kernel
theorem dX2_setApart_25 : decode cX2_setApart 25 = .ok (.if_icmp .ge 73, 3) := by decide +kernel
theorem dX2_setApart_28 : decode cX2_setApart 28 = .ok (.iload_n 3, 1) := by decide +kernel
theorem dX2_setApart_29 : decode cX2_setApart 29 = .ok (.iconst 1, 1) := by decide +kernel
theorem dX2_setApart_30 : decode cX2_setApart 30 = .ok (.iadd, 1) := by decide +kernel
theorem dX2_setApart_31 : decode cX2_setApart 31 = .ok (.istore 4, 2) := by decide +kernel
theorem dX2_setApart_33 : decode cX2_setApart 33 = .ok (.iload 4, 2) := by decide +kernel
theorem dX2_setApart_35 : decode cX2_setApart 35 = .ok (.aload_n 0, 1) := by decide +kernel
theorem dX2_setApart_36 : decode cX2_setApart 36 = .ok (.getfield 12, 3) := by decide +kernel
theorem dX2_setApart_39 : decode cX2_setApart 39 = .ok (.getfield 68, 3) := by decide +kernel
theorem dX2_setApart_42 : decode cX2_setApart 42 = .ok (.if_icmp .ge 50, 3) := by decide +kernel
theorem dX2_setApart_45 : decode cX2_setApart 45 = .ok (.iload_n 1, 1) := by decide +kernel
theorem dX2_setApart_46 : decode cX2_setApart 46 = .ok (.iload_n 3, 1) := by decide +kernel
theorem dX2_setApart_47 : decode cX2_setApart 47 = .ok (.ishr, 1) := by decide +kernel
theorem dX2_setApart_48 : decode cX2_setApart 48 = .ok (.iconst 1, 1) := by decide +kernel
theorem dX2_setApart_49 : decode cX2_setApart 49 = .ok (.iand, 1) := by decide +kernel
theorem dX2_setApart_50 : decode cX2_setApart 50 = .ok (.iload_n 1, 1) := by decide +kernel
theorem dX2_setApart_51 : decode cX2_setApart 51 = .ok (.iload 4, 2) := by decide +kernel
theorem dX2_setApart_53 : decode cX2_setApart 53 = .ok (.ishr, 1) := by decide +kernel
theorem dX2_setApart_54 : decode cX2_setApart 54 = .ok (.iconst 1, 1) := by decide +kernel
theorem dX2_setApart_55 : decode cX2_setApart 55 = .ok (.iand, 1) := by decide +kernel
theorem dX2_setApart_56 : decode cX2_setApart 56 = .ok (.if_icmp .eq 30, 3) := by decide +kernel
theorem dX2_setApart_59 : decode cX2_setApart 59 = .ok (.aload_n 0, 1) := by decide +kernel
theorem dX2_setApart_60 : decode cX2_setApart 60 = .ok (.getfield 12, 3) := by decide +kernel
theorem dX2_setApart_63 : decode cX2_setApart 63 = .ok (.iload_n 3, 1) := by decide +kernel
theorem dX2_setApart_64 : decode cX2_setApart 64 = .ok (.iload 4, 2) := by decide +kernel
theorem dX2_setApart_66 : decode cX2_setApart 66 = .ok (.bipush 40, 2) := by decide +kernel
theorem dX2_setApart_68 : decode cX2_setApart 68 = .ok (.aload_n 0, 1) := by decide +kernel
theorem dX2_setApart_69 : decode cX2_setApart 69 = .ok (.getfield 12, 3) := by decide +kernel
theorem dX2_setApart_72 : decode cX2_setApart 72 = .ok (.iload_n 3, 1) := by decide +kernel
theorem dX2_setApart_73 : decode cX2_setApart 73 = .ok (.iload 4, 2) := by decide +kernel
theorem dX2_setApart_75 : decode cX2_setApart 75 = .ok (.invokevirtual 72, 3) := by decide +kernel
theorem dX2_setApart_78 : decode cX2_setApart 78 = .ok (.iload_n 2, 1) := by decide +kernel
theorem dX2_setApart_79 : decode cX2_setApart 79 = .ok (.iadd, 1) := by decide +kernel
theorem dX2_setApart_80 : decode cX2_setApart 80 = .ok (.invokestatic 76, 3) := by decide +kernel
theorem dX2_setApart_83 : decode cX2_setApart 83 = .ok (.invokevirtual 64, 3) := by decide +kernel
theorem dX2_setApart_86 : decode cX2_setApart 86 = .ok (.iinc 4 1, 3) := by decide +kernel
theorem dX2_setApart_89 : decode cX2_setApart 89 = .ok (.goto (-56), 3) := by decide +kernel
theorem dX2_setApart_92 : decode cX2_setApart 92 = .ok (.iinc 3 1, 3) := by decide +kernel
theorem dX2_setApart_95 : decode cX2_setApart 95 = .ok (.goto (-78), 3) := by decide +kernel
theorem dX2_setApart_98 : decode cX2_setApart 98 = .ok (.iconst 1, 1) := by decide +kernel
theorem dX2_setApart_99 : decode cX2_setApart 99 = .ok (.ireturn, 1) := by decide +kernel
set_option maxRecDepth 20000 in
theorem ggX2_multiply_X4_gap : GoodIn wsX2_multiply wsX4_gap := goodIn_r _ [11, 12, 13, 28, 29] (by decide +kernel) (by decide +kernel)
set_option maxRecDepth 20000 in
theorem gX2_multiply_X4_gap : GoodIn wsX2_multiply (wsV RX2 72 RX4 yX4_gap wsX4_gap) := goodIn_app (goodIn_of _ (by decide +kernel)) ggX2_multiply_X4_gap
set_option maxRecDepth 20000 in
theorem ggX2_multiply_X4_put : GoodIn wsX2_multiply wsX4_put := goodIn_r _ [17, 13, 18, 19, 20, 10, 21, 12, 28, 29] (by decide +kernel) (by decide +kernel)
set_option maxRecDepth 20000 in
theorem gX2_multiply_X4_put : GoodIn wsX2_multiply (wsV RX2 64 RX4 yX4_put wsX4_put) := goodIn_app (goodIn_of _ (by decide +kernel)) ggX2_multiply_X4_put
theorem dX2_multiply_0 : decode cX2_multiply 0 = .ok (.iconst 0, 1) := by decide +kernel
theorem dX2_multiply_1 : decode cX2_multiply 1 = .ok (.istore_n 2, 1) := by decide +kernel
theorem dX2_multiply_2 : decode cX2_multiply 2 = .ok (.iload_n 2, 1) := by decide +kernel
theorem dX2_multiply_3 : decode cX2_multiply 3 = .ok (.aload_n 0, 1) := by decide +kernel
theorem dX2_multiply_4 : decode cX2_multiply 4 = .ok (.getfield 12, 3) := by decide +kernel
theorem dX2_multiply_7 : decode cX2_multiply 7 = .ok (.getfield 68, 3) := by decide +kernel
theorem dX2_multiply_10 : decode cX2_multiply 10 = .ok (.if_icmp .ge 55, 3) := by decide +kernel
theorem dX2_multiply_13 : decode cX2_multiply 13 = .ok (.iload_n 2, 1) := by decide +kernel
theorem dX2_multiply_14 : decode cX2_multiply 14 = .ok (.iconst 1, 1) := by decide +kernel
theorem dX2_multiply_15 : decode cX2_multiply 15 = .ok (.iadd, 1) := by decide +kernel
theorem dX2_multiply_16 : decode cX2_multiply 16 = .ok (.istore_n 3, 1) := by decide +kernel
theorem dX2_multiply_17 : decode cX2_multiply 17 = .ok (.iload_n 3, 1) := by decide +kernel
theorem dX2_multiply_18 : decode cX2_multiply 18 = .ok (.aload_n 0, 1) := by decide +kernel
theorem dX2_multiply_19 : decode cX2_multiply 19 = .ok (.getfield 12, 3) := by decide +kernel
theorem dX2_multiply_22 : decode cX2_multiply 22 = .ok (.getfield 68, 3) := by decide +kernel
theorem dX2_multiply_25 : decode cX2_multiply 25 = .ok (.if_icmp .ge 34, 3) := by decide +kernel
theorem dX2_multiply_28 : decode cX2_multiply 28 = .ok (.aload_n 0, 1) := by decide +kernel
theorem dX2_multiply_29 : decode cX2_multiply 29 = .ok (.getfield 12, 3) := by decide +kernel
theorem dX2_multiply_32 : decode cX2_multiply 32 = .ok (.iload_n 2, 1) := by decide +kernel
theorem dX2_multiply_33 : decode cX2_multiply 33 = .ok (.iload_n 3, 1) := by decide +kernel
theorem dX2_multiply_34 : decode cX2_multiply 34 = .ok (.bipush 40, 2) := by decide +kernel
theorem dX2_multiply_36 : decode cX2_multiply 36 = .ok (.aload_n 0, 1) := by decide +kernel
theorem dX2_multiply_37 : decode cX2_multiply 37 = .ok (.getfield 12, 3) := by decide +kernel
theorem dX2_multiply_40 : decode cX2_multiply 40 = .ok (.iload_n 2, 1) := by decide +kernel
theorem dX2_multiply_41 : decode cX2_multiply 41 = .ok (.iload_n 3, 1) := by decide +kernel
theorem dX2_multiply_42 : decode cX2_multiply 42 = .ok (.invokevirtual 72, 3) := by decide +kernel
theorem dX2_multiply_45 : decode cX2_multiply 45 = .ok (.iload_n 1, 1) := by decide +kernel
theorem dX2_multiply_46 : decode cX2_multiply 46 = .ok (.imul, 1) := by decide +kernel
theorem dX2_multiply_47 : decode cX2_multiply 47 = .ok (.invokestatic 76, 3) := by decide +kernel
theorem dX2_multiply_50 : decode cX2_multiply 50 = .ok (.invokevirtual 64, 3) := by decide +kernel
theorem dX2_multiply_53 : decode cX2_multiply 53 = .ok (.iinc 3 1, 3) := by decide +kernel
theorem dX2_multiply_56 : decode cX2_multiply 56 = .ok (.goto (-39), 3) := by decide +kernel
theorem dX2_multiply_59 : decode cX2_multiply 59 = .ok (.iinc 2 1, 3) := by decide +kernel
theorem dX2_multiply_62 : decode cX2_multiply 62 = .ok (.goto (-60), 3) := by decide +kernel
theorem dX2_multiply_65 : decode cX2_multiply 65 = .ok (.return_, 1) := by decide +kernel
set_option maxRecDepth 20000 in
theorem ggX2_makeLeast_X7_needed : GoodIn wsX2_makeLeast wsX7_needed := goodIn_r _ [7, 8, 9, 10, 11, 12, 13, 14, 15, 16, 17, 18, 19, 31, 32] (by decide +kernel) (by decide +kernel)
set_option maxRecDepth 20000 in
theorem gX2_makeLeast_X7_needed : GoodIn wsX2_makeLeast (va_wsS RX2 81 yX7_needed wsX7_needed) := goodIn_app (goodIn_of _ (by decide +kernel)) ggX2_makeLeast_X7_needed
set_option maxRecDepth 20000 in
theorem ggX2_makeLeast_X2_becomes : GoodIn wsX2_makeLeast wsX2_becomes := goodIn_r _ [24, 3, 25, 26, 27, 28, 29, 30] (by decide +kernel) (by decide +kernel)
set_option maxRecDepth 20000 in
theorem gX2_makeLeast_X2_becomes : GoodIn wsX2_makeLeast (wsV RX2 87 RX2 yX2_becomes wsX2_becomes) := goodIn_app (goodIn_of _ (by decide +kernel)) ggX2_makeLeast_X2_becomes
theorem dX2_makeLeast_0 : decode cX2_makeLeast 0 = .ok (.iconst 0, 1) := by decide +kernel
theorem dX2_makeLeast_1 : decode cX2_makeLeast 1 = .ok (.istore_n 1, 1) := by decide +kernel
theorem dX2_makeLeast_2 : decode cX2_makeLeast 2 = .ok (.iconst 1, 1) := by decide +kernel
theorem dX2_makeLeast_3 : decode cX2_makeLeast 3 = .ok (.aload_n 0, 1) := by decide +kernel
theorem dX2_makeLeast_4 : decode cX2_makeLeast 4 = .ok (.getfield 12, 3) := by decide +kernel
theorem dX2_makeLeast_7 : decode cX2_makeLeast 7 = .ok (.getfield 68, 3) := by decide +kernel
theorem dX2_makeLeast_10 : decode cX2_makeLeast 10 = .ok (.ishl, 1) := by decide +kernel
theorem dX2_makeLeast_11 : decode cX2_makeLeast 11 = .ok (.iconst 1, 1) := by decide +kernel
theorem dX2_makeLeast_12 : decode cX2_makeLeast 12 = .ok (.isub, 1) := by decide +kernel
theorem dX2_makeLeast_13 : decode cX2_makeLeast 13 = .ok (.istore_n 2, 1) := by decide +kernel
theorem dX2_makeLeast_14 : decode cX2_makeLeast 14 = .ok (.iconst 0, 1) := by decide +kernel
theorem dX2_makeLeast_15 : decode cX2_makeLeast 15 = .ok (.istore_n 3, 1) := by decide +kernel
theorem dX2_makeLeast_16 : decode cX2_makeLeast 16 = .ok (.iload_n 3, 1) := by decide +kernel
theorem dX2_makeLeast_17 : decode cX2_makeLeast 17 = .ok (.aload_n 0, 1) := by decide +kernel
theorem dX2_makeLeast_18 : decode cX2_makeLeast 18 = .ok (.getfield 12, 3) := by decide +kernel
theorem dX2_makeLeast_21 : decode cX2_makeLeast 21 = .ok (.getfield 68, 3) := by decide +kernel
theorem dX2_makeLeast_24 : decode cX2_makeLeast 24 = .ok (.if_icmp .ge 30, 3) := by decide +kernel
theorem dX2_makeLeast_27 : decode cX2_makeLeast 27 = .ok (.iload_n 1, 1) := by decide +kernel
theorem dX2_makeLeast_28 : decode cX2_makeLeast 28 = .ok (.aload_n 0, 1) := by decide +kernel
theorem dX2_makeLeast_29 : decode cX2_makeLeast 29 = .ok (.iload_n 3, 1) := by decide +kernel
theorem dX2_makeLeast_30 : decode cX2_makeLeast 30 = .ok (.aload_n 0, 1) := by decide +kernel
theorem dX2_makeLeast_31 : decode cX2_makeLeast 31 = .ok (.getfield 12, 3) := by decide +kernel
theorem dX2_makeLeast_34 : decode cX2_makeLeast 34 = .ok (.aload_n 0, 1) := by decide +kernel
theorem dX2_makeLeast_35 : decode cX2_makeLeast 35 = .ok (.getfield 18, 3) := by decide +kernel
theorem dX2_makeLeast_38 : decode cX2_makeLeast 38 = .ok (.iload_n 3, 1) := by decide +kernel
theorem dX2_makeLeast_39 : decode cX2_makeLeast 39 = .ok (.iload_n 2, 1) := by decide +kernel
theorem dX2_makeLeast_40 : decode cX2_makeLeast 40 = .ok (.invokestatic 81, 3) := by decide +kernel
theorem dX2_makeLeast_43 : decode cX2_makeLeast 43 = .ok (.invokevirtual 87, 3) := by decide +kernel
theorem dX2_makeLeast_46 : decode cX2_makeLeast 46 = .ok (.iadd, 1) := by decide +kernel
theorem dX2_makeLeast_47 : decode cX2_makeLeast 47 = .ok (.istore_n 1, 1) := by decide +kernel
theorem dX2_makeLeast_48 : decode cX2_makeLeast 48 = .ok (.iinc 3 1, 3) := by decide +kernel
theorem dX2_makeLeast_51 : decode cX2_makeLeast 51 = .ok (.goto (-35), 3) := by decide +kernel
theorem dX2_makeLeast_54 : decode cX2_makeLeast 54 = .ok (.iload_n 1, 1) := by decide +kernel
theorem dX2_makeLeast_55 : decode cX2_makeLeast 55 = .ok (.ireturn, 1) := by decide +kernel
set_option maxRecDepth 20000 in
theorem ggX2_takeCorner_X0_number : GoodIn wsX2_takeCorner wsX0_number := goodIn_r _ [7, 8, 9, 10, 11, 12, 13, 6, 14, 15, 16, 17, 18, 19, 20, 21, 36, 37, 38, 39, 40, 41, 42, 34, 35] (by decide +kernel) (by decide +kernel)
set_option maxRecDepth 20000 in
theorem gX2_takeCorner_X0_number : GoodIn wsX2_takeCorner (wsV RX2 90 RX0 yX0_number wsX0_number) := goodIn_app (goodIn_of _ (by decide +kernel)) ggX2_takeCorner_X0_number
set_option maxRecDepth 20000 in
theorem ggX2_takeCorner_X2_becomes : GoodIn wsX2_takeCorner wsX2_becomes := goodIn_r _ [26, 27, 28, 29, 30, 31, 32, 33] (by decide +kernel) (by decide +kernel)
set_option maxRecDepth 20000 in
theorem gX2_takeCorner_X2_becomes : GoodIn wsX2_takeCorner (wsV RX2 87 RX2 yX2_becomes wsX2_becomes) := goodIn_app (goodIn_of _ (by decide +kernel)) ggX2_takeCorner_X2_becomes
theorem dX2_takeCorner_0 : decode cX2_takeCorner 0 = .ok (.iconst 0, 1) := by decide +kernel
theorem dX2_takeCorner_1 : decode cX2_takeCorner 1 = .ok (.istore_n 3, 1) := by decide +kernel
theorem dX2_takeCorner_2 : decode cX2_takeCorner 2 = .ok (.iconst 0, 1) := by decide +kernel
theorem dX2_takeCorner_3 : decode cX2_takeCorner 3 = .ok (.istore 4, 2) := by decide +kernel
theorem dX2_takeCorner_5 : decode cX2_takeCorner 5 = .ok (.iload 4, 2) := by decide +kernel
theorem dX2_takeCorner_7 : decode cX2_takeCorner 7 = .ok (.aload_n 0, 1) := by decide +kernel
theorem dX2_takeCorner_8 : decode cX2_takeCorner 8 = .ok (.getfield 12, 3) := by decide +kernel
theorem dX2_takeCorner_11 : decode cX2_takeCorner 11 = .ok (.getfield 68, 3) := by decide +kernel
theorem dX2_takeCorner_14 : decode cX2_takeCorner 14 = .ok (.if_icmp .ge 25, 3) := by decide +kernel
theorem dX2_takeCorner_17 : decode cX2_takeCorner 17 = .ok (.iload_n 3, 1) := by decide +kernel
theorem dX2_takeCorner_18 : decode cX2_takeCorner 18 = .ok (.aload_n 0, 1) := by decide +kernel
theorem dX2_takeCorner_19 : decode cX2_takeCorner 19 = .ok (.iload 4, 2) := by decide +kernel
theorem dX2_takeCorner_21 : decode cX2_takeCorner 21 = .ok (.aload_n 1, 1) := by decide +kernel
theorem dX2_takeCorner_22 : decode cX2_takeCorner 22 = .ok (.iload_n 2, 1) := by decide +kernel
theorem dX2_takeCorner_23 : decode cX2_takeCorner 23 = .ok (.iload 4, 2) := by decide +kernel
theorem dX2_takeCorner_25 : decode cX2_takeCorner 25 = .ok (.invokevirtual 90, 3) := by decide +kernel
theorem dX2_takeCorner_28 : decode cX2_takeCorner 28 = .ok (.invokevirtual 87, 3) := by decide +kernel
theorem dX2_takeCorner_31 : decode cX2_takeCorner 31 = .ok (.iadd, 1) := by decide +kernel
theorem dX2_takeCorner_32 : decode cX2_takeCorner 32 = .ok (.istore_n 3, 1) := by decide +kernel
theorem dX2_takeCorner_33 : decode cX2_takeCorner 33 = .ok (.iinc 4 1, 3) := by decide +kernel
theorem dX2_takeCorner_36 : decode cX2_takeCorner 36 = .ok (.goto (-31), 3) := by decide +kernel
theorem dX2_takeCorner_39 : decode cX2_takeCorner 39 = .ok (.iload_n 3, 1) := by decide +kernel
theorem dX2_takeCorner_40 : decode cX2_takeCorner 40 = .ok (.ireturn, 1) := by decide +kernel
theorem dX2_becomes_0 : decode cX2_becomes 0 = .ok (.aload_n 0, 1) := by decide +kernel
theorem dX2_becomes_1 : decode cX2_becomes 1 = .ok (.getfield 18, 3) := by decide +kernel
theorem dX2_becomes_4 : decode cX2_becomes 4 = .ok (.iload_n 1, 1) := by decide +kernel
theorem dX2_becomes_5 : decode cX2_becomes 5 = .ok (.iaload, 1) := by decide +kernel
theorem dX2_becomes_6 : decode cX2_becomes 6 = .ok (.iload_n 2, 1) := by decide +kernel
theorem dX2_becomes_7 : decode cX2_becomes 7 = .ok (.if_icmp .eq 7, 3) := by decide +kernel
theorem dX2_becomes_10 : decode cX2_becomes 10 = .ok (.iconst 1, 1) := by decide +kernel
theorem dX2_becomes_11 : decode cX2_becomes 11 = .ok (.goto 4, 3) := by decide +kernel
theorem dX2_becomes_14 : decode cX2_becomes 14 = .ok (.iconst 0, 1) := by decide +kernel
theorem dX2_becomes_15 : decode cX2_becomes 15 = .ok (.istore_n 3, 1) := by decide +kernel
theorem dX2_becomes_16 : decode cX2_becomes 16 = .ok (.aload_n 0, 1) := by decide +kernel
theorem dX2_becomes_17 : decode cX2_becomes 17 = .ok (.getfield 18, 3) := by decide +kernel
theorem dX2_becomes_20 : decode cX2_becomes 20 = .ok (.iload_n 1, 1) := by decide +kernel
theorem dX2_becomes_21 : decode cX2_becomes 21 = .ok (.iload_n 2, 1) := by decide +kernel
theorem dX2_becomes_22 : decode cX2_becomes 22 = .ok (.iastore, 1) := by decide +kernel
theorem dX2_becomes_23 : decode cX2_becomes 23 = .ok (.iload_n 3, 1) := by decide +kernel
theorem dX2_becomes_24 : decode cX2_becomes 24 = .ok (.ireturn, 1) := by decide +kernel
set_option maxRecDepth 20000 in
theorem ggX2_mapHolds_X4_gap : GoodIn wsX2_mapHolds wsX4_gap := goodIn_r _ [8, 9, 10, 17, 18] (by decide +kernel) (by decide +kernel)
set_option maxRecDepth 20000 in
theorem gX2_mapHolds_X4_gap : GoodIn wsX2_mapHolds (wsV RX2 72 RX4 yX4_gap wsX4_gap) := goodIn_app (goodIn_of _ (by decide +kernel)) ggX2_mapHolds_X4_gap
theorem dX2_mapHolds_0 : decode cX2_mapHolds 0 = .ok (.iconst 0, 1) := by decide +kernel
theorem dX2_mapHolds_1 : decode cX2_mapHolds 1 = .ok (.istore_n 2, 1) := by decide +kernel
theorem dX2_mapHolds_2 : decode cX2_mapHolds 2 = .ok (.iload_n 2, 1) := by decide +kernel
theorem dX2_mapHolds_3 : decode cX2_mapHolds 3 = .ok (.aload_n 0, 1) := by decide +kernel
theorem dX2_mapHolds_4 : decode cX2_mapHolds 4 = .ok (.getfield 12, 3) := by decide +kernel
theorem dX2_mapHolds_7 : decode cX2_mapHolds 7 = .ok (.getfield 68, 3) := by decide +kernel
theorem dX2_mapHolds_10 : decode cX2_mapHolds 10 = .ok (.if_icmp .ge 77, 3) := by decide +kernel
theorem dX2_mapHolds_13 : decode cX2_mapHolds 13 = .ok (.iload_n 2, 1) := by decide +kernel
theorem dX2_mapHolds_14 : decode cX2_mapHolds 14 = .ok (.iconst 1, 1) := by decide +kernel
theorem dX2_mapHolds_15 : decode cX2_mapHolds 15 = .ok (.iadd, 1) := by decide +kernel
theorem dX2_mapHolds_16 : decode cX2_mapHolds 16 = .ok (.istore_n 3, 1) := by decide +kernel
theorem dX2_mapHolds_17 : decode cX2_mapHolds 17 = .ok (.iload_n 3, 1) := by decide +kernel
theorem dX2_mapHolds_18 : decode cX2_mapHolds 18 = .ok (.aload_n 0, 1) := by decide +kernel
theorem dX2_mapHolds_19 : decode cX2_mapHolds 19 = .ok (.getfield 12, 3) := by decide +kernel
theorem dX2_mapHolds_22 : decode cX2_mapHolds 22 = .ok (.getfield 68, 3) := by decide +kernel
theorem dX2_mapHolds_25 : decode cX2_mapHolds 25 = .ok (.if_icmp .ge 56, 3) := by decide +kernel
theorem dX2_mapHolds_28 : decode cX2_mapHolds 28 = .ok (.aload_n 0, 1) := by decide +kernel
theorem dX2_mapHolds_29 : decode cX2_mapHolds 29 = .ok (.getfield 12, 3) := by decide +kernel
theorem dX2_mapHolds_32 : decode cX2_mapHolds 32 = .ok (.aload_n 0, 1) := by decide +kernel
theorem dX2_mapHolds_33 : decode cX2_mapHolds 33 = .ok (.getfield 22, 3) := by decide +kernel
theorem dX2_mapHolds_36 : decode cX2_mapHolds 36 = .ok (.iload_n 2, 1) := by decide +kernel
theorem dX2_mapHolds_37 : decode cX2_mapHolds 37 = .ok (.iaload, 1) := by decide +kernel
theorem dX2_mapHolds_38 : decode cX2_mapHolds 38 = .ok (.aload_n 0, 1) := by decide +kernel
theorem dX2_mapHolds_39 : decode cX2_mapHolds 39 = .ok (.getfield 22, 3) := by decide +kernel
theorem dX2_mapHolds_42 : decode cX2_mapHolds 42 = .ok (.iload_n 3, 1) := by decide +kernel
theorem dX2_mapHolds_43 : decode cX2_mapHolds 43 = .ok (.iaload, 1) := by decide +kernel
theorem dX2_mapHolds_44 : decode cX2_mapHolds 44 = .ok (.invokevirtual 72, 3) := by decide +kernel
theorem dX2_mapHolds_47 : decode cX2_mapHolds 47 = .ok (.aload_n 0, 1) := by decide +kernel
theorem dX2_mapHolds_48 : decode cX2_mapHolds 48 = .ok (.getfield 12, 3) := by decide +kernel
theorem dX2_mapHolds_51 : decode cX2_mapHolds 51 = .ok (.iload_n 2, 1) := by decide +kernel
theorem dX2_mapHolds_52 : decode cX2_mapHolds 52 = .ok (.iload_n 3, 1) := by decide +kernel
theorem dX2_mapHolds_53 : decode cX2_mapHolds 53 = .ok (.invokevirtual 72, 3) := by decide +kernel
theorem dX2_mapHolds_56 : decode cX2_mapHolds 56 = .ok (.isub, 1) := by decide +kernel
theorem dX2_mapHolds_57 : decode cX2_mapHolds 57 = .ok (.istore 4, 2) := by decide +kernel
theorem dX2_mapHolds_59 : decode cX2_mapHolds 59 = .ok (.iload 4, 2) := by decide +kernel
theorem dX2_mapHolds_61 : decode cX2_mapHolds 61 = .ok (.ifCond .gt 12, 3) := by decide +kernel
theorem dX2_mapHolds_64 : decode cX2_mapHolds 64 = .ok (.iload 4, 2) := by decide +kernel
theorem dX2_mapHolds_66 : decode cX2_mapHolds 66 = .ok (.ifCond .ge 9, 3) := by decide +kernel
theorem dX2_mapHolds_69 : decode cX2_mapHolds 69 = .ok (.iload_n 1, 1) := by decide +kernel
theorem dX2_mapHolds_70 : decode cX2_mapHolds 70 = .ok (.ifCond .ne 5, 3) := by decide +kernel
theorem dX2_mapHolds_73 : decode cX2_mapHolds 73 = .ok (.iconst 0, 1) := by decide +kernel
theorem dX2_mapHolds_74 : decode cX2_mapHolds 74 = .ok (.ireturn, 1) := by decide +kernel
theorem dX2_mapHolds_75 : decode cX2_mapHolds 75 = .ok (.iinc 3 1, 3) := by decide +kernel
theorem dX2_mapHolds_78 : decode cX2_mapHolds 78 = .ok (.goto (-61), 3) := by decide +kernel
theorem dX2_mapHolds_81 : decode cX2_mapHolds 81 = .ok (.iinc 2 1, 3) := by decide +kernel
theorem dX2_mapHolds_84 : decode cX2_mapHolds 84 = .ok (.goto (-82), 3) := by decide +kernel
theorem dX2_mapHolds_87 : decode cX2_mapHolds 87 = .ok (.iconst 1, 1) := by decide +kernel
theorem dX2_mapHolds_88 : decode cX2_mapHolds 88 = .ok (.ireturn, 1) := by decide +kernel
set_option maxRecDepth 20000 in
theorem ggX2_isAsSeen_X1_cell : GoodIn wsX2_isAsSeen wsX1_cell := goodIn_r _ [7, 8, 9, 42, 43, 44] (by decide +kernel) (by decide +kernel)
set_option maxRecDepth 20000 in
theorem gX2_isAsSeen_X1_cell : GoodIn wsX2_isAsSeen (wsV RX2 98 RX1 yX1_cell wsX1_cell) := goodIn_app (goodIn_of _ (by decide +kernel)) ggX2_isAsSeen_X1_cell
set_option maxRecDepth 20000 in
theorem ggX2_isAsSeen_X4_isSplit : GoodIn wsX2_isAsSeen wsX4_isSplit := goodIn_r _ [14, 15, 45, 46] (by decide +kernel) (by decide +kernel)
set_option maxRecDepth 20000 in
theorem gX2_isAsSeen_X4_isSplit : GoodIn wsX2_isAsSeen (wsV RX2 101 RX4 yX4_isSplit wsX4_isSplit) := goodIn_app (goodIn_of _ (by decide +kernel)) ggX2_isAsSeen_X4_isSplit
set_option maxRecDepth 20000 in
theorem ggX2_isAsSeen_X4_weightOf : GoodIn wsX2_isAsSeen wsX4_weightOf := goodIn_r _ [19, 15, 20, 21, 22, 23, 24, 25, 26, 13, 27, 28, 29, 30, 31, 32, 33, 34, 35, 45, 46] (by decide +kernel) (by decide +kernel)
set_option maxRecDepth 20000 in
theorem gX2_isAsSeen_X4_weightOf : GoodIn wsX2_isAsSeen (wsV RX2 104 RX4 yX4_weightOf wsX4_weightOf) := goodIn_app (goodIn_of _ (by decide +kernel)) ggX2_isAsSeen_X4_weightOf
theorem dX2_isAsSeen_0 : decode cX2_isAsSeen 0 = .ok (.iconst 0, 1) := by decide +kernel
theorem dX2_isAsSeen_1 : decode cX2_isAsSeen 1 = .ok (.istore_n 2, 1) := by decide +kernel
theorem dX2_isAsSeen_2 : decode cX2_isAsSeen 2 = .ok (.iload_n 2, 1) := by decide +kernel
theorem dX2_isAsSeen_3 : decode cX2_isAsSeen 3 = .ok (.aload_n 0, 1) := by decide +kernel
theorem dX2_isAsSeen_4 : decode cX2_isAsSeen 4 = .ok (.getfield 30, 3) := by decide +kernel
theorem dX2_isAsSeen_7 : decode cX2_isAsSeen 7 = .ok (.getfield 95, 3) := by decide +kernel
theorem dX2_isAsSeen_10 : decode cX2_isAsSeen 10 = .ok (.if_icmp .ge 46, 3) := by decide +kernel
theorem dX2_isAsSeen_13 : decode cX2_isAsSeen 13 = .ok (.aload_n 0, 1) := by decide +kernel
theorem dX2_isAsSeen_14 : decode cX2_isAsSeen 14 = .ok (.getfield 30, 3) := by decide +kernel
theorem dX2_isAsSeen_17 : decode cX2_isAsSeen 17 = .ok (.iload_n 2, 1) := by decide +kernel
theorem dX2_isAsSeen_18 : decode cX2_isAsSeen 18 = .ok (.iconst 0, 1) := by decide +kernel
theorem dX2_isAsSeen_19 : decode cX2_isAsSeen 19 = .ok (.invokevirtual 98, 3) := by decide +kernel
theorem dX2_isAsSeen_22 : decode cX2_isAsSeen 22 = .ok (.istore_n 3, 1) := by decide +kernel
theorem dX2_isAsSeen_23 : decode cX2_isAsSeen 23 = .ok (.aload_n 1, 1) := by decide +kernel
theorem dX2_isAsSeen_24 : decode cX2_isAsSeen 24 = .ok (.iload_n 3, 1) := by decide +kernel
theorem dX2_isAsSeen_25 : decode cX2_isAsSeen 25 = .ok (.invokevirtual 101, 3) := by decide +kernel
theorem dX2_isAsSeen_28 : decode cX2_isAsSeen 28 = .ok (.ifCond .eq 20, 3) := by decide +kernel
theorem dX2_isAsSeen_31 : decode cX2_isAsSeen 31 = .ok (.aload_n 1, 1) := by decide +kernel
theorem dX2_isAsSeen_32 : decode cX2_isAsSeen 32 = .ok (.iload_n 3, 1) := by decide +kernel
theorem dX2_isAsSeen_33 : decode cX2_isAsSeen 33 = .ok (.invokevirtual 104, 3) := by decide +kernel
theorem dX2_isAsSeen_36 : decode cX2_isAsSeen 36 = .ok (.aload_n 0, 1) := by decide +kernel
theorem dX2_isAsSeen_37 : decode cX2_isAsSeen 37 = .ok (.getfield 30, 3) := by decide +kernel
theorem dX2_isAsSeen_40 : decode cX2_isAsSeen 40 = .ok (.iload_n 2, 1) := by decide +kernel
theorem dX2_isAsSeen_41 : decode cX2_isAsSeen 41 = .ok (.iconst 1, 1) := by decide +kernel
theorem dX2_isAsSeen_42 : decode cX2_isAsSeen 42 = .ok (.invokevirtual 98, 3) := by decide +kernel
theorem dX2_isAsSeen_45 : decode cX2_isAsSeen 45 = .ok (.if_icmp .eq 5, 3) := by decide +kernel
theorem dX2_isAsSeen_48 : decode cX2_isAsSeen 48 = .ok (.iconst 0, 1) := by decide +kernel
theorem dX2_isAsSeen_49 : decode cX2_isAsSeen 49 = .ok (.ireturn, 1) := by decide +kernel
theorem dX2_isAsSeen_50 : decode cX2_isAsSeen 50 = .ok (.iinc 2 1, 3) := by decide +kernel
theorem dX2_isAsSeen_53 : decode cX2_isAsSeen 53 = .ok (.goto (-51), 3) := by decide +kernel
theorem dX2_isAsSeen_56 : decode cX2_isAsSeen 56 = .ok (.iconst 1, 1) := by decide +kernel
theorem dX2_isAsSeen_57 : decode cX2_isAsSeen 57 = .ok (.ireturn, 1) := by decide +kernel
set_option maxRecDepth 20000 in
theorem ggX2_happenTo_X1_cell : GoodIn wsX2_happenTo wsX1_cell := goodIn_r _ [7, 8, 9, 53, 54, 55] (by decide +kernel) (by decide +kernel)
set_option maxRecDepth 20000 in
theorem gX2_happenTo_X1_cell : GoodIn wsX2_happenTo (wsV RX2 98 RX1 yX1_cell wsX1_cell) := goodIn_app (goodIn_of _ (by decide +kernel)) ggX2_happenTo_X1_cell
set_option maxRecDepth 20000 in
theorem ggX2_happenTo_X2_moveAway : GoodIn wsX2_happenTo wsX2_moveAway := goodIn_r _ [13, 14, 15, 16, 17, 18, 19, 20, 21, 22, 23, 24, 25, 26, 27, 28, 29, 30, 31, 32, 33, 56, 57] (by decide +kernel) (by decide +kernel)
set_option maxRecDepth 20000 in
theorem gX2_happenTo_X2_moveAway : GoodIn wsX2_happenTo (va_wsS RX2 108 yX2_moveAway wsX2_moveAway) := goodIn_app (goodIn_of _ (by decide +kernel)) ggX2_happenTo_X2_moveAway
set_option maxRecDepth 20000 in
theorem ggX2_happenTo_X2_drawTogether : GoodIn wsX2_happenTo wsX2_drawTogether := goodIn_r _ [36, 14, 37, 38, 17, 39, 19, 20, 21, 22, 23, 24, 25, 26, 27, 28, 29, 30, 31, 32, 33, 56, 57] (by decide +kernel) (by decide +kernel)
set_option maxRecDepth 20000 in
theorem gX2_happenTo_X2_drawTogether : GoodIn wsX2_happenTo (va_wsS RX2 112 yX2_drawTogether wsX2_drawTogether) := goodIn_app (goodIn_of _ (by decide +kernel)) ggX2_happenTo_X2_drawTogether
set_option maxRecDepth 20000 in
theorem ggX2_happenTo_X4_takeShortWays : GoodIn wsX2_happenTo wsX4_takeShortWays := goodIn_r _ [43, 24, 44, 16, 17, 18, 45, 20, 21, 22, 23, 25, 46, 27, 28, 29, 30, 31, 32, 33, 56, 57] (by decide +kernel) (by decide +kernel)
set_option maxRecDepth 20000 in
theorem gX2_happenTo_X4_takeShortWays : GoodIn wsX2_happenTo (wsV RX2 115 RX4 yX4_takeShortWays wsX4_takeShortWays) := goodIn_app (goodIn_of _ (by decide +kernel)) ggX2_happenTo_X4_takeShortWays
theorem dX2_happenTo_0 : decode cX2_happenTo 0 = .ok (.iconst 0, 1) := by decide +kernel
theorem dX2_happenTo_1 : decode cX2_happenTo 1 = .ok (.istore_n 2, 1) := by decide +kernel
theorem dX2_happenTo_2 : decode cX2_happenTo 2 = .ok (.iload_n 2, 1) := by decide +kernel
theorem dX2_happenTo_3 : decode cX2_happenTo 3 = .ok (.aload_n 0, 1) := by decide +kernel
theorem dX2_happenTo_4 : decode cX2_happenTo 4 = .ok (.getfield 34, 3) := by decide +kernel
theorem dX2_happenTo_7 : decode cX2_happenTo 7 = .ok (.getfield 95, 3) := by decide +kernel
theorem dX2_happenTo_10 : decode cX2_happenTo 10 = .ok (.if_icmp .ge 76, 3) := by decide +kernel
theorem dX2_happenTo_13 : decode cX2_happenTo 13 = .ok (.aload_n 0, 1) := by decide +kernel
theorem dX2_happenTo_14 : decode cX2_happenTo 14 = .ok (.getfield 34, 3) := by decide +kernel
theorem dX2_happenTo_17 : decode cX2_happenTo 17 = .ok (.iload_n 2, 1) := by decide +kernel
theorem dX2_happenTo_18 : decode cX2_happenTo 18 = .ok (.iconst 1, 1) := by decide +kernel
theorem dX2_happenTo_19 : decode cX2_happenTo 19 = .ok (.invokevirtual 98, 3) := by decide +kernel
theorem dX2_happenTo_22 : decode cX2_happenTo 22 = .ok (.istore_n 3, 1) := by decide +kernel
theorem dX2_happenTo_23 : decode cX2_happenTo 23 = .ok (.aload_n 0, 1) := by decide +kernel
theorem dX2_happenTo_24 : decode cX2_happenTo 24 = .ok (.getfield 34, 3) := by decide +kernel
theorem dX2_happenTo_27 : decode cX2_happenTo 27 = .ok (.iload_n 2, 1) := by decide +kernel
theorem dX2_happenTo_28 : decode cX2_happenTo 28 = .ok (.iconst 0, 1) := by decide +kernel
theorem dX2_happenTo_29 : decode cX2_happenTo 29 = .ok (.invokevirtual 98, 3) := by decide +kernel
theorem dX2_happenTo_32 : decode cX2_happenTo 32 = .ok (.lookupswitch 44 #[(0, 28), (1, 36)], 28) := by decide +kernel
theorem dX2_happenTo_60 : decode cX2_happenTo 60 = .ok (.aload_n 1, 1) := by decide +kernel
theorem dX2_happenTo_61 : decode cX2_happenTo 61 = .ok (.iload_n 3, 1) := by decide +kernel
theorem dX2_happenTo_62 : decode cX2_happenTo 62 = .ok (.invokestatic 108, 3) := by decide +kernel
theorem dX2_happenTo_65 : decode cX2_happenTo 65 = .ok (.goto 15, 3) := by decide +kernel
theorem dX2_happenTo_68 : decode cX2_happenTo 68 = .ok (.aload_n 1, 1) := by decide +kernel
theorem dX2_happenTo_69 : decode cX2_happenTo 69 = .ok (.iload_n 3, 1) := by decide +kernel
theorem dX2_happenTo_70 : decode cX2_happenTo 70 = .ok (.invokestatic 112, 3) := by decide +kernel
theorem dX2_happenTo_73 : decode cX2_happenTo 73 = .ok (.goto 7, 3) := by decide +kernel
theorem dX2_happenTo_76 : decode cX2_happenTo 76 = .ok (.aload_n 1, 1) := by decide +kernel
theorem dX2_happenTo_77 : decode cX2_happenTo 77 = .ok (.invokevirtual 115, 3) := by decide +kernel
theorem dX2_happenTo_80 : decode cX2_happenTo 80 = .ok (.iinc 2 1, 3) := by decide +kernel
theorem dX2_happenTo_83 : decode cX2_happenTo 83 = .ok (.goto (-81), 3) := by decide +kernel
theorem dX2_happenTo_86 : decode cX2_happenTo 86 = .ok (.return_, 1) := by decide +kernel
set_option maxRecDepth 20000 in
theorem ggX2_moveAway_X4_gap : GoodIn wsX2_moveAway wsX4_gap := goodIn_r _ [10, 11, 12, 21, 22] (by decide +kernel) (by decide +kernel)
set_option maxRecDepth 20000 in
theorem gX2_moveAway_X4_gap : GoodIn wsX2_moveAway (wsV RX2 72 RX4 yX4_gap wsX4_gap) := goodIn_app (goodIn_of _ (by decide +kernel)) ggX2_moveAway_X4_gap
set_option maxRecDepth 20000 in
theorem ggX2_moveAway_X4_put : GoodIn wsX2_moveAway wsX4_put := goodIn_r _ [16, 12, 17, 18, 19, 9, 20, 11, 21, 22] (by decide +kernel) (by decide +kernel)
set_option maxRecDepth 20000 in
theorem gX2_moveAway_X4_put : GoodIn wsX2_moveAway (wsV RX2 64 RX4 yX4_put wsX4_put) := goodIn_app (goodIn_of _ (by decide +kernel)) ggX2_moveAway_X4_put
theorem dX2_moveAway_0 : decode cX2_moveAway 0 = .ok (.iconst 0, 1) := by decide +kernel
theorem dX2_moveAway_1 : decode cX2_moveAway 1 = .ok (.istore_n 2, 1) := by decide +kernel
theorem dX2_moveAway_2 : decode cX2_moveAway 2 = .ok (.iload_n 2, 1) := by decide +kernel
theorem dX2_moveAway_3 : decode cX2_moveAway 3 = .ok (.aload_n 0, 1) := by decide +kernel
theorem dX2_moveAway_4 : decode cX2_moveAway 4 = .ok (.getfield 68, 3) := by decide +kernel
theorem dX2_moveAway_7 : decode cX2_moveAway 7 = .ok (.if_icmp .ge 28, 3) := by decide +kernel
theorem dX2_moveAway_10 : decode cX2_moveAway 10 = .ok (.aload_n 0, 1) := by decide +kernel
theorem dX2_moveAway_11 : decode cX2_moveAway 11 = .ok (.iload_n 1, 1) := by decide +kernel
theorem dX2_moveAway_12 : decode cX2_moveAway 12 = .ok (.iload_n 2, 1) := by decide +kernel
theorem dX2_moveAway_13 : decode cX2_moveAway 13 = .ok (.bipush 40, 2) := by decide +kernel
theorem dX2_moveAway_15 : decode cX2_moveAway 15 = .ok (.aload_n 0, 1) := by decide +kernel
theorem dX2_moveAway_16 : decode cX2_moveAway 16 = .ok (.iload_n 1, 1) := by decide +kernel
theorem dX2_moveAway_17 : decode cX2_moveAway 17 = .ok (.iload_n 2, 1) := by decide +kernel
theorem dX2_moveAway_18 : decode cX2_moveAway 18 = .ok (.invokevirtual 72, 3) := by decide +kernel
theorem dX2_moveAway_21 : decode cX2_moveAway 21 = .ok (.iconst 1, 1) := by decide +kernel
theorem dX2_moveAway_22 : decode cX2_moveAway 22 = .ok (.iadd, 1) := by decide +kernel
theorem dX2_moveAway_23 : decode cX2_moveAway 23 = .ok (.invokestatic 76, 3) := by decide +kernel
theorem dX2_moveAway_26 : decode cX2_moveAway 26 = .ok (.invokevirtual 64, 3) := by decide +kernel
theorem dX2_moveAway_29 : decode cX2_moveAway 29 = .ok (.iinc 2 1, 3) := by decide +kernel
theorem dX2_moveAway_32 : decode cX2_moveAway 32 = .ok (.goto (-30), 3) := by decide +kernel
theorem dX2_moveAway_35 : decode cX2_moveAway 35 = .ok (.return_, 1) := by decide +kernel
set_option maxRecDepth 20000 in
theorem ggX2_drawTogether_X4_gap : GoodIn wsX2_drawTogether wsX4_gap := goodIn_r _ [10, 11, 12, 21, 22] (by decide +kernel) (by decide +kernel)
set_option maxRecDepth 20000 in
theorem gX2_drawTogether_X4_gap : GoodIn wsX2_drawTogether (wsV RX2 72 RX4 yX4_gap wsX4_gap) := goodIn_app (goodIn_of _ (by decide +kernel)) ggX2_drawTogether_X4_gap
set_option maxRecDepth 20000 in
theorem ggX2_drawTogether_X4_put : GoodIn wsX2_drawTogether wsX4_put := goodIn_r _ [16, 12, 17, 18, 19, 9, 20, 11, 21, 22] (by decide +kernel) (by decide +kernel)
set_option maxRecDepth 20000 in
theorem gX2_drawTogether_X4_put : GoodIn wsX2_drawTogether (wsV RX2 64 RX4 yX4_put wsX4_put) := goodIn_app (goodIn_of _ (by decide +kernel)) ggX2_drawTogether_X4_put
theorem dX2_drawTogether_0 : decode cX2_drawTogether 0 = .ok (.iconst 0, 1) := by decide +kernel
theorem dX2_drawTogether_1 : decode cX2_drawTogether 1 = .ok (.istore_n 2, 1) := by decide +kernel
theorem dX2_drawTogether_2 : decode cX2_drawTogether 2 = .ok (.iload_n 2, 1) := by decide +kernel
theorem dX2_drawTogether_3 : decode cX2_drawTogether 3 = .ok (.aload_n 0, 1) := by decide +kernel
theorem dX2_drawTogether_4 : decode cX2_drawTogether 4 = .ok (.getfield 68, 3) := by decide +kernel
theorem dX2_drawTogether_7 : decode cX2_drawTogether 7 = .ok (.if_icmp .ge 45, 3) := by decide +kernel
theorem dX2_drawTogether_10 : decode cX2_drawTogether 10 = .ok (.iload_n 2, 1) := by decide +kernel
theorem dX2_drawTogether_11 : decode cX2_drawTogether 11 = .ok (.iconst 1, 1) := by decide +kernel
theorem dX2_drawTogether_12 : decode cX2_drawTogether 12 = .ok (.iadd, 1) := by decide +kernel
theorem dX2_drawTogether_13 : decode cX2_drawTogether 13 = .ok (.istore_n 3, 1) := by decide +kernel
theorem dX2_drawTogether_14 : decode cX2_drawTogether 14 = .ok (.iload_n 3, 1) := by decide +kernel
theorem dX2_drawTogether_15 : decode cX2_drawTogether 15 = .ok (.aload_n 0, 1) := by decide +kernel
theorem dX2_drawTogether_16 : decode cX2_drawTogether 16 = .ok (.getfield 68, 3) := by decide +kernel
theorem dX2_drawTogether_19 : decode cX2_drawTogether 19 = .ok (.if_icmp .ge 27, 3) := by decide +kernel
theorem dX2_drawTogether_22 : decode cX2_drawTogether 22 = .ok (.aload_n 0, 1) := by decide +kernel
theorem dX2_drawTogether_23 : decode cX2_drawTogether 23 = .ok (.iload_n 2, 1) := by decide +kernel
theorem dX2_drawTogether_24 : decode cX2_drawTogether 24 = .ok (.iload_n 3, 1) := by decide +kernel
theorem dX2_drawTogether_25 : decode cX2_drawTogether 25 = .ok (.iconst 0, 1) := by decide +kernel
theorem dX2_drawTogether_26 : decode cX2_drawTogether 26 = .ok (.aload_n 0, 1) := by decide +kernel
theorem dX2_drawTogether_27 : decode cX2_drawTogether 27 = .ok (.iload_n 2, 1) := by decide +kernel
theorem dX2_drawTogether_28 : decode cX2_drawTogether 28 = .ok (.iload_n 3, 1) := by decide +kernel
theorem dX2_drawTogether_29 : decode cX2_drawTogether 29 = .ok (.invokevirtual 72, 3) := by decide +kernel
theorem dX2_drawTogether_32 : decode cX2_drawTogether 32 = .ok (.iload_n 1, 1) := by decide +kernel
theorem dX2_drawTogether_33 : decode cX2_drawTogether 33 = .ok (.isub, 1) := by decide +kernel
theorem dX2_drawTogether_34 : decode cX2_drawTogether 34 = .ok (.invokestatic 118, 3) := by decide +kernel
theorem dX2_drawTogether_37 : decode cX2_drawTogether 37 = .ok (.invokevirtual 64, 3) := by decide +kernel
theorem dX2_drawTogether_40 : decode cX2_drawTogether 40 = .ok (.iinc 3 1, 3) := by decide +kernel
theorem dX2_drawTogether_43 : decode cX2_drawTogether 43 = .ok (.goto (-29), 3) := by decide +kernel
theorem dX2_drawTogether_46 : decode cX2_drawTogether 46 = .ok (.iinc 2 1, 3) := by decide +kernel
theorem dX2_drawTogether_49 : decode cX2_drawTogether 49 = .ok (.goto (-47), 3) := by decide +kernel
theorem dX2_drawTogether_52 : decode cX2_drawTogether 52 = .ok (.return_, 1) := by decide +kernel
set_option maxRecDepth 20000 in
theorem ggX2_firstWrongInBook_X1_cell : GoodIn wsX2_firstWrongInBook wsX1_cell := goodIn_r _ [8, 9, 10, 28, 29, 30] (by decide +kernel) (by decide +kernel)
set_option maxRecDepth 20000 in
theorem gX2_firstWrongInBook_X1_cell : GoodIn wsX2_firstWrongInBook (wsV RX2 98 RX1 yX1_cell wsX1_cell) := goodIn_app (goodIn_of _ (by decide +kernel)) ggX2_firstWrongInBook_X1_cell
set_option maxRecDepth 20000 in
theorem ggX2_firstWrongInBook_X4_areTwo : GoodIn wsX2_firstWrongInBook wsX4_areTwo := goodIn_r _ [15, 16, 31, 32] (by decide +kernel) (by decide +kernel)
set_option maxRecDepth 20000 in
theorem gX2_firstWrongInBook_X4_areTwo : GoodIn wsX2_firstWrongInBook (wsV RX2 60 RX4 yX4_areTwo wsX4_areTwo) := goodIn_app (goodIn_of _ (by decide +kernel)) ggX2_firstWrongInBook_X4_areTwo
set_option maxRecDepth 20000 in
theorem ggX2_firstWrongInBook_X4_gap : GoodIn wsX2_firstWrongInBook wsX4_gap := goodIn_r _ [20, 16, 21, 31, 32] (by decide +kernel) (by decide +kernel)
set_option maxRecDepth 20000 in
theorem gX2_firstWrongInBook_X4_gap : GoodIn wsX2_firstWrongInBook (wsV RX2 72 RX4 yX4_gap wsX4_gap) := goodIn_app (goodIn_of _ (by decide +kernel)) ggX2_firstWrongInBook_X4_gap
theorem dX2_firstWrongInBook_0 : decode cX2_firstWrongInBook 0 = .ok (.iconst 0, 1) := by decide +kernel
theorem dX2_firstWrongInBook_1 : decode cX2_firstWrongInBook 1 = .ok (.istore_n 1, 1) := by decide +kernel
theorem dX2_firstWrongInBook_2 : decode cX2_firstWrongInBook 2 = .ok (.iload_n 1, 1) := by decide +kernel
theorem dX2_firstWrongInBook_3 : decode cX2_firstWrongInBook 3 = .ok (.aload_n 0, 1) := by decide +kernel
theorem dX2_firstWrongInBook_4 : decode cX2_firstWrongInBook 4 = .ok (.getfield 37, 3) := by decide +kernel
theorem dX2_firstWrongInBook_7 : decode cX2_firstWrongInBook 7 = .ok (.getfield 95, 3) := by decide +kernel
theorem dX2_firstWrongInBook_10 : decode cX2_firstWrongInBook 10 = .ok (.if_icmp .ge 64, 3) := by decide +kernel
theorem dX2_firstWrongInBook_13 : decode cX2_firstWrongInBook 13 = .ok (.aload_n 0, 1) := by decide +kernel
theorem dX2_firstWrongInBook_14 : decode cX2_firstWrongInBook 14 = .ok (.getfield 37, 3) := by decide +kernel
theorem dX2_firstWrongInBook_17 : decode cX2_firstWrongInBook 17 = .ok (.iload_n 1, 1) := by decide +kernel
theorem dX2_firstWrongInBook_18 : decode cX2_firstWrongInBook 18 = .ok (.iconst 0, 1) := by decide +kernel
theorem dX2_firstWrongInBook_19 : decode cX2_firstWrongInBook 19 = .ok (.invokevirtual 98, 3) := by decide +kernel
theorem dX2_firstWrongInBook_22 : decode cX2_firstWrongInBook 22 = .ok (.istore_n 2, 1) := by decide +kernel
theorem dX2_firstWrongInBook_23 : decode cX2_firstWrongInBook 23 = .ok (.aload_n 0, 1) := by decide +kernel
theorem dX2_firstWrongInBook_24 : decode cX2_firstWrongInBook 24 = .ok (.getfield 37, 3) := by decide +kernel
theorem dX2_firstWrongInBook_27 : decode cX2_firstWrongInBook 27 = .ok (.iload_n 1, 1) := by decide +kernel
theorem dX2_firstWrongInBook_28 : decode cX2_firstWrongInBook 28 = .ok (.iconst 1, 1) := by decide +kernel
theorem dX2_firstWrongInBook_29 : decode cX2_firstWrongInBook 29 = .ok (.invokevirtual 98, 3) := by decide +kernel
theorem dX2_firstWrongInBook_32 : decode cX2_firstWrongInBook 32 = .ok (.istore_n 3, 1) := by decide +kernel
theorem dX2_firstWrongInBook_33 : decode cX2_firstWrongInBook 33 = .ok (.aload_n 0, 1) := by decide +kernel
theorem dX2_firstWrongInBook_34 : decode cX2_firstWrongInBook 34 = .ok (.getfield 12, 3) := by decide +kernel
theorem dX2_firstWrongInBook_37 : decode cX2_firstWrongInBook 37 = .ok (.iload_n 2, 1) := by decide +kernel
theorem dX2_firstWrongInBook_38 : decode cX2_firstWrongInBook 38 = .ok (.iload_n 3, 1) := by decide +kernel
theorem dX2_firstWrongInBook_39 : decode cX2_firstWrongInBook 39 = .ok (.invokevirtual 60, 3) := by decide +kernel
theorem dX2_firstWrongInBook_42 : decode cX2_firstWrongInBook 42 = .ok (.ifCond .eq 24, 3) := by decide +kernel
theorem dX2_firstWrongInBook_45 : decode cX2_firstWrongInBook 45 = .ok (.aload_n 0, 1) := by decide +kernel
theorem dX2_firstWrongInBook_46 : decode cX2_firstWrongInBook 46 = .ok (.getfield 12, 3) := by decide +kernel
theorem dX2_firstWrongInBook_49 : decode cX2_firstWrongInBook 49 = .ok (.iload_n 2, 1) := by decide +kernel
theorem dX2_firstWrongInBook_50 : decode cX2_firstWrongInBook 50 = .ok (.iload_n 3, 1) := by decide +kernel
theorem dX2_firstWrongInBook_51 : decode cX2_firstWrongInBook 51 = .ok (.invokevirtual 72, 3) := by decide +kernel
theorem dX2_firstWrongInBook_54 : decode cX2_firstWrongInBook 54 = .ok (.aload_n 0, 1) := by decide +kernel
theorem dX2_firstWrongInBook_55 : decode cX2_firstWrongInBook 55 = .ok (.getfield 37, 3) := by decide +kernel
theorem dX2_firstWrongInBook_58 : decode cX2_firstWrongInBook 58 = .ok (.iload_n 1, 1) := by decide +kernel
theorem dX2_firstWrongInBook_59 : decode cX2_firstWrongInBook 59 = .ok (.iconst 2, 1) := by decide +kernel
theorem dX2_firstWrongInBook_60 : decode cX2_firstWrongInBook 60 = .ok (.invokevirtual 98, 3) := by decide +kernel
theorem dX2_firstWrongInBook_63 : decode cX2_firstWrongInBook 63 = .ok (.if_icmp .eq 5, 3) := by decide +kernel
theorem dX2_firstWrongInBook_66 : decode cX2_firstWrongInBook 66 = .ok (.iload_n 1, 1) := by decide +kernel
theorem dX2_firstWrongInBook_67 : decode cX2_firstWrongInBook 67 = .ok (.ireturn, 1) := by decide +kernel
theorem dX2_firstWrongInBook_68 : decode cX2_firstWrongInBook 68 = .ok (.iinc 1 1, 3) := by decide +kernel
theorem dX2_firstWrongInBook_71 : decode cX2_firstWrongInBook 71 = .ok (.goto (-69), 3) := by decide +kernel
theorem dX2_firstWrongInBook_74 : decode cX2_firstWrongInBook 74 = .ok (.bipush (-5), 2) := by decide +kernel
theorem dX2_firstWrongInBook_76 : decode cX2_firstWrongInBook 76 = .ok (.ireturn, 1) := by decide +kernel
set_option maxRecDepth 20000 in
theorem ggX3_init_X4_init : GoodIn wsX3_init wsX4_init := goodIn_r _ [15, 16, 2, 3, 9, 17, 18, 19, 20, 6, 21, 22, 23, 24, 25, 26, 27, 28, 29, 30, 31, 32, 33, 34, 35, 36, 37, 38, 39] (by decide +kernel) (by decide +kernel)
set_option maxRecDepth 20000 in
theorem gX3_init_X4_init : GoodIn wsX3_init (wsX4_init) := ggX3_init_X4_init
theorem dX3_init_0 : decode cX3_init 0 = .ok (.aload_n 0, 1) := by decide +kernel
theorem dX3_init_1 : decode cX3_init 1 = .ok (.invokespecial 1, 3) := by decide +kernel
theorem dX3_init_4 : decode cX3_init 4 = .ok (.aload_n 0, 1) := by decide +kernel
theorem dX3_init_5 : decode cX3_init 5 = .ok (.new 7, 3) := by decide +kernel
theorem dX3_init_8 : decode cX3_init 8 = .ok (.dup, 1) := by decide +kernel
theorem dX3_init_9 : decode cX3_init 9 = .ok (.invokespecial 9, 3) := by decide +kernel
theorem dX3_init_12 : decode cX3_init 12 = .ok (.putfield 10, 3) := by decide +kernel
theorem dX3_init_15 : decode cX3_init 15 = .ok (.aload_n 0, 1) := by decide +kernel
theorem dX3_init_16 : decode cX3_init 16 = .ok (.iconst 0, 1) := by decide +kernel
theorem dX3_init_17 : decode cX3_init 17 = .ok (.putfield 16, 3) := by decide +kernel
theorem dX3_init_20 : decode cX3_init 20 = .ok (.aload_n 0, 1) := by decide +kernel
theorem dX3_init_21 : decode cX3_init 21 = .ok (.bipush 15, 2) := by decide +kernel
theorem dX3_init_23 : decode cX3_init 23 = .ok (.newarray .int, 2) := by decide +kernel
theorem dX3_init_25 : decode cX3_init 25 = .ok (.putfield 20, 3) := by decide +kernel
theorem dX3_init_28 : decode cX3_init 28 = .ok (.aload_n 0, 1) := by decide +kernel
theorem dX3_init_29 : decode cX3_init 29 = .ok (.bipush 15, 2) := by decide +kernel
theorem dX3_init_31 : decode cX3_init 31 = .ok (.newarray .int, 2) := by decide +kernel
theorem dX3_init_33 : decode cX3_init 33 = .ok (.putfield 24, 3) := by decide +kernel
theorem dX3_init_36 : decode cX3_init 36 = .ok (.aload_n 0, 1) := by decide +kernel
theorem dX3_init_37 : decode cX3_init 37 = .ok (.iconst 0, 1) := by decide +kernel
theorem dX3_init_38 : decode cX3_init 38 = .ok (.putfield 27, 3) := by decide +kernel
theorem dX3_init_41 : decode cX3_init 41 = .ok (.return_, 1) := by decide +kernel
set_option maxRecDepth 20000 in
theorem ggX3_follow_X4_isLike : GoodIn wsX3_follow wsX4_isLike := goodIn_r _ [9, 10, 11, 12, 13, 8, 14, 15, 16, 17, 18, 19, 55, 56] (by decide +kernel) (by decide +kernel)
set_option maxRecDepth 20000 in
theorem gX3_follow_X4_isLike : GoodIn wsX3_follow (wsV RX3 31 RX4 yX4_isLike wsX4_isLike) := goodIn_app (goodIn_of _ (by decide +kernel)) ggX3_follow_X4_isLike
set_option maxRecDepth 20000 in
theorem ggX3_follow_X4_become : GoodIn wsX3_follow wsX4_become := goodIn_r _ [23, 10, 19, 24, 25, 26, 27, 55, 56] (by decide +kernel) (by decide +kernel)
set_option maxRecDepth 20000 in
theorem gX3_follow_X4_become : GoodIn wsX3_follow (wsV RX3 35 RX4 yX4_become wsX4_become) := goodIn_app (goodIn_of _ (by decide +kernel)) ggX3_follow_X4_become
set_option maxRecDepth 20000 in
theorem ggX3_follow_X4_weightOf : GoodIn wsX3_follow wsX4_weightOf := goodIn_r _ [31, 10, 32, 33, 34, 35, 36, 37, 38, 8, 39, 40, 41, 42, 15, 16, 17, 18, 19, 55, 56] (by decide +kernel) (by decide +kernel)
set_option maxRecDepth 20000 in
theorem gX3_follow_X4_weightOf : GoodIn wsX3_follow (wsV RX3 42 RX4 yX4_weightOf wsX4_weightOf) := goodIn_app (goodIn_of _ (by decide +kernel)) ggX3_follow_X4_weightOf
set_option maxRecDepth 20000 in
theorem ggX3_follow_X3_insert : GoodIn wsX3_follow wsX3_insert := goodIn_r _ [47, 3, 48, 49, 50, 51, 52, 53, 54] (by decide +kernel) (by decide +kernel)
set_option maxRecDepth 20000 in
theorem gX3_follow_X3_insert : GoodIn wsX3_follow (wsV RX3 46 RX3 yX3_insert wsX3_insert) := goodIn_app (goodIn_of _ (by decide +kernel)) ggX3_follow_X3_insert
theorem dX3_follow_0 : decode cX3_follow 0 = .ok (.aload_n 0, 1) := by decide +kernel
theorem dX3_follow_1 : decode cX3_follow 1 = .ok (.getfield 16, 3) := by decide +kernel
theorem dX3_follow_4 : decode cX3_follow 4 = .ok (.ifCond .eq 15, 3) := by decide +kernel
theorem dX3_follow_7 : decode cX3_follow 7 = .ok (.aload_n 0, 1) := by decide +kernel
theorem dX3_follow_8 : decode cX3_follow 8 = .ok (.getfield 10, 3) := by decide +kernel
theorem dX3_follow_11 : decode cX3_follow 11 = .ok (.aload_n 1, 1) := by decide +kernel
theorem dX3_follow_12 : decode cX3_follow 12 = .ok (.invokevirtual 31, 3) := by decide +kernel
theorem dX3_follow_15 : decode cX3_follow 15 = .ok (.ifCond .eq 4, 3) := by decide +kernel
theorem dX3_follow_18 : decode cX3_follow 18 = .ok (.return_, 1) := by decide +kernel
theorem dX3_follow_19 : decode cX3_follow 19 = .ok (.aload_n 0, 1) := by decide +kernel
theorem dX3_follow_20 : decode cX3_follow 20 = .ok (.getfield 10, 3) := by decide +kernel
theorem dX3_follow_23 : decode cX3_follow 23 = .ok (.aload_n 1, 1) := by decide +kernel
theorem dX3_follow_24 : decode cX3_follow 24 = .ok (.invokevirtual 35, 3) := by decide +kernel
theorem dX3_follow_27 : decode cX3_follow 27 = .ok (.aload_n 0, 1) := by decide +kernel
theorem dX3_follow_28 : decode cX3_follow 28 = .ok (.iconst 1, 1) := by decide +kernel
theorem dX3_follow_29 : decode cX3_follow 29 = .ok (.putfield 16, 3) := by decide +kernel
theorem dX3_follow_32 : decode cX3_follow 32 = .ok (.aload_n 0, 1) := by decide +kernel
theorem dX3_follow_33 : decode cX3_follow 33 = .ok (.iconst 0, 1) := by decide +kernel
theorem dX3_follow_34 : decode cX3_follow 34 = .ok (.putfield 27, 3) := by decide +kernel
theorem dX3_follow_37 : decode cX3_follow 37 = .ok (.iconst 2, 1) := by decide +kernel
theorem dX3_follow_38 : decode cX3_follow 38 = .ok (.istore_n 2, 1) := by decide +kernel
theorem dX3_follow_39 : decode cX3_follow 39 = .ok (.iload_n 2, 1) := by decide +kernel
theorem dX3_follow_40 : decode cX3_follow 40 = .ok (.iconst 1, 1) := by decide +kernel
theorem dX3_follow_41 : decode cX3_follow 41 = .ok (.aload_n 0, 1) := by decide +kernel
theorem dX3_follow_42 : decode cX3_follow 42 = .ok (.getfield 10, 3) := by decide +kernel
theorem dX3_follow_45 : decode cX3_follow 45 = .ok (.getfield 39, 3) := by decide +kernel
theorem dX3_follow_48 : decode cX3_follow 48 = .ok (.ishl, 1) := by decide +kernel
theorem dX3_follow_49 : decode cX3_follow 49 = .ok (.if_icmp .ge 28, 3) := by decide +kernel
theorem dX3_follow_52 : decode cX3_follow 52 = .ok (.aload_n 0, 1) := by decide +kernel
theorem dX3_follow_53 : decode cX3_follow 53 = .ok (.getfield 10, 3) := by decide +kernel
theorem dX3_follow_56 : decode cX3_follow 56 = .ok (.iload_n 2, 1) := by decide +kernel
theorem dX3_follow_57 : decode cX3_follow 57 = .ok (.invokevirtual 42, 3) := by decide +kernel
theorem dX3_follow_60 : decode cX3_follow 60 = .ok (.istore_n 3, 1) := by decide +kernel
theorem dX3_follow_61 : decode cX3_follow 61 = .ok (.iload_n 3, 1) := by decide +kernel
theorem dX3_follow_62 : decode cX3_follow 62 = .ok (.ifCond .le 9, 3) := by decide +kernel
theorem dX3_follow_65 : decode cX3_follow 65 = .ok (.aload_n 0, 1) := by decide +kernel
theorem dX3_follow_66 : decode cX3_follow 66 = .ok (.iload_n 2, 1) := by decide +kernel
theorem dX3_follow_67 : decode cX3_follow 67 = .ok (.iload_n 3, 1) := by decide +kernel
theorem dX3_follow_68 : decode cX3_follow 68 = .ok (.invokevirtual 46, 3) := by decide +kernel
theorem dX3_follow_71 : decode cX3_follow 71 = .ok (.iinc 2 2, 3) := by decide +kernel
theorem dX3_follow_74 : decode cX3_follow 74 = .ok (.goto (-35), 3) := by decide +kernel
theorem dX3_follow_77 : decode cX3_follow 77 = .ok (.return_, 1) := by decide +kernel
theorem dX3_insert_0 : decode cX3_insert 0 = .ok (.aload_n 0, 1) := by decide +kernel
theorem dX3_insert_1 : decode cX3_insert 1 = .ok (.getfield 27, 3) := by decide +kernel
theorem dX3_insert_4 : decode cX3_insert 4 = .ok (.bipush 15, 2) := by decide +kernel
theorem dX3_insert_6 : decode cX3_insert 6 = .ok (.if_icmp .lt 4, 3) := by decide +kernel
theorem dX3_insert_9 : decode cX3_insert 9 = .ok (.return_, 1) := by decide +kernel
theorem dX3_insert_10 : decode cX3_insert 10 = .ok (.aload_n 0, 1) := by decide +kernel
theorem dX3_insert_11 : decode cX3_insert 11 = .ok (.getfield 27, 3) := by decide +kernel
theorem dX3_insert_14 : decode cX3_insert 14 = .ok (.istore_n 3, 1) := by decide +kernel
theorem dX3_insert_15 : decode cX3_insert 15 = .ok (.iload_n 3, 1) := by decide +kernel
theorem dX3_insert_16 : decode cX3_insert 16 = .ok (.ifCond .le 49, 3) := by decide +kernel
theorem dX3_insert_19 : decode cX3_insert 19 = .ok (.aload_n 0, 1) := by decide +kernel
theorem dX3_insert_20 : decode cX3_insert 20 = .ok (.getfield 24, 3) := by decide +kernel
theorem dX3_insert_23 : decode cX3_insert 23 = .ok (.iload_n 3, 1) := by decide +kernel
theorem dX3_insert_24 : decode cX3_insert 24 = .ok (.iconst 1, 1) := by decide +kernel
theorem dX3_insert_25 : decode cX3_insert 25 = .ok (.isub, 1) := by decide +kernel
theorem dX3_insert_26 : decode cX3_insert 26 = .ok (.iaload, 1) := by decide +kernel
theorem dX3_insert_27 : decode cX3_insert 27 = .ok (.iload_n 2, 1) := by decide +kernel
theorem dX3_insert_28 : decode cX3_insert 28 = .ok (.if_icmp .ge 37, 3) := by decide +kernel
theorem dX3_insert_31 : decode cX3_insert 31 = .ok (.aload_n 0, 1) := by decide +kernel
theorem dX3_insert_32 : decode cX3_insert 32 = .ok (.getfield 20, 3) := by decide +kernel
theorem dX3_insert_35 : decode cX3_insert 35 = .ok (.iload_n 3, 1) := by decide +kernel
theorem dX3_insert_36 : decode cX3_insert 36 = .ok (.aload_n 0, 1) := by decide +kernel
theorem dX3_insert_37 : decode cX3_insert 37 = .ok (.getfield 20, 3) := by decide +kernel
theorem dX3_insert_40 : decode cX3_insert 40 = .ok (.iload_n 3, 1) := by decide +kernel
theorem dX3_insert_41 : decode cX3_insert 41 = .ok (.iconst 1, 1) := by decide +kernel
theorem dX3_insert_42 : decode cX3_insert 42 = .ok (.isub, 1) := by decide +kernel
theorem dX3_insert_43 : decode cX3_insert 43 = .ok (.iaload, 1) := by decide +kernel
theorem dX3_insert_44 : decode cX3_insert 44 = .ok (.iastore, 1) := by decide +kernel
theorem dX3_insert_45 : decode cX3_insert 45 = .ok (.aload_n 0, 1) := by decide +kernel
theorem dX3_insert_46 : decode cX3_insert 46 = .ok (.getfield 24, 3) := by decide +kernel
theorem dX3_insert_49 : decode cX3_insert 49 = .ok (.iload_n 3, 1) := by decide +kernel
theorem dX3_insert_50 : decode cX3_insert 50 = .ok (.aload_n 0, 1) := by decide +kernel
theorem dX3_insert_51 : decode cX3_insert 51 = .ok (.getfield 24, 3) := by decide +kernel
theorem dX3_insert_54 : decode cX3_insert 54 = .ok (.iload_n 3, 1) := by decide +kernel
theorem dX3_insert_55 : decode cX3_insert 55 = .ok (.iconst 1, 1) := by decide +kernel
theorem dX3_insert_56 : decode cX3_insert 56 = .ok (.isub, 1) := by decide +kernel
theorem dX3_insert_57 : decode cX3_insert 57 = .ok (.iaload, 1) := by decide +kernel
theorem dX3_insert_58 : decode cX3_insert 58 = .ok (.iastore, 1) := by decide +kernel
theorem dX3_insert_59 : decode cX3_insert 59 = .ok (.iinc 3 (-1), 3) := by decide +kernel
theorem dX3_insert_62 : decode cX3_insert 62 = .ok (.goto (-47), 3) := by decide +kernel
theorem dX3_insert_65 : decode cX3_insert 65 = .ok (.aload_n 0, 1) := by decide +kernel
theorem dX3_insert_66 : decode cX3_insert 66 = .ok (.getfield 20, 3) := by decide +kernel
theorem dX3_insert_69 : decode cX3_insert 69 = .ok (.iload_n 3, 1) := by decide +kernel
theorem dX3_insert_70 : decode cX3_insert 70 = .ok (.iload_n 1, 1) := by decide +kernel
theorem dX3_insert_71 : decode cX3_insert 71 = .ok (.iastore, 1) := by decide +kernel
theorem dX3_insert_72 : decode cX3_insert 72 = .ok (.aload_n 0, 1) := by decide +kernel
theorem dX3_insert_73 : decode cX3_insert 73 = .ok (.getfield 24, 3) := by decide +kernel
theorem dX3_insert_76 : decode cX3_insert 76 = .ok (.iload_n 3, 1) := by decide +kernel
theorem dX3_insert_77 : decode cX3_insert 77 = .ok (.iload_n 2, 1) := by decide +kernel
theorem dX3_insert_78 : decode cX3_insert 78 = .ok (.iastore, 1) := by decide +kernel
theorem dX3_insert_79 : decode cX3_insert 79 = .ok (.aload_n 0, 1) := by decide +kernel
theorem dX3_insert_80 : decode cX3_insert 80 = .ok (.dup, 1) := by decide +kernel
theorem dX3_insert_81 : decode cX3_insert 81 = .ok (.getfield 27, 3) := by decide +kernel
theorem dX3_insert_84 : decode cX3_insert 84 = .ok (.iconst 1, 1) := by decide +kernel
theorem dX3_insert_85 : decode cX3_insert 85 = .ok (.iadd, 1) := by decide +kernel
theorem dX3_insert_86 : decode cX3_insert 86 = .ok (.putfield 27, 3) := by decide +kernel
theorem dX3_insert_89 : decode cX3_insert 89 = .ok (.return_, 1) := by decide +kernel
theorem dX3_parts_0 : decode cX3_parts 0 = .ok (.aload_n 0, 1) := by decide +kernel
theorem dX3_parts_1 : decode cX3_parts 1 = .ok (.getfield 20, 3) := by decide +kernel
theorem dX3_parts_4 : decode cX3_parts 4 = .ok (.iload_n 1, 1) := by decide +kernel
theorem dX3_parts_5 : decode cX3_parts 5 = .ok (.iaload, 1) := by decide +kernel
theorem dX3_parts_6 : decode cX3_parts 6 = .ok (.iload_n 2, 1) := by decide +kernel
theorem dX3_parts_7 : decode cX3_parts 7 = .ok (.ishr, 1) := by decide +kernel
theorem dX3_parts_8 : decode cX3_parts 8 = .ok (.iconst 1, 1) := by decide +kernel
theorem dX3_parts_9 : decode cX3_parts 9 = .ok (.iand, 1) := by decide +kernel
theorem dX3_parts_10 : decode cX3_parts 10 = .ok (.aload_n 0, 1) := by decide +kernel
theorem dX3_parts_11 : decode cX3_parts 11 = .ok (.getfield 20, 3) := by decide +kernel
theorem dX3_parts_14 : decode cX3_parts 14 = .ok (.iload_n 1, 1) := by decide +kernel
theorem dX3_parts_15 : decode cX3_parts 15 = .ok (.iaload, 1) := by decide +kernel
theorem dX3_parts_16 : decode cX3_parts 16 = .ok (.iload_n 3, 1) := by decide +kernel
theorem dX3_parts_17 : decode cX3_parts 17 = .ok (.ishr, 1) := by decide +kernel
theorem dX3_parts_18 : decode cX3_parts 18 = .ok (.iconst 1, 1) := by decide +kernel
theorem dX3_parts_19 : decode cX3_parts 19 = .ok (.iand, 1) := by decide +kernel
theorem dX3_parts_20 : decode cX3_parts 20 = .ok (.if_icmp .eq 7, 3) := by decide +kernel
theorem dX3_parts_23 : decode cX3_parts 23 = .ok (.iconst 1, 1) := by decide +kernel
theorem dX3_parts_24 : decode cX3_parts 24 = .ok (.goto 4, 3) := by decide +kernel
theorem dX3_parts_27 : decode cX3_parts 27 = .ok (.iconst 0, 1) := by decide +kernel
theorem dX3_parts_28 : decode cX3_parts 28 = .ok (.ireturn, 1) := by decide +kernel
set_option maxRecDepth 20000 in
theorem ggX3_manyBetween_X3_parts : GoodIn wsX3_manyBetween wsX3_parts := goodIn_r _ [6, 7, 8, 9, 10, 11, 12] (by decide +kernel) (by decide +kernel)
set_option maxRecDepth 20000 in
theorem gX3_manyBetween_X3_parts : GoodIn wsX3_manyBetween (wsV RX3 50 RX3 yX3_parts wsX3_parts) := goodIn_app (goodIn_of _ (by decide +kernel)) ggX3_manyBetween_X3_parts
theorem dX3_manyBetween_0 : decode cX3_manyBetween 0 = .ok (.iconst 0, 1) := by decide +kernel
theorem dX3_manyBetween_1 : decode cX3_manyBetween 1 = .ok (.istore_n 3, 1) := by decide +kernel
theorem dX3_manyBetween_2 : decode cX3_manyBetween 2 = .ok (.iconst 0, 1) := by decide +kernel
theorem dX3_manyBetween_3 : decode cX3_manyBetween 3 = .ok (.istore 4, 2) := by decide +kernel
theorem dX3_manyBetween_5 : decode cX3_manyBetween 5 = .ok (.iload 4, 2) := by decide +kernel
theorem dX3_manyBetween_7 : decode cX3_manyBetween 7 = .ok (.aload_n 0, 1) := by decide +kernel
theorem dX3_manyBetween_8 : decode cX3_manyBetween 8 = .ok (.getfield 27, 3) := by decide +kernel
theorem dX3_manyBetween_11 : decode cX3_manyBetween 11 = .ok (.if_icmp .ge 28, 3) := by decide +kernel
theorem dX3_manyBetween_14 : decode cX3_manyBetween 14 = .ok (.iload_n 3, 1) := by decide +kernel
theorem dX3_manyBetween_15 : decode cX3_manyBetween 15 = .ok (.aload_n 0, 1) := by decide +kernel
theorem dX3_manyBetween_16 : decode cX3_manyBetween 16 = .ok (.iload 4, 2) := by decide +kernel
theorem dX3_manyBetween_18 : decode cX3_manyBetween 18 = .ok (.iload_n 1, 1) := by decide +kernel
theorem dX3_manyBetween_19 : decode cX3_manyBetween 19 = .ok (.iload_n 2, 1) := by decide +kernel
theorem dX3_manyBetween_20 : decode cX3_manyBetween 20 = .ok (.invokevirtual 50, 3) := by decide +kernel
theorem dX3_manyBetween_23 : decode cX3_manyBetween 23 = .ok (.ifCond .eq 7, 3) := by decide +kernel
theorem dX3_manyBetween_26 : decode cX3_manyBetween 26 = .ok (.iconst 1, 1) := by decide +kernel
theorem dX3_manyBetween_27 : decode cX3_manyBetween 27 = .ok (.goto 4, 3) := by decide +kernel
theorem dX3_manyBetween_30 : decode cX3_manyBetween 30 = .ok (.iconst 0, 1) := by decide +kernel
theorem dX3_manyBetween_31 : decode cX3_manyBetween 31 = .ok (.iadd, 1) := by decide +kernel
theorem dX3_manyBetween_32 : decode cX3_manyBetween 32 = .ok (.istore_n 3, 1) := by decide +kernel
theorem dX3_manyBetween_33 : decode cX3_manyBetween 33 = .ok (.iinc 4 1, 3) := by decide +kernel
theorem dX3_manyBetween_36 : decode cX3_manyBetween 36 = .ok (.goto (-31), 3) := by decide +kernel
theorem dX3_manyBetween_39 : decode cX3_manyBetween 39 = .ok (.iload_n 3, 1) := by decide +kernel
theorem dX3_manyBetween_40 : decode cX3_manyBetween 40 = .ok (.ireturn, 1) := by decide +kernel
set_option maxRecDepth 20000 in
theorem ggX3_weightBetween_X3_parts : GoodIn wsX3_weightBetween wsX3_parts := goodIn_r _ [7, 8, 9, 10, 11, 12, 13] (by decide +kernel) (by decide +kernel)
set_option maxRecDepth 20000 in
theorem gX3_weightBetween_X3_parts : GoodIn wsX3_weightBetween (wsV RX3 50 RX3 yX3_parts wsX3_parts) := goodIn_app (goodIn_of _ (by decide +kernel)) ggX3_weightBetween_X3_parts
theorem dX3_weightBetween_0 : decode cX3_weightBetween 0 = .ok (.iconst 0, 1) := by decide +kernel
theorem dX3_weightBetween_1 : decode cX3_weightBetween 1 = .ok (.istore_n 3, 1) := by decide +kernel
theorem dX3_weightBetween_2 : decode cX3_weightBetween 2 = .ok (.iconst 0, 1) := by decide +kernel
theorem dX3_weightBetween_3 : decode cX3_weightBetween 3 = .ok (.istore 4, 2) := by decide +kernel
theorem dX3_weightBetween_5 : decode cX3_weightBetween 5 = .ok (.iload 4, 2) := by decide +kernel
theorem dX3_weightBetween_7 : decode cX3_weightBetween 7 = .ok (.aload_n 0, 1) := by decide +kernel
theorem dX3_weightBetween_8 : decode cX3_weightBetween 8 = .ok (.getfield 27, 3) := by decide +kernel
theorem dX3_weightBetween_11 : decode cX3_weightBetween 11 = .ok (.if_icmp .ge 34, 3) := by decide +kernel
theorem dX3_weightBetween_14 : decode cX3_weightBetween 14 = .ok (.iload_n 3, 1) := by decide +kernel
theorem dX3_weightBetween_15 : decode cX3_weightBetween 15 = .ok (.aload_n 0, 1) := by decide +kernel
theorem dX3_weightBetween_16 : decode cX3_weightBetween 16 = .ok (.iload 4, 2) := by decide +kernel
theorem dX3_weightBetween_18 : decode cX3_weightBetween 18 = .ok (.iload_n 1, 1) := by decide +kernel
theorem dX3_weightBetween_19 : decode cX3_weightBetween 19 = .ok (.iload_n 2, 1) := by decide +kernel
theorem dX3_weightBetween_20 : decode cX3_weightBetween 20 = .ok (.invokevirtual 50, 3) := by decide +kernel
theorem dX3_weightBetween_23 : decode cX3_weightBetween 23 = .ok (.ifCond .eq 13, 3) := by decide +kernel
theorem dX3_weightBetween_26 : decode cX3_weightBetween 26 = .ok (.aload_n 0, 1) := by decide +kernel
theorem dX3_weightBetween_27 : decode cX3_weightBetween 27 = .ok (.getfield 24, 3) := by decide +kernel
theorem dX3_weightBetween_30 : decode cX3_weightBetween 30 = .ok (.iload 4, 2) := by decide +kernel
theorem dX3_weightBetween_32 : decode cX3_weightBetween 32 = .ok (.iaload, 1) := by decide +kernel
theorem dX3_weightBetween_33 : decode cX3_weightBetween 33 = .ok (.goto 4, 3) := by decide +kernel
theorem dX3_weightBetween_36 : decode cX3_weightBetween 36 = .ok (.iconst 0, 1) := by decide +kernel
theorem dX3_weightBetween_37 : decode cX3_weightBetween 37 = .ok (.iadd, 1) := by decide +kernel
theorem dX3_weightBetween_38 : decode cX3_weightBetween 38 = .ok (.istore_n 3, 1) := by decide +kernel
theorem dX3_weightBetween_39 : decode cX3_weightBetween 39 = .ok (.iinc 4 1, 3) := by decide +kernel
theorem dX3_weightBetween_42 : decode cX3_weightBetween 42 = .ok (.goto (-37), 3) := by decide +kernel
theorem dX3_weightBetween_45 : decode cX3_weightBetween 45 = .ok (.iload_n 3, 1) := by decide +kernel
theorem dX3_weightBetween_46 : decode cX3_weightBetween 46 = .ok (.ireturn, 1) := by decide +kernel
set_option maxRecDepth 20000 in
theorem ggX4_init_X4_spread : GoodIn wsX4_init wsX4_spread := goodIn_r _ [10, 11, 12, 13, 14, 15, 16, 17, 18, 19, 20, 21, 9, 22, 5, 23, 24, 25, 26, 27, 28] (by decide +kernel) (by decide +kernel)
set_option maxRecDepth 20000 in
theorem gX4_init_X4_spread : GoodIn wsX4_init (wsV RX4 15 RX4 yX4_spread wsX4_spread) := goodIn_app (goodIn_of _ (by decide +kernel)) ggX4_init_X4_spread
theorem dX4_init_0 : decode cX4_init 0 = .ok (.aload_n 0, 1) := by decide +kernel
theorem dX4_init_1 : decode cX4_init 1 = .ok (.invokespecial 3, 3) := by decide +kernel
theorem dX4_init_4 : decode cX4_init 4 = .ok (.aload_n 0, 1) := by decide +kernel
theorem dX4_init_5 : decode cX4_init 5 = .ok (.bipush 25, 2) := by decide +kernel
theorem dX4_init_7 : decode cX4_init 7 = .ok (.newarray .int, 2) := by decide +kernel
theorem dX4_init_9 : decode cX4_init 9 = .ok (.putfield 9, 3) := by decide +kernel
theorem dX4_init_12 : decode cX4_init 12 = .ok (.aload_n 0, 1) := by decide +kernel
theorem dX4_init_13 : decode cX4_init 13 = .ok (.iconst 4, 1) := by decide +kernel
theorem dX4_init_14 : decode cX4_init 14 = .ok (.invokevirtual 15, 3) := by decide +kernel
theorem dX4_init_17 : decode cX4_init 17 = .ok (.return_, 1) := by decide +kernel
set_option maxRecDepth 20000 in
theorem ggX4_spread_X4_put : GoodIn wsX4_spread wsX4_put := goodIn_r _ [13, 14, 15, 16, 17, 12, 18, 8, 19, 20] (by decide +kernel) (by decide +kernel)
set_option maxRecDepth 20000 in
theorem gX4_spread_X4_put : GoodIn wsX4_spread (wsV RX4 32 RX4 yX4_put wsX4_put) := goodIn_app (goodIn_of _ (by decide +kernel)) ggX4_spread_X4_put
theorem dX4_spread_0 : decode cX4_spread 0 = .ok (.aload_n 0, 1) := by decide +kernel
theorem dX4_spread_1 : decode cX4_spread 1 = .ok (.iconst 3, 1) := by decide +kernel
theorem dX4_spread_2 : decode cX4_spread 2 = .ok (.iload_n 1, 1) := by decide +kernel
theorem dX4_spread_3 : decode cX4_spread 3 = .ok (.iconst 5, 1) := by decide +kernel
theorem dX4_spread_4 : decode cX4_spread 4 = .ok (.invokestatic 19, 3) := by decide +kernel
theorem dX4_spread_7 : decode cX4_spread 7 = .ok (.invokestatic 25, 3) := by decide +kernel
theorem dX4_spread_10 : decode cX4_spread 10 = .ok (.putfield 28, 3) := by decide +kernel
theorem dX4_spread_13 : decode cX4_spread 13 = .ok (.iconst 0, 1) := by decide +kernel
theorem dX4_spread_14 : decode cX4_spread 14 = .ok (.istore_n 2, 1) := by decide +kernel
theorem dX4_spread_15 : decode cX4_spread 15 = .ok (.iload_n 2, 1) := by decide +kernel
theorem dX4_spread_16 : decode cX4_spread 16 = .ok (.aload_n 0, 1) := by decide +kernel
theorem dX4_spread_17 : decode cX4_spread 17 = .ok (.getfield 28, 3) := by decide +kernel
theorem dX4_spread_20 : decode cX4_spread 20 = .ok (.if_icmp .ge 34, 3) := by decide +kernel
theorem dX4_spread_23 : decode cX4_spread 23 = .ok (.iload_n 2, 1) := by decide +kernel
theorem dX4_spread_24 : decode cX4_spread 24 = .ok (.iconst 1, 1) := by decide +kernel
theorem dX4_spread_25 : decode cX4_spread 25 = .ok (.iadd, 1) := by decide +kernel
