theorem dX8_init_54 : decode cX8_init 54 = .ok (.new 39, 3) := by decide +kernel
theorem dX8_init_57 : decode cX8_init 57 = .ok (.dup, 1) := by decide +kernel
theorem dX8_init_58 : decode cX8_init 58 = .ok (.invokespecial 41, 3) := by decide +kernel
theorem dX8_init_61 : decode cX8_init 61 = .ok (.putfield 42, 3) := by decide +kernel
theorem dX8_init_64 : decode cX8_init 64 = .ok (.aload_n 0, 1) := by decide +kernel
theorem dX8_init_65 : decode cX8_init 65 = .ok (.new 46, 3) := by decide +kernel
theorem dX8_init_68 : decode cX8_init 68 = .ok (.dup, 1) := by decide +kernel
theorem dX8_init_69 : decode cX8_init 69 = .ok (.invokespecial 48, 3) := by decide +kernel
theorem dX8_init_72 : decode cX8_init 72 = .ok (.putfield 49, 3) := by decide +kernel
theorem dX8_init_75 : decode cX8_init 75 = .ok (.aload_n 0, 1) := by decide +kernel
theorem dX8_init_76 : decode cX8_init 76 = .ok (.new 53, 3) := by decide +kernel
theorem dX8_init_79 : decode cX8_init 79 = .ok (.dup, 1) := by decide +kernel
theorem dX8_init_80 : decode cX8_init 80 = .ok (.invokespecial 55, 3) := by decide +kernel
theorem dX8_init_83 : decode cX8_init 83 = .ok (.putfield 56, 3) := by decide +kernel
theorem dX8_init_86 : decode cX8_init 86 = .ok (.return_, 1) := by decide +kernel
set_option maxRecDepth 20000 in
theorem ggX8_points_X2_begin : GoodIn wsX8_points wsX2_begin := goodIn_r _ [8, 9, 10, 11, 12, 13, 14, 15, 16, 17, 18, 19, 20, 21, 22, 23, 24, 25, 26, 27, 28, 29, 30, 31, 32, 33, 42, 43, 44, 45, 46, 47, 48, 49] (by decide +kernel) (by decide +kernel)
set_option maxRecDepth 20000 in
theorem gX8_points_X2_begin : GoodIn wsX8_points (wsV RX8 67 RX2 yX2_begin wsX2_begin) := goodIn_app (goodIn_of _ (by decide +kernel)) ggX8_points_X2_begin
theorem dX8_points_0 : decode cX8_points 0 = .ok (.aload_n 0, 1) := by decide +kernel
theorem dX8_points_1 : decode cX8_points 1 = .ok (.getfield 12, 3) := by decide +kernel
theorem dX8_points_4 : decode cX8_points 4 = .ok (.getfield 60, 3) := by decide +kernel
theorem dX8_points_7 : decode cX8_points 7 = .ok (.getfield 63, 3) := by decide +kernel
theorem dX8_points_10 : decode cX8_points 10 = .ok (.istore_n 2, 1) := by decide +kernel
theorem dX8_points_11 : decode cX8_points 11 = .ok (.aload_n 0, 1) := by decide +kernel
theorem dX8_points_12 : decode cX8_points 12 = .ok (.getfield 12, 3) := by decide +kernel
theorem dX8_points_15 : decode cX8_points 15 = .ok (.iload_n 1, 1) := by decide +kernel
theorem dX8_points_16 : decode cX8_points 16 = .ok (.invokevirtual 67, 3) := by decide +kernel
theorem dX8_points_19 : decode cX8_points 19 = .ok (.ifCond .eq 7, 3) := by decide +kernel
theorem dX8_points_22 : decode cX8_points 22 = .ok (.iload_n 2, 1) := by decide +kernel
theorem dX8_points_23 : decode cX8_points 23 = .ok (.goto 5, 3) := by decide +kernel
theorem dX8_points_26 : decode cX8_points 26 = .ok (.bipush (-2), 2) := by decide +kernel
theorem dX8_points_28 : decode cX8_points 28 = .ok (.ireturn, 1) := by decide +kernel
set_option maxRecDepth 20000 in
theorem ggX8_set_X4_areTwo : GoodIn wsX8_set wsX4_areTwo := goodIn_r _ [7, 8, 40, 41] (by decide +kernel) (by decide +kernel)
set_option maxRecDepth 20000 in
theorem gX8_set_X4_areTwo : GoodIn wsX8_set (wsV RX8 71 RX4 yX4_areTwo wsX4_areTwo) := goodIn_app (goodIn_of _ (by decide +kernel)) ggX8_set_X4_areTwo
set_option maxRecDepth 20000 in
theorem ggX8_set_X4_gap : GoodIn wsX8_set wsX4_gap := goodIn_r _ [12, 8, 13, 40, 41] (by decide +kernel) (by decide +kernel)
set_option maxRecDepth 20000 in
theorem gX8_set_X4_gap : GoodIn wsX8_set (wsV RX8 75 RX4 yX4_gap wsX4_gap) := goodIn_app (goodIn_of _ (by decide +kernel)) ggX8_set_X4_gap
set_option maxRecDepth 20000 in
theorem ggX8_set_X2_place : GoodIn wsX8_set wsX2_place := goodIn_r _ [18, 19, 20, 4, 5, 6, 7, 8, 21, 22, 23, 24, 13, 25, 34, 35, 36, 37, 38, 39, 40, 41] (by decide +kernel) (by decide +kernel)
set_option maxRecDepth 20000 in
theorem gX8_set_X2_place : GoodIn wsX8_set (wsV RX8 79 RX2 yX2_place wsX2_place) := goodIn_app (goodIn_of _ (by decide +kernel)) ggX8_set_X2_place
theorem dX8_set_0 : decode cX8_set 0 = .ok (.aload_n 0, 1) := by decide +kernel
theorem dX8_set_1 : decode cX8_set 1 = .ok (.getfield 12, 3) := by decide +kernel
theorem dX8_set_4 : decode cX8_set 4 = .ok (.getfield 60, 3) := by decide +kernel
theorem dX8_set_7 : decode cX8_set 7 = .ok (.iload_n 1, 1) := by decide +kernel
theorem dX8_set_8 : decode cX8_set 8 = .ok (.iload_n 2, 1) := by decide +kernel
theorem dX8_set_9 : decode cX8_set 9 = .ok (.invokevirtual 71, 3) := by decide +kernel
theorem dX8_set_12 : decode cX8_set 12 = .ok (.ifCond .ne 5, 3) := by decide +kernel
theorem dX8_set_15 : decode cX8_set 15 = .ok (.iconst (-1), 1) := by decide +kernel
theorem dX8_set_16 : decode cX8_set 16 = .ok (.ireturn, 1) := by decide +kernel
theorem dX8_set_17 : decode cX8_set 17 = .ok (.aload_n 0, 1) := by decide +kernel
theorem dX8_set_18 : decode cX8_set 18 = .ok (.getfield 12, 3) := by decide +kernel
theorem dX8_set_21 : decode cX8_set 21 = .ok (.getfield 60, 3) := by decide +kernel
theorem dX8_set_24 : decode cX8_set 24 = .ok (.iload_n 1, 1) := by decide +kernel
theorem dX8_set_25 : decode cX8_set 25 = .ok (.iload_n 2, 1) := by decide +kernel
theorem dX8_set_26 : decode cX8_set 26 = .ok (.invokevirtual 75, 3) := by decide +kernel
theorem dX8_set_29 : decode cX8_set 29 = .ok (.istore 4, 2) := by decide +kernel
theorem dX8_set_31 : decode cX8_set 31 = .ok (.aload_n 0, 1) := by decide +kernel
theorem dX8_set_32 : decode cX8_set 32 = .ok (.getfield 12, 3) := by decide +kernel
theorem dX8_set_35 : decode cX8_set 35 = .ok (.iload_n 1, 1) := by decide +kernel
theorem dX8_set_36 : decode cX8_set 36 = .ok (.iload_n 2, 1) := by decide +kernel
theorem dX8_set_37 : decode cX8_set 37 = .ok (.iload_n 3, 1) := by decide +kernel
theorem dX8_set_38 : decode cX8_set 38 = .ok (.invokevirtual 79, 3) := by decide +kernel
theorem dX8_set_41 : decode cX8_set 41 = .ok (.ifCond .eq 8, 3) := by decide +kernel
theorem dX8_set_44 : decode cX8_set 44 = .ok (.iload 4, 2) := by decide +kernel
theorem dX8_set_46 : decode cX8_set 46 = .ok (.goto 5, 3) := by decide +kernel
theorem dX8_set_49 : decode cX8_set 49 = .ok (.bipush (-2), 2) := by decide +kernel
theorem dX8_set_51 : decode cX8_set 51 = .ok (.ireturn, 1) := by decide +kernel
set_option maxRecDepth 20000 in
theorem ggX8_shorten_X4_become : GoodIn wsX8_shorten wsX4_become := goodIn_r _ [8, 9, 10, 11, 12, 13, 14, 53, 54] (by decide +kernel) (by decide +kernel)
set_option maxRecDepth 20000 in
theorem gX8_shorten_X4_become : GoodIn wsX8_shorten (wsV RX8 83 RX4 yX4_become wsX4_become) := goodIn_app (goodIn_of _ (by decide +kernel)) ggX8_shorten_X4_become
set_option maxRecDepth 20000 in
theorem ggX8_shorten_X4_takeShortWays : GoodIn wsX8_shorten wsX4_takeShortWays := goodIn_r _ [18, 9, 19, 20, 21, 22, 23, 24, 25, 7, 26, 10, 27, 28, 29, 30, 31, 32, 33, 34, 53, 54] (by decide +kernel) (by decide +kernel)
set_option maxRecDepth 20000 in
theorem gX8_shorten_X4_takeShortWays : GoodIn wsX8_shorten (wsV RX8 87 RX4 yX4_takeShortWays wsX4_takeShortWays) := goodIn_app (goodIn_of _ (by decide +kernel)) ggX8_shorten_X4_takeShortWays
set_option maxRecDepth 20000 in
theorem ggX8_shorten_X4_otherwiseThan : GoodIn wsX8_shorten wsX4_otherwiseThan := goodIn_r _ [38, 9, 23, 24, 25, 7, 26, 10, 53, 54] (by decide +kernel) (by decide +kernel)
set_option maxRecDepth 20000 in
theorem gX8_shorten_X4_otherwiseThan : GoodIn wsX8_shorten (wsV RX8 90 RX4 yX4_otherwiseThan wsX4_otherwiseThan) := goodIn_app (goodIn_of _ (by decide +kernel)) ggX8_shorten_X4_otherwiseThan
theorem dX8_shorten_0 : decode cX8_shorten 0 = .ok (.aload_n 0, 1) := by decide +kernel
theorem dX8_shorten_1 : decode cX8_shorten 1 = .ok (.getfield 28, 3) := by decide +kernel
theorem dX8_shorten_4 : decode cX8_shorten 4 = .ok (.aload_n 0, 1) := by decide +kernel
theorem dX8_shorten_5 : decode cX8_shorten 5 = .ok (.getfield 12, 3) := by decide +kernel
theorem dX8_shorten_8 : decode cX8_shorten 8 = .ok (.getfield 60, 3) := by decide +kernel
theorem dX8_shorten_11 : decode cX8_shorten 11 = .ok (.invokevirtual 83, 3) := by decide +kernel
theorem dX8_shorten_14 : decode cX8_shorten 14 = .ok (.aload_n 0, 1) := by decide +kernel
theorem dX8_shorten_15 : decode cX8_shorten 15 = .ok (.getfield 12, 3) := by decide +kernel
theorem dX8_shorten_18 : decode cX8_shorten 18 = .ok (.getfield 60, 3) := by decide +kernel
theorem dX8_shorten_21 : decode cX8_shorten 21 = .ok (.invokevirtual 87, 3) := by decide +kernel
theorem dX8_shorten_24 : decode cX8_shorten 24 = .ok (.aload_n 0, 1) := by decide +kernel
theorem dX8_shorten_25 : decode cX8_shorten 25 = .ok (.getfield 12, 3) := by decide +kernel
theorem dX8_shorten_28 : decode cX8_shorten 28 = .ok (.getfield 60, 3) := by decide +kernel
theorem dX8_shorten_31 : decode cX8_shorten 31 = .ok (.aload_n 0, 1) := by decide +kernel
theorem dX8_shorten_32 : decode cX8_shorten 32 = .ok (.getfield 28, 3) := by decide +kernel
theorem dX8_shorten_35 : decode cX8_shorten 35 = .ok (.invokevirtual 90, 3) := by decide +kernel
theorem dX8_shorten_38 : decode cX8_shorten 38 = .ok (.ireturn, 1) := by decide +kernel
set_option maxRecDepth 20000 in
theorem ggX8_function_X4_has : GoodIn wsX8_function wsX4_has := goodIn_r _ [8, 9, 24, 25] (by decide +kernel) (by decide +kernel)
set_option maxRecDepth 20000 in
theorem gX8_function_X4_has : GoodIn wsX8_function (wsV RX8 94 RX4 yX4_has wsX4_has) := goodIn_app (goodIn_of _ (by decide +kernel)) ggX8_function_X4_has
theorem dX8_function_0 : decode cX8_function 0 = .ok (.aload_n 0, 1) := by decide +kernel
theorem dX8_function_1 : decode cX8_function 1 = .ok (.getfield 12, 3) := by decide +kernel
theorem dX8_function_4 : decode cX8_function 4 = .ok (.getfield 60, 3) := by decide +kernel
theorem dX8_function_7 : decode cX8_function 7 = .ok (.iload_n 1, 1) := by decide +kernel
theorem dX8_function_8 : decode cX8_function 8 = .ok (.invokevirtual 94, 3) := by decide +kernel
theorem dX8_function_11 : decode cX8_function 11 = .ok (.ifCond .ne 5, 3) := by decide +kernel
theorem dX8_function_14 : decode cX8_function 14 = .ok (.iconst (-1), 1) := by decide +kernel
theorem dX8_function_15 : decode cX8_function 15 = .ok (.ireturn, 1) := by decide +kernel
theorem dX8_function_16 : decode cX8_function 16 = .ok (.iload_n 2, 1) := by decide +kernel
theorem dX8_function_17 : decode cX8_function 17 = .ok (.ifCond .lt 10, 3) := by decide +kernel
theorem dX8_function_20 : decode cX8_function 20 = .ok (.iload_n 2, 1) := by decide +kernel
theorem dX8_function_21 : decode cX8_function 21 = .ok (.sipush 160, 3) := by decide +kernel
theorem dX8_function_24 : decode cX8_function 24 = .ok (.if_icmp .le 6, 3) := by decide +kernel
theorem dX8_function_27 : decode cX8_function 27 = .ok (.bipush (-2), 2) := by decide +kernel
theorem dX8_function_29 : decode cX8_function 29 = .ok (.ireturn, 1) := by decide +kernel
theorem dX8_function_30 : decode cX8_function 30 = .ok (.aload_n 0, 1) := by decide +kernel
theorem dX8_function_31 : decode cX8_function 31 = .ok (.getfield 12, 3) := by decide +kernel
theorem dX8_function_34 : decode cX8_function 34 = .ok (.getfield 97, 3) := by decide +kernel
theorem dX8_function_37 : decode cX8_function 37 = .ok (.iload_n 1, 1) := by decide +kernel
theorem dX8_function_38 : decode cX8_function 38 = .ok (.iaload, 1) := by decide +kernel
theorem dX8_function_39 : decode cX8_function 39 = .ok (.istore_n 3, 1) := by decide +kernel
theorem dX8_function_40 : decode cX8_function 40 = .ok (.aload_n 0, 1) := by decide +kernel
theorem dX8_function_41 : decode cX8_function 41 = .ok (.getfield 12, 3) := by decide +kernel
theorem dX8_function_44 : decode cX8_function 44 = .ok (.getfield 97, 3) := by decide +kernel
theorem dX8_function_47 : decode cX8_function 47 = .ok (.iload_n 1, 1) := by decide +kernel
theorem dX8_function_48 : decode cX8_function 48 = .ok (.iload_n 2, 1) := by decide +kernel
theorem dX8_function_49 : decode cX8_function 49 = .ok (.iastore, 1) := by decide +kernel
theorem dX8_function_50 : decode cX8_function 50 = .ok (.iload_n 3, 1) := by decide +kernel
theorem dX8_function_51 : decode cX8_function 51 = .ok (.ireturn, 1) := by decide +kernel
set_option maxRecDepth 20000 in
theorem ggX8_least_X2_makeLeast : GoodIn wsX8_least wsX2_makeLeast := goodIn_r _ [7, 8, 9, 10, 11, 12, 13, 14, 15, 16, 17, 18, 19, 20, 21, 22, 23, 24, 25, 26, 27, 28, 29, 6, 30, 147, 148, 149, 150, 151, 152, 153, 154] (by decide +kernel) (by decide +kernel)
set_option maxRecDepth 20000 in
theorem gX8_least_X2_makeLeast : GoodIn wsX8_least (wsV RX8 101 RX2 yX2_makeLeast wsX2_makeLeast) := goodIn_app (goodIn_of _ (by decide +kernel)) ggX8_least_X2_makeLeast
set_option maxRecDepth 20000 in
theorem ggX8_least_X8_cornerRefusal : GoodIn wsX8_least wsX8_cornerRefusal := goodIn_r _ [35, 2, 1, 36, 37, 38, 39, 40, 41, 42, 43, 44, 45, 46, 47, 48, 49, 23, 50, 25, 51, 52, 53, 54, 55, 21, 22, 24, 26, 56, 57, 58, 59, 60, 61, 62, 63, 64, 65, 66, 67, 68, 69, 70, 71, 72, 73, 74, 75, 76, 77, 78, 79, 80, 81, 82, 83, 84, 85, 86, 87, 88, 89, 90, 91, 92, 93, 94, 95, 96, 12, 13, 14, 15, 16, 17, 18, 19, 20, 97, 98, 99, 100, 101, 102, 103, 104, 105, 106, 107, 108, 109, 110, 111, 112, 113, 114, 115, 116, 117, 118, 119, 120, 121, 122, 123, 124, 125, 126, 127, 128, 129, 130, 131, 132, 133, 139, 140, 141, 142, 143, 144, 145, 146, 147, 148, 149, 150, 151, 152, 155, 156, 157, 158, 159, 160, 161, 153, 154] (by decide +kernel) (by decide +kernel)
set_option maxRecDepth 20000 in
theorem gX8_least_X8_cornerRefusal : GoodIn wsX8_least (wsV RX8 105 RX8 yX8_cornerRefusal wsX8_cornerRefusal) := goodIn_app (goodIn_of _ (by decide +kernel)) ggX8_least_X8_cornerRefusal
set_option maxRecDepth 20000 in
theorem ggX8_least_X2_takeCorner : GoodIn wsX8_least wsX2_takeCorner := goodIn_r _ [137, 8, 9, 138, 118, 119, 41, 120, 44, 87, 121, 122, 123, 124, 125, 45, 126, 127, 128, 23, 129, 25, 27, 28, 29, 6, 30, 10, 147, 148, 149, 150, 151, 152, 153, 154, 155, 156, 157, 158, 159, 160, 161] (by decide +kernel) (by decide +kernel)
set_option maxRecDepth 20000 in
theorem gX8_least_X2_takeCorner : GoodIn wsX8_least (wsV RX8 109 RX2 yX2_takeCorner wsX2_takeCorner) := goodIn_app (goodIn_of _ (by decide +kernel)) ggX8_least_X2_takeCorner
theorem dX8_least_0 : decode cX8_least 0 = .ok (.iload_n 1, 1) := by decide +kernel
theorem dX8_least_1 : decode cX8_least 1 = .ok (.ifCond .ne 11, 3) := by decide +kernel
theorem dX8_least_4 : decode cX8_least 4 = .ok (.aload_n 0, 1) := by decide +kernel
theorem dX8_least_5 : decode cX8_least 5 = .ok (.getfield 12, 3) := by decide +kernel
theorem dX8_least_8 : decode cX8_least 8 = .ok (.invokevirtual 101, 3) := by decide +kernel
theorem dX8_least_11 : decode cX8_least 11 = .ok (.ireturn, 1) := by decide +kernel
theorem dX8_least_12 : decode cX8_least 12 = .ok (.iload_n 1, 1) := by decide +kernel
theorem dX8_least_13 : decode cX8_least 13 = .ok (.iconst 1, 1) := by decide +kernel
theorem dX8_least_14 : decode cX8_least 14 = .ok (.if_icmp .eq 5, 3) := by decide +kernel
theorem dX8_least_17 : decode cX8_least 17 = .ok (.iconst (-1), 1) := by decide +kernel
theorem dX8_least_18 : decode cX8_least 18 = .ok (.ireturn, 1) := by decide +kernel
theorem dX8_least_19 : decode cX8_least 19 = .ok (.aload_n 0, 1) := by decide +kernel
theorem dX8_least_20 : decode cX8_least 20 = .ok (.iload_n 2, 1) := by decide +kernel
theorem dX8_least_21 : decode cX8_least 21 = .ok (.invokevirtual 105, 3) := by decide +kernel
theorem dX8_least_24 : decode cX8_least 24 = .ok (.istore_n 3, 1) := by decide +kernel
theorem dX8_least_25 : decode cX8_least 25 = .ok (.iload_n 3, 1) := by decide +kernel
theorem dX8_least_26 : decode cX8_least 26 = .ok (.ifCond .eq 7, 3) := by decide +kernel
theorem dX8_least_29 : decode cX8_least 29 = .ok (.iload_n 3, 1) := by decide +kernel
theorem dX8_least_30 : decode cX8_least 30 = .ok (.goto 15, 3) := by decide +kernel
theorem dX8_least_33 : decode cX8_least 33 = .ok (.aload_n 0, 1) := by decide +kernel
theorem dX8_least_34 : decode cX8_least 34 = .ok (.getfield 12, 3) := by decide +kernel
theorem dX8_least_37 : decode cX8_least 37 = .ok (.aload_n 0, 1) := by decide +kernel
theorem dX8_least_38 : decode cX8_least 38 = .ok (.getfield 42, 3) := by decide +kernel
theorem dX8_least_41 : decode cX8_least 41 = .ok (.iload_n 2, 1) := by decide +kernel
theorem dX8_least_42 : decode cX8_least 42 = .ok (.invokevirtual 109, 3) := by decide +kernel
theorem dX8_least_45 : decode cX8_least 45 = .ok (.ireturn, 1) := by decide +kernel
set_option maxRecDepth 20000 in
theorem ggX8_map_X4_has : GoodIn wsX8_map wsX4_has := goodIn_r _ [8, 9, 24, 25] (by decide +kernel) (by decide +kernel)
set_option maxRecDepth 20000 in
theorem gX8_map_X4_has : GoodIn wsX8_map (wsV RX8 94 RX4 yX4_has wsX4_has) := goodIn_app (goodIn_of _ (by decide +kernel)) ggX8_map_X4_has
theorem dX8_map_0 : decode cX8_map 0 = .ok (.aload_n 0, 1) := by decide +kernel
theorem dX8_map_1 : decode cX8_map 1 = .ok (.getfield 12, 3) := by decide +kernel
theorem dX8_map_4 : decode cX8_map 4 = .ok (.getfield 60, 3) := by decide +kernel
theorem dX8_map_7 : decode cX8_map 7 = .ok (.iload_n 1, 1) := by decide +kernel
theorem dX8_map_8 : decode cX8_map 8 = .ok (.invokevirtual 94, 3) := by decide +kernel
theorem dX8_map_11 : decode cX8_map 11 = .ok (.ifCond .eq 17, 3) := by decide +kernel
theorem dX8_map_14 : decode cX8_map 14 = .ok (.aload_n 0, 1) := by decide +kernel
theorem dX8_map_15 : decode cX8_map 15 = .ok (.getfield 12, 3) := by decide +kernel
theorem dX8_map_18 : decode cX8_map 18 = .ok (.getfield 60, 3) := by decide +kernel
theorem dX8_map_21 : decode cX8_map 21 = .ok (.iload_n 2, 1) := by decide +kernel
theorem dX8_map_22 : decode cX8_map 22 = .ok (.invokevirtual 94, 3) := by decide +kernel
theorem dX8_map_25 : decode cX8_map 25 = .ok (.ifCond .ne 5, 3) := by decide +kernel
theorem dX8_map_28 : decode cX8_map 28 = .ok (.iconst (-1), 1) := by decide +kernel
theorem dX8_map_29 : decode cX8_map 29 = .ok (.ireturn, 1) := by decide +kernel
theorem dX8_map_30 : decode cX8_map 30 = .ok (.aload_n 0, 1) := by decide +kernel
theorem dX8_map_31 : decode cX8_map 31 = .ok (.getfield 12, 3) := by decide +kernel
theorem dX8_map_34 : decode cX8_map 34 = .ok (.getfield 113, 3) := by decide +kernel
theorem dX8_map_37 : decode cX8_map 37 = .ok (.iload_n 1, 1) := by decide +kernel
theorem dX8_map_38 : decode cX8_map 38 = .ok (.iaload, 1) := by decide +kernel
theorem dX8_map_39 : decode cX8_map 39 = .ok (.istore_n 3, 1) := by decide +kernel
theorem dX8_map_40 : decode cX8_map 40 = .ok (.aload_n 0, 1) := by decide +kernel
theorem dX8_map_41 : decode cX8_map 41 = .ok (.getfield 12, 3) := by decide +kernel
theorem dX8_map_44 : decode cX8_map 44 = .ok (.getfield 113, 3) := by decide +kernel
theorem dX8_map_47 : decode cX8_map 47 = .ok (.iload_n 1, 1) := by decide +kernel
theorem dX8_map_48 : decode cX8_map 48 = .ok (.iload_n 2, 1) := by decide +kernel
theorem dX8_map_49 : decode cX8_map 49 = .ok (.iastore, 1) := by decide +kernel
theorem dX8_map_50 : decode cX8_map 50 = .ok (.iload_n 3, 1) := by decide +kernel
theorem dX8_map_51 : decode cX8_map 51 = .ok (.ireturn, 1) := by decide +kernel
set_option maxRecDepth 20000 in
theorem ggX8_feed_X6_add : GoodIn wsX8_feed wsX6_add := goodIn_r _ [7, 8, 9, 18, 19, 20, 21] (by decide +kernel) (by decide +kernel)
set_option maxRecDepth 20000 in
theorem gX8_feed_X6_add : GoodIn wsX8_feed (wsV RX8 116 RX6 yX6_add wsX6_add) := goodIn_app (goodIn_of _ (by decide +kernel)) ggX8_feed_X6_add
theorem dX8_feed_0 : decode cX8_feed 0 = .ok (.iload_n 1, 1) := by decide +kernel
theorem dX8_feed_1 : decode cX8_feed 1 = .ok (.ifCond .lt 9, 3) := by decide +kernel
theorem dX8_feed_4 : decode cX8_feed 4 = .ok (.iload_n 1, 1) := by decide +kernel
theorem dX8_feed_5 : decode cX8_feed 5 = .ok (.bipush 127, 2) := by decide +kernel
theorem dX8_feed_7 : decode cX8_feed 7 = .ok (.if_icmp .le 6, 3) := by decide +kernel
theorem dX8_feed_10 : decode cX8_feed 10 = .ok (.bipush (-2), 2) := by decide +kernel
theorem dX8_feed_12 : decode cX8_feed 12 = .ok (.ireturn, 1) := by decide +kernel
theorem dX8_feed_13 : decode cX8_feed 13 = .ok (.aload_n 0, 1) := by decide +kernel
theorem dX8_feed_14 : decode cX8_feed 14 = .ok (.getfield 49, 3) := by decide +kernel
theorem dX8_feed_17 : decode cX8_feed 17 = .ok (.iload_n 1, 1) := by decide +kernel
theorem dX8_feed_18 : decode cX8_feed 18 = .ok (.invokevirtual 116, 3) := by decide +kernel
theorem dX8_feed_21 : decode cX8_feed 21 = .ok (.ifCond .eq 13, 3) := by decide +kernel
theorem dX8_feed_24 : decode cX8_feed 24 = .ok (.aload_n 0, 1) := by decide +kernel
theorem dX8_feed_25 : decode cX8_feed 25 = .ok (.getfield 49, 3) := by decide +kernel
theorem dX8_feed_28 : decode cX8_feed 28 = .ok (.getfield 119, 3) := by decide +kernel
theorem dX8_feed_31 : decode cX8_feed 31 = .ok (.goto 5, 3) := by decide +kernel
theorem dX8_feed_34 : decode cX8_feed 34 = .ok (.bipush (-4), 2) := by decide +kernel
theorem dX8_feed_36 : decode cX8_feed 36 = .ok (.ireturn, 1) := by decide +kernel
set_option maxRecDepth 20000 in
theorem ggX8_read_X6_firstFault : GoodIn wsX8_read wsX6_firstFault := goodIn_r _ [7, 8, 9, 10, 11, 12, 13, 6, 14, 15, 16, 17, 18, 19, 20, 21, 22, 23, 24, 25, 26, 27, 28, 29, 30, 31, 32, 33, 122, 123, 124, 125] (by decide +kernel) (by decide +kernel)
set_option maxRecDepth 20000 in
theorem gX8_read_X6_firstFault : GoodIn wsX8_read (wsV RX8 122 RX6 yX6_firstFault wsX6_firstFault) := goodIn_app (goodIn_of _ (by decide +kernel)) ggX8_read_X6_firstFault
set_option maxRecDepth 20000 in
theorem ggX8_read_X6_carryOut : GoodIn wsX8_read wsX6_carryOut := goodIn_r _ [37, 8, 9, 38, 39, 40, 6, 41, 42, 11, 12, 13, 14, 15, 16, 17, 18, 10, 19, 20, 21, 22, 23, 24, 25, 26, 27, 28, 29, 30, 31, 32, 33, 43, 44, 45, 46, 47, 48, 49, 50, 51, 52, 53, 54, 55, 56, 57, 58, 59, 60, 61, 62, 63, 64, 65, 66, 67, 68, 69, 70, 71, 72, 73, 74, 75, 76, 77, 78, 79, 80, 81, 82, 83, 84, 85, 86, 87, 88, 89, 90, 91, 92, 93, 94, 95, 96, 97, 98, 99, 100, 101, 102, 103, 104, 105, 106, 107, 108, 109, 122, 123, 124, 125, 126, 127, 128, 129, 130, 131, 132, 133] (by decide +kernel) (by decide +kernel)
set_option maxRecDepth 20000 in
theorem gX8_read_X6_carryOut : GoodIn wsX8_read (wsV RX8 125 RX6 yX6_carryOut wsX6_carryOut) := goodIn_app (goodIn_of _ (by decide +kernel)) ggX8_read_X6_carryOut
set_option maxRecDepth 20000 in
theorem ggX8_read_X6_empty : GoodIn wsX8_read wsX6_empty := goodIn_r _ [113, 10, 8, 122, 123, 124, 125] (by decide +kernel) (by decide +kernel)
set_option maxRecDepth 20000 in
theorem gX8_read_X6_empty : GoodIn wsX8_read (wsV RX8 129 RX6 yX6_empty wsX6_empty) := goodIn_app (goodIn_of _ (by decide +kernel)) ggX8_read_X6_empty
theorem dX8_read_0 : decode cX8_read 0 = .ok (.aload_n 0, 1) := by decide +kernel
theorem dX8_read_1 : decode cX8_read 1 = .ok (.getfield 49, 3) := by decide +kernel
theorem dX8_read_4 : decode cX8_read 4 = .ok (.invokevirtual 122, 3) := by decide +kernel
theorem dX8_read_7 : decode cX8_read 7 = .ok (.istore_n 1, 1) := by decide +kernel
theorem dX8_read_8 : decode cX8_read 8 = .ok (.iload_n 1, 1) := by decide +kernel
theorem dX8_read_9 : decode cX8_read 9 = .ok (.ifCond .lt 10, 3) := by decide +kernel
theorem dX8_read_12 : decode cX8_read 12 = .ok (.bipush (-10), 2) := by decide +kernel
theorem dX8_read_14 : decode cX8_read 14 = .ok (.iload_n 1, 1) := by decide +kernel
theorem dX8_read_15 : decode cX8_read 15 = .ok (.isub, 1) := by decide +kernel
theorem dX8_read_16 : decode cX8_read 16 = .ok (.goto 14, 3) := by decide +kernel
theorem dX8_read_19 : decode cX8_read 19 = .ok (.aload_n 0, 1) := by decide +kernel
theorem dX8_read_20 : decode cX8_read 20 = .ok (.getfield 49, 3) := by decide +kernel
theorem dX8_read_23 : decode cX8_read 23 = .ok (.aload_n 0, 1) := by decide +kernel
theorem dX8_read_24 : decode cX8_read 24 = .ok (.getfield 12, 3) := by decide +kernel
theorem dX8_read_27 : decode cX8_read 27 = .ok (.invokevirtual 125, 3) := by decide +kernel
theorem dX8_read_30 : decode cX8_read 30 = .ok (.istore_n 2, 1) := by decide +kernel
theorem dX8_read_31 : decode cX8_read 31 = .ok (.aload_n 0, 1) := by decide +kernel
theorem dX8_read_32 : decode cX8_read 32 = .ok (.getfield 49, 3) := by decide +kernel
theorem dX8_read_35 : decode cX8_read 35 = .ok (.invokevirtual 129, 3) := by decide +kernel
theorem dX8_read_38 : decode cX8_read 38 = .ok (.iload_n 2, 1) := by decide +kernel
theorem dX8_read_39 : decode cX8_read 39 = .ok (.ireturn, 1) := by decide +kernel
set_option maxRecDepth 20000 in
theorem ggX8_of_X4_has : GoodIn wsX8_of wsX4_has := goodIn_r _ [9, 10, 98, 99] (by decide +kernel) (by decide +kernel)
set_option maxRecDepth 20000 in
theorem gX8_of_X4_has : GoodIn wsX8_of (wsV RX8 94 RX4 yX4_has wsX4_has) := goodIn_app (goodIn_of _ (by decide +kernel)) ggX8_of_X4_has
set_option maxRecDepth 20000 in
theorem ggX8_of_X4_gap : GoodIn wsX8_of wsX4_gap := goodIn_r _ [14, 10, 15, 98, 99] (by decide +kernel) (by decide +kernel)
set_option maxRecDepth 20000 in
theorem gX8_of_X4_gap : GoodIn wsX8_of (wsV RX8 75 RX4 yX4_gap wsX4_gap) := goodIn_app (goodIn_of _ (by decide +kernel)) ggX8_of_X4_gap
set_option maxRecDepth 20000 in
theorem ggX8_of_X4_become : GoodIn wsX8_of wsX4_become := goodIn_r _ [19, 10, 15, 20, 21, 22, 23, 98, 99] (by decide +kernel) (by decide +kernel)
set_option maxRecDepth 20000 in
theorem gX8_of_X4_become : GoodIn wsX8_of (wsV RX8 83 RX4 yX4_become wsX4_become) := goodIn_app (goodIn_of _ (by decide +kernel)) ggX8_of_X4_become
set_option maxRecDepth 20000 in
theorem ggX8_of_X4_takeShortWays : GoodIn wsX8_of wsX4_takeShortWays := goodIn_r _ [27, 10, 28, 29, 30, 31, 32, 12, 13, 8, 14, 15, 33, 34, 35, 36, 37, 38, 39, 40, 98, 99] (by decide +kernel) (by decide +kernel)
set_option maxRecDepth 20000 in
theorem gX8_of_X4_takeShortWays : GoodIn wsX8_of (wsV RX8 87 RX4 yX4_takeShortWays wsX4_takeShortWays) := goodIn_app (goodIn_of _ (by decide +kernel)) ggX8_of_X4_takeShortWays
set_option maxRecDepth 20000 in
theorem ggX8_of_X3_follow : GoodIn wsX8_of wsX3_follow := goodIn_r _ [45, 46, 47, 48, 49, 50, 51, 52, 8, 53, 10, 54, 55, 56, 57, 32, 12, 13, 14, 15, 58, 17, 18, 19, 20, 21, 22, 23, 59, 60, 61, 62, 28, 29, 30, 31, 63, 64, 65, 66, 67, 68, 69, 70, 71, 72, 44, 73, 74, 75, 100, 101, 102, 103, 104, 98, 99] (by decide +kernel) (by decide +kernel)
set_option maxRecDepth 20000 in
theorem gX8_of_X3_follow : GoodIn wsX8_of (wsV RX8 132 RX3 yX3_follow wsX3_follow) := goodIn_app (goodIn_of _ (by decide +kernel)) ggX8_of_X3_follow
set_option maxRecDepth 20000 in
theorem ggX8_of_X3_weightBetween : GoodIn wsX8_of wsX3_weightBetween := goodIn_r _ [79, 48, 74, 80, 81, 82, 44, 83, 75, 100, 101, 102, 103, 104] (by decide +kernel) (by decide +kernel)
set_option maxRecDepth 20000 in
theorem gX8_of_X3_weightBetween : GoodIn wsX8_of (wsV RX8 135 RX3 yX3_weightBetween wsX3_weightBetween) := goodIn_app (goodIn_of _ (by decide +kernel)) ggX8_of_X3_weightBetween
theorem dX8_of_0 : decode cX8_of 0 = .ok (.aload_n 0, 1) := by decide +kernel
theorem dX8_of_1 : decode cX8_of 1 = .ok (.getfield 12, 3) := by decide +kernel
theorem dX8_of_4 : decode cX8_of 4 = .ok (.getfield 60, 3) := by decide +kernel
theorem dX8_of_7 : decode cX8_of 7 = .ok (.iload_n 1, 1) := by decide +kernel
theorem dX8_of_8 : decode cX8_of 8 = .ok (.invokevirtual 94, 3) := by decide +kernel
theorem dX8_of_11 : decode cX8_of 11 = .ok (.ifCond .eq 17, 3) := by decide +kernel
theorem dX8_of_14 : decode cX8_of 14 = .ok (.aload_n 0, 1) := by decide +kernel
theorem dX8_of_15 : decode cX8_of 15 = .ok (.getfield 12, 3) := by decide +kernel
theorem dX8_of_18 : decode cX8_of 18 = .ok (.getfield 60, 3) := by decide +kernel
theorem dX8_of_21 : decode cX8_of 21 = .ok (.iload_n 2, 1) := by decide +kernel
theorem dX8_of_22 : decode cX8_of 22 = .ok (.invokevirtual 94, 3) := by decide +kernel
theorem dX8_of_25 : decode cX8_of 25 = .ok (.ifCond .ne 5, 3) := by decide +kernel
theorem dX8_of_28 : decode cX8_of 28 = .ok (.iconst (-1), 1) := by decide +kernel
theorem dX8_of_29 : decode cX8_of 29 = .ok (.ireturn, 1) := by decide +kernel
theorem dX8_of_30 : decode cX8_of 30 = .ok (.iload_n 3, 1) := by decide +kernel
theorem dX8_of_31 : decode cX8_of 31 = .ok (.tableswitch 108 0 2 #[25, 38, 69], 25) := by decide +kernel
theorem dX8_of_56 : decode cX8_of 56 = .ok (.aload_n 0, 1) := by decide +kernel
theorem dX8_of_57 : decode cX8_of 57 = .ok (.getfield 12, 3) := by decide +kernel
theorem dX8_of_60 : decode cX8_of 60 = .ok (.getfield 60, 3) := by decide +kernel
theorem dX8_of_63 : decode cX8_of 63 = .ok (.iload_n 1, 1) := by decide +kernel
theorem dX8_of_64 : decode cX8_of 64 = .ok (.iload_n 2, 1) := by decide +kernel
theorem dX8_of_65 : decode cX8_of 65 = .ok (.invokevirtual 75, 3) := by decide +kernel
theorem dX8_of_68 : decode cX8_of 68 = .ok (.ireturn, 1) := by decide +kernel
theorem dX8_of_69 : decode cX8_of 69 = .ok (.aload_n 0, 1) := by decide +kernel
theorem dX8_of_70 : decode cX8_of 70 = .ok (.getfield 28, 3) := by decide +kernel
theorem dX8_of_73 : decode cX8_of 73 = .ok (.aload_n 0, 1) := by decide +kernel
theorem dX8_of_74 : decode cX8_of 74 = .ok (.getfield 12, 3) := by decide +kernel
theorem dX8_of_77 : decode cX8_of 77 = .ok (.getfield 60, 3) := by decide +kernel
theorem dX8_of_80 : decode cX8_of 80 = .ok (.invokevirtual 83, 3) := by decide +kernel
theorem dX8_of_83 : decode cX8_of 83 = .ok (.aload_n 0, 1) := by decide +kernel
theorem dX8_of_84 : decode cX8_of 84 = .ok (.getfield 28, 3) := by decide +kernel
theorem dX8_of_87 : decode cX8_of 87 = .ok (.invokevirtual 87, 3) := by decide +kernel
theorem dX8_of_90 : decode cX8_of 90 = .ok (.aload_n 0, 1) := by decide +kernel
theorem dX8_of_91 : decode cX8_of 91 = .ok (.getfield 28, 3) := by decide +kernel
theorem dX8_of_94 : decode cX8_of 94 = .ok (.iload_n 1, 1) := by decide +kernel
theorem dX8_of_95 : decode cX8_of 95 = .ok (.iload_n 2, 1) := by decide +kernel
theorem dX8_of_96 : decode cX8_of 96 = .ok (.invokevirtual 75, 3) := by decide +kernel
theorem dX8_of_99 : decode cX8_of 99 = .ok (.ireturn, 1) := by decide +kernel
theorem dX8_of_100 : decode cX8_of 100 = .ok (.aload_n 0, 1) := by decide +kernel
theorem dX8_of_101 : decode cX8_of 101 = .ok (.getfield 35, 3) := by decide +kernel
theorem dX8_of_104 : decode cX8_of 104 = .ok (.aload_n 0, 1) := by decide +kernel
theorem dX8_of_105 : decode cX8_of 105 = .ok (.getfield 12, 3) := by decide +kernel
theorem dX8_of_108 : decode cX8_of 108 = .ok (.getfield 60, 3) := by decide +kernel
theorem dX8_of_111 : decode cX8_of 111 = .ok (.invokevirtual 132, 3) := by decide +kernel
theorem dX8_of_114 : decode cX8_of 114 = .ok (.iconst 2, 1) := by decide +kernel
theorem dX8_of_115 : decode cX8_of 115 = .ok (.aload_n 0, 1) := by decide +kernel
theorem dX8_of_116 : decode cX8_of 116 = .ok (.getfield 12, 3) := by decide +kernel
theorem dX8_of_119 : decode cX8_of 119 = .ok (.getfield 60, 3) := by decide +kernel
theorem dX8_of_122 : decode cX8_of 122 = .ok (.iload_n 1, 1) := by decide +kernel
theorem dX8_of_123 : decode cX8_of 123 = .ok (.iload_n 2, 1) := by decide +kernel
theorem dX8_of_124 : decode cX8_of 124 = .ok (.invokevirtual 75, 3) := by decide +kernel
theorem dX8_of_127 : decode cX8_of 127 = .ok (.imul, 1) := by decide +kernel
theorem dX8_of_128 : decode cX8_of 128 = .ok (.aload_n 0, 1) := by decide +kernel
theorem dX8_of_129 : decode cX8_of 129 = .ok (.getfield 35, 3) := by decide +kernel
theorem dX8_of_132 : decode cX8_of 132 = .ok (.iload_n 1, 1) := by decide +kernel
theorem dX8_of_133 : decode cX8_of 133 = .ok (.iload_n 2, 1) := by decide +kernel
theorem dX8_of_134 : decode cX8_of 134 = .ok (.invokevirtual 135, 3) := by decide +kernel
theorem dX8_of_137 : decode cX8_of 137 = .ok (.isub, 1) := by decide +kernel
theorem dX8_of_138 : decode cX8_of 138 = .ok (.ireturn, 1) := by decide +kernel
theorem dX8_of_139 : decode cX8_of 139 = .ok (.iconst (-1), 1) := by decide +kernel
theorem dX8_of_140 : decode cX8_of 140 = .ok (.ireturn, 1) := by decide +kernel
set_option maxRecDepth 20000 in
theorem ggX8_told_X4_isTable : GoodIn wsX8_told wsX4_isTable := goodIn_r _ [10, 11, 12, 13, 9, 14, 15, 16, 17, 18, 19, 20, 128, 129] (by decide +kernel) (by decide +kernel)
set_option maxRecDepth 20000 in
theorem gX8_told_X4_isTable : GoodIn wsX8_told (wsV RX8 138 RX4 yX4_isTable wsX4_isTable) := goodIn_app (goodIn_of _ (by decide +kernel)) ggX8_told_X4_isTable
set_option maxRecDepth 20000 in
theorem ggX8_told_X8_oneIf : GoodIn wsX8_told wsX8_oneIf := goodIn_r _ [24] (by decide +kernel) (by decide +kernel)
set_option maxRecDepth 20000 in
theorem gX8_told_X8_oneIf : GoodIn wsX8_told (va_wsS RX8 142 yX8_oneIf wsX8_oneIf) := goodIn_app (goodIn_of _ (by decide +kernel)) ggX8_told_X8_oneIf
set_option maxRecDepth 20000 in
theorem ggX8_told_X4_firstBarred : GoodIn wsX8_told wsX4_firstBarred := goodIn_r _ [14, 15, 16, 17, 18, 9, 19, 20, 128, 129] (by decide +kernel) (by decide +kernel)
set_option maxRecDepth 20000 in
theorem gX8_told_X4_firstBarred : GoodIn wsX8_told (wsV RX8 146 RX4 yX4_firstBarred wsX4_firstBarred) := goodIn_app (goodIn_of _ (by decide +kernel)) ggX8_told_X4_firstBarred
set_option maxRecDepth 20000 in
theorem ggX8_told_X3_follow : GoodIn wsX8_told wsX3_follow := goodIn_r _ [30, 31, 32, 33, 34, 35, 36, 37, 9, 38, 15, 39, 40, 41, 42, 16, 17, 18, 19, 20, 43, 44, 45, 46, 47, 48, 49, 50, 51, 52, 53, 54, 55, 56, 57, 58, 59, 60, 61, 62, 63, 64, 65, 66, 67, 68, 29, 69, 70, 71, 130, 131, 132, 133, 134, 128, 129] (by decide +kernel) (by decide +kernel)
set_option maxRecDepth 20000 in
theorem gX8_told_X3_follow : GoodIn wsX8_told (wsV RX8 132 RX3 yX3_follow wsX3_follow) := goodIn_app (goodIn_of _ (by decide +kernel)) ggX8_told_X3_follow
set_option maxRecDepth 20000 in
theorem ggX8_told_X4_isTree : GoodIn wsX8_told wsX4_isTree := goodIn_r _ [75, 15, 76, 7, 8, 9, 10, 11, 12, 13, 14, 16, 17, 18, 19, 20, 77, 78, 79, 80, 63, 64, 57, 65, 128, 129] (by decide +kernel) (by decide +kernel)
set_option maxRecDepth 20000 in
theorem gX8_told_X4_isTree : GoodIn wsX8_told (wsV RX8 150 RX4 yX4_isTree wsX4_isTree) := goodIn_app (goodIn_of _ (by decide +kernel)) ggX8_told_X4_isTree
set_option maxRecDepth 20000 in
theorem ggX8_told_X4_span : GoodIn wsX8_told wsX4_span := goodIn_r _ [84, 15, 63, 64, 57, 65, 16, 17, 18, 9, 19, 20, 128, 129] (by decide +kernel) (by decide +kernel)
set_option maxRecDepth 20000 in
theorem gX8_told_X4_span : GoodIn wsX8_told (wsV RX8 153 RX4 yX4_span wsX4_span) := goodIn_app (goodIn_of _ (by decide +kernel)) ggX8_told_X4_span
set_option maxRecDepth 20000 in
theorem ggX8_told_X4_girth : GoodIn wsX8_told wsX4_girth := goodIn_r _ [88, 15, 16, 17, 18, 9, 19, 20, 128, 129] (by decide +kernel) (by decide +kernel)
set_option maxRecDepth 20000 in
theorem gX8_told_X4_girth : GoodIn wsX8_told (wsV RX8 156 RX4 yX4_girth wsX4_girth) := goodIn_app (goodIn_of _ (by decide +kernel)) ggX8_told_X4_girth
set_option maxRecDepth 20000 in
theorem ggX8_told_X4_usual : GoodIn wsX8_told wsX4_usual := goodIn_r _ [92, 93, 94, 95, 9, 96, 15, 16, 17, 18, 19, 20, 128, 129] (by decide +kernel) (by decide +kernel)
set_option maxRecDepth 20000 in
theorem gX8_told_X4_usual : GoodIn wsX8_told (wsV RX8 159 RX4 yX4_usual wsX4_usual) := goodIn_app (goodIn_of _ (by decide +kernel)) ggX8_told_X4_usual
set_option maxRecDepth 20000 in
theorem ggX8_told_X4_leastRound : GoodIn wsX8_told wsX4_leastRound := goodIn_r _ [100, 15, 101, 102, 9, 103, 55, 56, 57, 58, 16, 17, 18, 19, 20, 128, 129] (by decide +kernel) (by decide +kernel)
set_option maxRecDepth 20000 in
theorem gX8_told_X4_leastRound : GoodIn wsX8_told (wsV RX8 162 RX4 yX4_leastRound wsX4_leastRound) := goodIn_app (goodIn_of _ (by decide +kernel)) ggX8_told_X4_leastRound
set_option maxRecDepth 20000 in
theorem ggX8_told_X4_keepers : GoodIn wsX8_told wsX4_keepers := goodIn_r _ [107, 108, 109, 9, 110, 15, 111, 112, 113, 16, 17, 18, 19, 20, 128, 129] (by decide +kernel) (by decide +kernel)
set_option maxRecDepth 20000 in
theorem gX8_told_X4_keepers : GoodIn wsX8_told (wsV RX8 165 RX4 yX4_keepers wsX4_keepers) := goodIn_app (goodIn_of _ (by decide +kernel)) ggX8_told_X4_keepers
theorem dX8_told_0 : decode cX8_told 0 = .ok (.iload_n 1, 1) := by decide +kernel
theorem dX8_told_1 : decode cX8_told 1 = .ok (.tableswitch 182 0 9 #[55, 66, 80, 91, 113, 127, 138, 149, 160, 171], 55) := by decide +kernel
theorem dX8_told_56 : decode cX8_told 56 = .ok (.aload_n 0, 1) := by decide +kernel
theorem dX8_told_57 : decode cX8_told 57 = .ok (.getfield 12, 3) := by decide +kernel
theorem dX8_told_60 : decode cX8_told 60 = .ok (.getfield 60, 3) := by decide +kernel
theorem dX8_told_63 : decode cX8_told 63 = .ok (.getfield 63, 3) := by decide +kernel
theorem dX8_told_66 : decode cX8_told 66 = .ok (.ireturn, 1) := by decide +kernel
theorem dX8_told_67 : decode cX8_told 67 = .ok (.aload_n 0, 1) := by decide +kernel
theorem dX8_told_68 : decode cX8_told 68 = .ok (.getfield 12, 3) := by decide +kernel
theorem dX8_told_71 : decode cX8_told 71 = .ok (.getfield 60, 3) := by decide +kernel
theorem dX8_told_74 : decode cX8_told 74 = .ok (.invokevirtual 138, 3) := by decide +kernel
theorem dX8_told_77 : decode cX8_told 77 = .ok (.invokestatic 142, 3) := by decide +kernel
theorem dX8_told_80 : decode cX8_told 80 = .ok (.ireturn, 1) := by decide +kernel
theorem dX8_told_81 : decode cX8_told 81 = .ok (.aload_n 0, 1) := by decide +kernel
theorem dX8_told_82 : decode cX8_told 82 = .ok (.getfield 12, 3) := by decide +kernel
theorem dX8_told_85 : decode cX8_told 85 = .ok (.getfield 60, 3) := by decide +kernel
theorem dX8_told_88 : decode cX8_told 88 = .ok (.invokevirtual 146, 3) := by decide +kernel
theorem dX8_told_91 : decode cX8_told 91 = .ok (.ireturn, 1) := by decide +kernel
theorem dX8_told_92 : decode cX8_told 92 = .ok (.aload_n 0, 1) := by decide +kernel
theorem dX8_told_93 : decode cX8_told 93 = .ok (.getfield 35, 3) := by decide +kernel
theorem dX8_told_96 : decode cX8_told 96 = .ok (.aload_n 0, 1) := by decide +kernel
theorem dX8_told_97 : decode cX8_told 97 = .ok (.getfield 12, 3) := by decide +kernel
theorem dX8_told_100 : decode cX8_told 100 = .ok (.getfield 60, 3) := by decide +kernel
theorem dX8_told_103 : decode cX8_told 103 = .ok (.invokevirtual 132, 3) := by decide +kernel
theorem dX8_told_106 : decode cX8_told 106 = .ok (.aload_n 0, 1) := by decide +kernel
theorem dX8_told_107 : decode cX8_told 107 = .ok (.getfield 35, 3) := by decide +kernel
theorem dX8_told_110 : decode cX8_told 110 = .ok (.getfield 149, 3) := by decide +kernel
theorem dX8_told_113 : decode cX8_told 113 = .ok (.ireturn, 1) := by decide +kernel
theorem dX8_told_114 : decode cX8_told 114 = .ok (.aload_n 0, 1) := by decide +kernel
theorem dX8_told_115 : decode cX8_told 115 = .ok (.getfield 12, 3) := by decide +kernel
theorem dX8_told_118 : decode cX8_told 118 = .ok (.getfield 60, 3) := by decide +kernel
theorem dX8_told_121 : decode cX8_told 121 = .ok (.invokevirtual 150, 3) := by decide +kernel
theorem dX8_told_124 : decode cX8_told 124 = .ok (.invokestatic 142, 3) := by decide +kernel
theorem dX8_told_127 : decode cX8_told 127 = .ok (.ireturn, 1) := by decide +kernel
theorem dX8_told_128 : decode cX8_told 128 = .ok (.aload_n 0, 1) := by decide +kernel
theorem dX8_told_129 : decode cX8_told 129 = .ok (.getfield 12, 3) := by decide +kernel
theorem dX8_told_132 : decode cX8_told 132 = .ok (.getfield 60, 3) := by decide +kernel
theorem dX8_told_135 : decode cX8_told 135 = .ok (.invokevirtual 153, 3) := by decide +kernel
theorem dX8_told_138 : decode cX8_told 138 = .ok (.ireturn, 1) := by decide +kernel
theorem dX8_told_139 : decode cX8_told 139 = .ok (.aload_n 0, 1) := by decide +kernel
theorem dX8_told_140 : decode cX8_told 140 = .ok (.getfield 12, 3) := by decide +kernel
theorem dX8_told_143 : decode cX8_told 143 = .ok (.getfield 60, 3) := by decide +kernel
theorem dX8_told_146 : decode cX8_told 146 = .ok (.invokevirtual 156, 3) := by decide +kernel
theorem dX8_told_149 : decode cX8_told 149 = .ok (.ireturn, 1) := by decide +kernel
theorem dX8_told_150 : decode cX8_told 150 = .ok (.aload_n 0, 1) := by decide +kernel
theorem dX8_told_151 : decode cX8_told 151 = .ok (.getfield 12, 3) := by decide +kernel
theorem dX8_told_154 : decode cX8_told 154 = .ok (.getfield 60, 3) := by decide +kernel
theorem dX8_told_157 : decode cX8_told 157 = .ok (.invokevirtual 159, 3) := by decide +kernel
theorem dX8_told_160 : decode cX8_told 160 = .ok (.ireturn, 1) := by decide +kernel
theorem dX8_told_161 : decode cX8_told 161 = .ok (.aload_n 0, 1) := by decide +kernel
theorem dX8_told_162 : decode cX8_told 162 = .ok (.getfield 12, 3) := by decide +kernel
theorem dX8_told_165 : decode cX8_told 165 = .ok (.getfield 60, 3) := by decide +kernel
theorem dX8_told_168 : decode cX8_told 168 = .ok (.invokevirtual 162, 3) := by decide +kernel
theorem dX8_told_171 : decode cX8_told 171 = .ok (.ireturn, 1) := by decide +kernel
theorem dX8_told_172 : decode cX8_told 172 = .ok (.aload_n 0, 1) := by decide +kernel
theorem dX8_told_173 : decode cX8_told 173 = .ok (.getfield 12, 3) := by decide +kernel
theorem dX8_told_176 : decode cX8_told 176 = .ok (.getfield 60, 3) := by decide +kernel
theorem dX8_told_179 : decode cX8_told 179 = .ok (.invokevirtual 165, 3) := by decide +kernel
theorem dX8_told_182 : decode cX8_told 182 = .ok (.ireturn, 1) := by decide +kernel
theorem dX8_told_183 : decode cX8_told 183 = .ok (.iconst (-1), 1) := by decide +kernel
theorem dX8_told_184 : decode cX8_told 184 = .ok (.ireturn, 1) := by decide +kernel
set_option maxRecDepth 20000 in
theorem ggX8_functionOf_X4_has : GoodIn wsX8_functionOf wsX4_has := goodIn_r _ [9, 10, 59, 60] (by decide +kernel) (by decide +kernel)
set_option maxRecDepth 20000 in
theorem gX8_functionOf_X4_has : GoodIn wsX8_functionOf (wsV RX8 94 RX4 yX4_has wsX4_has) := goodIn_app (goodIn_of _ (by decide +kernel)) ggX8_functionOf_X4_has
set_option maxRecDepth 20000 in
theorem ggX8_functionOf_X7_keepApart : GoodIn wsX8_functionOf wsX7_keepApart := goodIn_r _ [14, 15, 16, 17, 18, 8, 19, 10, 20, 59, 60] (by decide +kernel) (by decide +kernel)
set_option maxRecDepth 20000 in
theorem gX8_functionOf_X7_keepApart : GoodIn wsX8_functionOf (va_wsS RX8 168 yX7_keepApart wsX7_keepApart) := goodIn_app (goodIn_of _ (by decide +kernel)) ggX8_functionOf_X7_keepApart
set_option maxRecDepth 20000 in
theorem ggX8_functionOf_X8_oneIf : GoodIn wsX8_functionOf wsX8_oneIf := goodIn_r _ [24] (by decide +kernel) (by decide +kernel)
set_option maxRecDepth 20000 in
theorem gX8_functionOf_X8_oneIf : GoodIn wsX8_functionOf (va_wsS RX8 142 yX8_oneIf wsX8_oneIf) := goodIn_app (goodIn_of _ (by decide +kernel)) ggX8_functionOf_X8_oneIf
set_option maxRecDepth 20000 in
theorem ggX8_functionOf_X7_areLeast : GoodIn wsX8_functionOf wsX7_areLeast := goodIn_r _ [27, 15, 28, 12, 13, 14, 16, 17, 18, 8, 19, 10, 20, 29, 30, 31, 32, 33, 34, 35, 36, 37, 59, 60] (by decide +kernel) (by decide +kernel)
set_option maxRecDepth 20000 in
theorem gX8_functionOf_X7_areLeast : GoodIn wsX8_functionOf (va_wsS RX8 174 yX7_areLeast wsX7_areLeast) := goodIn_app (goodIn_of _ (by decide +kernel)) ggX8_functionOf_X7_areLeast
set_option maxRecDepth 20000 in
theorem ggX8_functionOf_X7_tightTwos : GoodIn wsX8_functionOf wsX7_tightTwos := goodIn_r _ [31, 15, 16, 17, 18, 8, 19, 10, 20, 59, 60] (by decide +kernel) (by decide +kernel)
set_option maxRecDepth 20000 in
theorem gX8_functionOf_X7_tightTwos : GoodIn wsX8_functionOf (va_wsS RX8 177 yX7_tightTwos wsX7_tightTwos) := goodIn_app (goodIn_of _ (by decide +kernel)) ggX8_functionOf_X7_tightTwos
set_option maxRecDepth 20000 in
theorem ggX8_functionOf_X7_depth : GoodIn wsX8_functionOf wsX7_depth := goodIn_r _ [41, 42, 43, 13, 44, 35, 36, 37] (by decide +kernel) (by decide +kernel)
set_option maxRecDepth 20000 in
theorem gX8_functionOf_X7_depth : GoodIn wsX8_functionOf (va_wsS RX8 181 yX7_depth wsX7_depth) := goodIn_app (goodIn_of _ (by decide +kernel)) ggX8_functionOf_X7_depth
theorem dX8_functionOf_0 : decode cX8_functionOf 0 = .ok (.aload_n 0, 1) := by decide +kernel
theorem dX8_functionOf_1 : decode cX8_functionOf 1 = .ok (.getfield 12, 3) := by decide +kernel
theorem dX8_functionOf_4 : decode cX8_functionOf 4 = .ok (.getfield 60, 3) := by decide +kernel
theorem dX8_functionOf_7 : decode cX8_functionOf 7 = .ok (.iload_n 1, 1) := by decide +kernel
theorem dX8_functionOf_8 : decode cX8_functionOf 8 = .ok (.invokevirtual 94, 3) := by decide +kernel
theorem dX8_functionOf_11 : decode cX8_functionOf 11 = .ok (.ifCond .eq 13, 3) := by decide +kernel
theorem dX8_functionOf_14 : decode cX8_functionOf 14 = .ok (.aload_n 0, 1) := by decide +kernel
theorem dX8_functionOf_15 : decode cX8_functionOf 15 = .ok (.getfield 12, 3) := by decide +kernel
theorem dX8_functionOf_18 : decode cX8_functionOf 18 = .ok (.getfield 97, 3) := by decide +kernel
theorem dX8_functionOf_21 : decode cX8_functionOf 21 = .ok (.iload_n 1, 1) := by decide +kernel
theorem dX8_functionOf_22 : decode cX8_functionOf 22 = .ok (.iaload, 1) := by decide +kernel
theorem dX8_functionOf_23 : decode cX8_functionOf 23 = .ok (.ireturn, 1) := by decide +kernel
theorem dX8_functionOf_24 : decode cX8_functionOf 24 = .ok (.iload_n 1, 1) := by decide +kernel
theorem dX8_functionOf_25 : decode cX8_functionOf 25 = .ok (.tableswitch 123 10 12 #[27, 48, 69], 27) := by decide +kernel
theorem dX8_functionOf_52 : decode cX8_functionOf 52 = .ok (.aload_n 0, 1) := by decide +kernel
theorem dX8_functionOf_53 : decode cX8_functionOf 53 = .ok (.getfield 12, 3) := by decide +kernel
theorem dX8_functionOf_56 : decode cX8_functionOf 56 = .ok (.getfield 60, 3) := by decide +kernel
theorem dX8_functionOf_59 : decode cX8_functionOf 59 = .ok (.aload_n 0, 1) := by decide +kernel
theorem dX8_functionOf_60 : decode cX8_functionOf 60 = .ok (.getfield 12, 3) := by decide +kernel
theorem dX8_functionOf_63 : decode cX8_functionOf 63 = .ok (.getfield 97, 3) := by decide +kernel
theorem dX8_functionOf_66 : decode cX8_functionOf 66 = .ok (.invokestatic 168, 3) := by decide +kernel
theorem dX8_functionOf_69 : decode cX8_functionOf 69 = .ok (.invokestatic 142, 3) := by decide +kernel
theorem dX8_functionOf_72 : decode cX8_functionOf 72 = .ok (.ireturn, 1) := by decide +kernel
theorem dX8_functionOf_73 : decode cX8_functionOf 73 = .ok (.aload_n 0, 1) := by decide +kernel
theorem dX8_functionOf_74 : decode cX8_functionOf 74 = .ok (.getfield 12, 3) := by decide +kernel
theorem dX8_functionOf_77 : decode cX8_functionOf 77 = .ok (.getfield 60, 3) := by decide +kernel
theorem dX8_functionOf_80 : decode cX8_functionOf 80 = .ok (.aload_n 0, 1) := by decide +kernel
theorem dX8_functionOf_81 : decode cX8_functionOf 81 = .ok (.getfield 12, 3) := by decide +kernel
theorem dX8_functionOf_84 : decode cX8_functionOf 84 = .ok (.getfield 97, 3) := by decide +kernel
theorem dX8_functionOf_87 : decode cX8_functionOf 87 = .ok (.invokestatic 174, 3) := by decide +kernel
theorem dX8_functionOf_90 : decode cX8_functionOf 90 = .ok (.invokestatic 142, 3) := by decide +kernel
theorem dX8_functionOf_93 : decode cX8_functionOf 93 = .ok (.ireturn, 1) := by decide +kernel
theorem dX8_functionOf_94 : decode cX8_functionOf 94 = .ok (.aload_n 0, 1) := by decide +kernel
theorem dX8_functionOf_95 : decode cX8_functionOf 95 = .ok (.getfield 12, 3) := by decide +kernel
theorem dX8_functionOf_98 : decode cX8_functionOf 98 = .ok (.getfield 60, 3) := by decide +kernel
theorem dX8_functionOf_101 : decode cX8_functionOf 101 = .ok (.aload_n 0, 1) := by decide +kernel
theorem dX8_functionOf_102 : decode cX8_functionOf 102 = .ok (.getfield 12, 3) := by decide +kernel
theorem dX8_functionOf_105 : decode cX8_functionOf 105 = .ok (.getfield 97, 3) := by decide +kernel
theorem dX8_functionOf_108 : decode cX8_functionOf 108 = .ok (.invokestatic 174, 3) := by decide +kernel
theorem dX8_functionOf_111 : decode cX8_functionOf 111 = .ok (.ifCond .ne 6, 3) := by decide +kernel
theorem dX8_functionOf_114 : decode cX8_functionOf 114 = .ok (.bipush (-5), 2) := by decide +kernel
theorem dX8_functionOf_116 : decode cX8_functionOf 116 = .ok (.ireturn, 1) := by decide +kernel
theorem dX8_functionOf_117 : decode cX8_functionOf 117 = .ok (.aload_n 0, 1) := by decide +kernel
theorem dX8_functionOf_118 : decode cX8_functionOf 118 = .ok (.getfield 12, 3) := by decide +kernel
theorem dX8_functionOf_121 : decode cX8_functionOf 121 = .ok (.getfield 60, 3) := by decide +kernel
theorem dX8_functionOf_124 : decode cX8_functionOf 124 = .ok (.getfield 63, 3) := by decide +kernel
theorem dX8_functionOf_127 : decode cX8_functionOf 127 = .ok (.aload_n 0, 1) := by decide +kernel
theorem dX8_functionOf_128 : decode cX8_functionOf 128 = .ok (.getfield 12, 3) := by decide +kernel
theorem dX8_functionOf_131 : decode cX8_functionOf 131 = .ok (.getfield 60, 3) := by decide +kernel
theorem dX8_functionOf_134 : decode cX8_functionOf 134 = .ok (.aload_n 0, 1) := by decide +kernel
theorem dX8_functionOf_135 : decode cX8_functionOf 135 = .ok (.getfield 12, 3) := by decide +kernel
theorem dX8_functionOf_138 : decode cX8_functionOf 138 = .ok (.getfield 97, 3) := by decide +kernel
theorem dX8_functionOf_141 : decode cX8_functionOf 141 = .ok (.invokestatic 177, 3) := by decide +kernel
theorem dX8_functionOf_144 : decode cX8_functionOf 144 = .ok (.invokestatic 181, 3) := by decide +kernel
theorem dX8_functionOf_147 : decode cX8_functionOf 147 = .ok (.ireturn, 1) := by decide +kernel
theorem dX8_functionOf_148 : decode cX8_functionOf 148 = .ok (.iconst (-1), 1) := by decide +kernel
theorem dX8_functionOf_149 : decode cX8_functionOf 149 = .ok (.ireturn, 1) := by decide +kernel
set_option maxRecDepth 20000 in
theorem ggX8_mapOf_X4_has : GoodIn wsX8_mapOf wsX4_has := goodIn_r _ [8, 9, 41, 42] (by decide +kernel) (by decide +kernel)
set_option maxRecDepth 20000 in
theorem gX8_mapOf_X4_has : GoodIn wsX8_mapOf (wsV RX8 94 RX4 yX4_has wsX4_has) := goodIn_app (goodIn_of _ (by decide +kernel)) ggX8_mapOf_X4_has
set_option maxRecDepth 20000 in
theorem ggX8_mapOf_X2_mapHolds : GoodIn wsX8_mapOf wsX2_mapHolds := goodIn_r _ [14, 15, 16, 17, 18, 19, 20, 7, 21, 9, 22, 35, 36, 37, 38, 39, 40, 41, 42] (by decide +kernel) (by decide +kernel)
set_option maxRecDepth 20000 in
theorem gX8_mapOf_X2_mapHolds : GoodIn wsX8_mapOf (wsV RX8 184 RX2 yX2_mapHolds wsX2_mapHolds) := goodIn_app (goodIn_of _ (by decide +kernel)) ggX8_mapOf_X2_mapHolds
set_option maxRecDepth 20000 in
theorem ggX8_mapOf_X8_oneIf : GoodIn wsX8_mapOf wsX8_oneIf := goodIn_r _ [26] (by decide +kernel) (by decide +kernel)
set_option maxRecDepth 20000 in
theorem gX8_mapOf_X8_oneIf : GoodIn wsX8_mapOf (va_wsS RX8 142 yX8_oneIf wsX8_oneIf) := goodIn_app (goodIn_of _ (by decide +kernel)) ggX8_mapOf_X8_oneIf
theorem dX8_mapOf_0 : decode cX8_mapOf 0 = .ok (.aload_n 0, 1) := by decide +kernel
theorem dX8_mapOf_1 : decode cX8_mapOf 1 = .ok (.getfield 12, 3) := by decide +kernel
theorem dX8_mapOf_4 : decode cX8_mapOf 4 = .ok (.getfield 60, 3) := by decide +kernel
theorem dX8_mapOf_7 : decode cX8_mapOf 7 = .ok (.iload_n 1, 1) := by decide +kernel
theorem dX8_mapOf_8 : decode cX8_mapOf 8 = .ok (.invokevirtual 94, 3) := by decide +kernel
theorem dX8_mapOf_11 : decode cX8_mapOf 11 = .ok (.ifCond .eq 13, 3) := by decide +kernel
theorem dX8_mapOf_14 : decode cX8_mapOf 14 = .ok (.aload_n 0, 1) := by decide +kernel
theorem dX8_mapOf_15 : decode cX8_mapOf 15 = .ok (.getfield 12, 3) := by decide +kernel
theorem dX8_mapOf_18 : decode cX8_mapOf 18 = .ok (.getfield 113, 3) := by decide +kernel
theorem dX8_mapOf_21 : decode cX8_mapOf 21 = .ok (.iload_n 1, 1) := by decide +kernel
theorem dX8_mapOf_22 : decode cX8_mapOf 22 = .ok (.iaload, 1) := by decide +kernel
theorem dX8_mapOf_23 : decode cX8_mapOf 23 = .ok (.ireturn, 1) := by decide +kernel
theorem dX8_mapOf_24 : decode cX8_mapOf 24 = .ok (.iload_n 1, 1) := by decide +kernel
theorem dX8_mapOf_25 : decode cX8_mapOf 25 = .ok (.lookupswitch 51 #[(10, 27), (11, 39)], 27) := by decide +kernel
theorem dX8_mapOf_52 : decode cX8_mapOf 52 = .ok (.aload_n 0, 1) := by decide +kernel
theorem dX8_mapOf_53 : decode cX8_mapOf 53 = .ok (.getfield 12, 3) := by decide +kernel
theorem dX8_mapOf_56 : decode cX8_mapOf 56 = .ok (.iconst 0, 1) := by decide +kernel
theorem dX8_mapOf_57 : decode cX8_mapOf 57 = .ok (.invokevirtual 184, 3) := by decide +kernel
theorem dX8_mapOf_60 : decode cX8_mapOf 60 = .ok (.invokestatic 142, 3) := by decide +kernel
theorem dX8_mapOf_63 : decode cX8_mapOf 63 = .ok (.ireturn, 1) := by decide +kernel
theorem dX8_mapOf_64 : decode cX8_mapOf 64 = .ok (.aload_n 0, 1) := by decide +kernel
theorem dX8_mapOf_65 : decode cX8_mapOf 65 = .ok (.getfield 12, 3) := by decide +kernel
theorem dX8_mapOf_68 : decode cX8_mapOf 68 = .ok (.iconst 1, 1) := by decide +kernel
theorem dX8_mapOf_69 : decode cX8_mapOf 69 = .ok (.invokevirtual 184, 3) := by decide +kernel
theorem dX8_mapOf_72 : decode cX8_mapOf 72 = .ok (.invokestatic 142, 3) := by decide +kernel
theorem dX8_mapOf_75 : decode cX8_mapOf 75 = .ok (.ireturn, 1) := by decide +kernel
theorem dX8_mapOf_76 : decode cX8_mapOf 76 = .ok (.iconst (-1), 1) := by decide +kernel
theorem dX8_mapOf_77 : decode cX8_mapOf 77 = .ok (.ireturn, 1) := by decide +kernel
set_option maxRecDepth 20000 in
theorem ggX8_middle_X4_has : GoodIn wsX8_middle wsX4_has := goodIn_r _ [7, 8, 28, 29] (by decide +kernel) (by decide +kernel)
set_option maxRecDepth 20000 in
theorem gX8_middle_X4_has : GoodIn wsX8_middle (wsV RX8 94 RX4 yX4_has wsX4_has) := goodIn_app (goodIn_of _ (by decide +kernel)) ggX8_middle_X4_has
set_option maxRecDepth 20000 in
theorem ggX8_middle_X4_gap : GoodIn wsX8_middle wsX4_gap := goodIn_r _ [12, 8, 13, 28, 29] (by decide +kernel) (by decide +kernel)
set_option maxRecDepth 20000 in
theorem gX8_middle_X4_gap : GoodIn wsX8_middle (wsV RX8 75 RX4 yX4_gap wsX4_gap) := goodIn_app (goodIn_of _ (by decide +kernel)) ggX8_middle_X4_gap
theorem dX8_middle_0 : decode cX8_middle 0 = .ok (.aload_n 0, 1) := by decide +kernel
theorem dX8_middle_1 : decode cX8_middle 1 = .ok (.getfield 12, 3) := by decide +kernel
theorem dX8_middle_4 : decode cX8_middle 4 = .ok (.getfield 60, 3) := by decide +kernel
theorem dX8_middle_7 : decode cX8_middle 7 = .ok (.iload_n 1, 1) := by decide +kernel
theorem dX8_middle_8 : decode cX8_middle 8 = .ok (.invokevirtual 94, 3) := by decide +kernel
theorem dX8_middle_11 : decode cX8_middle 11 = .ok (.ifCond .eq 31, 3) := by decide +kernel
theorem dX8_middle_14 : decode cX8_middle 14 = .ok (.aload_n 0, 1) := by decide +kernel
theorem dX8_middle_15 : decode cX8_middle 15 = .ok (.getfield 12, 3) := by decide +kernel
theorem dX8_middle_18 : decode cX8_middle 18 = .ok (.getfield 60, 3) := by decide +kernel
theorem dX8_middle_21 : decode cX8_middle 21 = .ok (.iload_n 2, 1) := by decide +kernel
theorem dX8_middle_22 : decode cX8_middle 22 = .ok (.invokevirtual 94, 3) := by decide +kernel
theorem dX8_middle_25 : decode cX8_middle 25 = .ok (.ifCond .eq 17, 3) := by decide +kernel
theorem dX8_middle_28 : decode cX8_middle 28 = .ok (.aload_n 0, 1) := by decide +kernel
theorem dX8_middle_29 : decode cX8_middle 29 = .ok (.getfield 12, 3) := by decide +kernel
theorem dX8_middle_32 : decode cX8_middle 32 = .ok (.getfield 60, 3) := by decide +kernel
theorem dX8_middle_35 : decode cX8_middle 35 = .ok (.iload_n 3, 1) := by decide +kernel
theorem dX8_middle_36 : decode cX8_middle 36 = .ok (.invokevirtual 94, 3) := by decide +kernel
theorem dX8_middle_39 : decode cX8_middle 39 = .ok (.ifCond .ne 5, 3) := by decide +kernel
theorem dX8_middle_42 : decode cX8_middle 42 = .ok (.iconst (-1), 1) := by decide +kernel
theorem dX8_middle_43 : decode cX8_middle 43 = .ok (.ireturn, 1) := by decide +kernel
theorem dX8_middle_44 : decode cX8_middle 44 = .ok (.aload_n 0, 1) := by decide +kernel
theorem dX8_middle_45 : decode cX8_middle 45 = .ok (.getfield 12, 3) := by decide +kernel
theorem dX8_middle_48 : decode cX8_middle 48 = .ok (.getfield 60, 3) := by decide +kernel
theorem dX8_middle_51 : decode cX8_middle 51 = .ok (.iload_n 1, 1) := by decide +kernel
theorem dX8_middle_52 : decode cX8_middle 52 = .ok (.iload_n 2, 1) := by decide +kernel
theorem dX8_middle_53 : decode cX8_middle 53 = .ok (.invokevirtual 75, 3) := by decide +kernel
theorem dX8_middle_56 : decode cX8_middle 56 = .ok (.aload_n 0, 1) := by decide +kernel
theorem dX8_middle_57 : decode cX8_middle 57 = .ok (.getfield 12, 3) := by decide +kernel
theorem dX8_middle_60 : decode cX8_middle 60 = .ok (.getfield 60, 3) := by decide +kernel
theorem dX8_middle_63 : decode cX8_middle 63 = .ok (.iload_n 1, 1) := by decide +kernel
theorem dX8_middle_64 : decode cX8_middle 64 = .ok (.iload_n 3, 1) := by decide +kernel
theorem dX8_middle_65 : decode cX8_middle 65 = .ok (.invokevirtual 75, 3) := by decide +kernel
theorem dX8_middle_68 : decode cX8_middle 68 = .ok (.iadd, 1) := by decide +kernel
theorem dX8_middle_69 : decode cX8_middle 69 = .ok (.aload_n 0, 1) := by decide +kernel
theorem dX8_middle_70 : decode cX8_middle 70 = .ok (.getfield 12, 3) := by decide +kernel
theorem dX8_middle_73 : decode cX8_middle 73 = .ok (.getfield 60, 3) := by decide +kernel
theorem dX8_middle_76 : decode cX8_middle 76 = .ok (.iload_n 2, 1) := by decide +kernel
theorem dX8_middle_77 : decode cX8_middle 77 = .ok (.iload_n 3, 1) := by decide +kernel
theorem dX8_middle_78 : decode cX8_middle 78 = .ok (.invokevirtual 75, 3) := by decide +kernel
theorem dX8_middle_81 : decode cX8_middle 81 = .ok (.isub, 1) := by decide +kernel
theorem dX8_middle_82 : decode cX8_middle 82 = .ok (.ireturn, 1) := by decide +kernel
set_option maxRecDepth 20000 in
theorem ggX8_corners_X0_follow : GoodIn wsX8_corners wsX0_follow := goodIn_r _ [10, 11, 12, 13, 14, 15, 16, 17, 18, 19, 20, 21, 22, 23, 24, 25, 26, 27, 28, 29, 30, 31, 32, 33, 34, 35, 36, 37, 38, 39, 40, 41, 42, 43, 44, 45, 46, 47, 48, 9, 49, 50, 51, 52, 53, 54, 55, 56, 57, 58, 59, 60, 61, 62, 63, 64, 65, 66, 67, 68, 69, 70, 71, 72, 73, 74, 75, 76, 77, 78, 79, 80, 81, 82, 83, 84, 85, 86, 87, 88, 89, 90, 91, 92, 93, 94, 95, 96, 97, 98, 99, 100, 101, 102, 103, 104, 105, 106, 107, 108, 109, 110, 111, 112, 113, 114, 115, 130, 131, 132, 133, 134, 135, 136, 137, 138] (by decide +kernel) (by decide +kernel)
set_option maxRecDepth 20000 in
theorem gX8_corners_X0_follow : GoodIn wsX8_corners (wsV RX8 188 RX0 yX0_follow wsX0_follow) := goodIn_app (goodIn_of _ (by decide +kernel)) ggX8_corners_X0_follow
theorem dX8_corners_0 : decode cX8_corners 0 = .ok (.aload_n 0, 1) := by decide +kernel
theorem dX8_corners_1 : decode cX8_corners 1 = .ok (.getfield 42, 3) := by decide +kernel
theorem dX8_corners_4 : decode cX8_corners 4 = .ok (.aload_n 0, 1) := by decide +kernel
theorem dX8_corners_5 : decode cX8_corners 5 = .ok (.getfield 12, 3) := by decide +kernel
theorem dX8_corners_8 : decode cX8_corners 8 = .ok (.getfield 60, 3) := by decide +kernel
theorem dX8_corners_11 : decode cX8_corners 11 = .ok (.invokevirtual 188, 3) := by decide +kernel
theorem dX8_corners_14 : decode cX8_corners 14 = .ok (.aload_n 0, 1) := by decide +kernel
theorem dX8_corners_15 : decode cX8_corners 15 = .ok (.getfield 42, 3) := by decide +kernel
theorem dX8_corners_18 : decode cX8_corners 18 = .ok (.getfield 189, 3) := by decide +kernel
theorem dX8_corners_21 : decode cX8_corners 21 = .ok (.ifCond .eq 13, 3) := by decide +kernel
theorem dX8_corners_24 : decode cX8_corners 24 = .ok (.aload_n 0, 1) := by decide +kernel
theorem dX8_corners_25 : decode cX8_corners 25 = .ok (.getfield 42, 3) := by decide +kernel
theorem dX8_corners_28 : decode cX8_corners 28 = .ok (.getfield 192, 3) := by decide +kernel
theorem dX8_corners_31 : decode cX8_corners 31 = .ok (.goto 5, 3) := by decide +kernel
theorem dX8_corners_34 : decode cX8_corners 34 = .ok (.bipush (-3), 2) := by decide +kernel
theorem dX8_corners_36 : decode cX8_corners 36 = .ok (.ireturn, 1) := by decide +kernel
set_option maxRecDepth 20000 in
theorem ggX8_at_X8_cornerRefusal : GoodIn wsX8_at wsX8_cornerRefusal := goodIn_r _ [8, 3, 1, 2, 9, 10, 11, 12, 13, 14, 15, 16, 17, 18, 19, 20, 21, 22, 23, 24, 25, 26, 27, 28, 29, 30, 31, 32, 33, 34, 35, 36, 37, 38, 39, 40, 41, 42, 43, 44, 45, 46, 47, 48, 49, 50, 51, 52, 53, 54, 55, 56, 57, 58, 59, 60, 61, 62, 63, 64, 65, 66, 67, 68, 69, 70, 71, 72, 73, 74, 75, 76, 77, 78, 79, 80, 81, 82, 83, 84, 85, 86, 87, 88, 89, 90, 91, 92, 93, 94, 95, 96, 97, 98, 99, 100, 101, 102, 103, 104, 105, 106, 107, 108, 109, 110, 111, 112, 113, 114, 115, 116, 117, 118, 119, 120, 123, 124, 125, 126, 127, 128, 129, 130, 131, 132, 133, 134, 135, 136, 137, 138, 139, 140, 141, 142, 143, 144, 145] (by decide +kernel) (by decide +kernel)
set_option maxRecDepth 20000 in
theorem gX8_at_X8_cornerRefusal : GoodIn wsX8_at (wsV RX8 105 RX8 yX8_cornerRefusal wsX8_cornerRefusal) := goodIn_app (goodIn_of _ (by decide +kernel)) ggX8_at_X8_cornerRefusal
set_option maxRecDepth 20000 in
theorem ggX8_at_X4_has : GoodIn wsX8_at wsX4_has := goodIn_r _ [116, 24, 144, 145] (by decide +kernel) (by decide +kernel)
set_option maxRecDepth 20000 in
theorem gX8_at_X4_has : GoodIn wsX8_at (wsV RX8 94 RX4 yX4_has wsX4_has) := goodIn_app (goodIn_of _ (by decide +kernel)) ggX8_at_X4_has
set_option maxRecDepth 20000 in
theorem ggX8_at_X0_number : GoodIn wsX8_at wsX0_number := goodIn_r _ [107, 16, 65, 108, 109, 110, 111, 13, 112, 17, 113, 114, 115, 22, 116, 24, 137, 138, 139, 140, 141, 142, 143, 144, 145] (by decide +kernel) (by decide +kernel)
set_option maxRecDepth 20000 in
theorem gX8_at_X0_number : GoodIn wsX8_at (wsV RX8 193 RX0 yX0_number wsX0_number) := goodIn_app (goodIn_of _ (by decide +kernel)) ggX8_at_X0_number
theorem dX8_at_0 : decode cX8_at 0 = .ok (.aload_n 0, 1) := by decide +kernel
theorem dX8_at_1 : decode cX8_at 1 = .ok (.iload_n 1, 1) := by decide +kernel
theorem dX8_at_2 : decode cX8_at 2 = .ok (.invokevirtual 105, 3) := by decide +kernel
theorem dX8_at_5 : decode cX8_at 5 = .ok (.istore_n 3, 1) := by decide +kernel
theorem dX8_at_6 : decode cX8_at 6 = .ok (.iload_n 3, 1) := by decide +kernel
theorem dX8_at_7 : decode cX8_at 7 = .ok (.ifCond .eq 5, 3) := by decide +kernel
theorem dX8_at_10 : decode cX8_at 10 = .ok (.iload_n 3, 1) := by decide +kernel
theorem dX8_at_11 : decode cX8_at 11 = .ok (.ireturn, 1) := by decide +kernel
theorem dX8_at_12 : decode cX8_at 12 = .ok (.aload_n 0, 1) := by decide +kernel
theorem dX8_at_13 : decode cX8_at 13 = .ok (.getfield 12, 3) := by decide +kernel
theorem dX8_at_16 : decode cX8_at 16 = .ok (.getfield 60, 3) := by decide +kernel
theorem dX8_at_19 : decode cX8_at 19 = .ok (.iload_n 2, 1) := by decide +kernel
theorem dX8_at_20 : decode cX8_at 20 = .ok (.invokevirtual 94, 3) := by decide +kernel
theorem dX8_at_23 : decode cX8_at 23 = .ok (.ifCond .eq 15, 3) := by decide +kernel
theorem dX8_at_26 : decode cX8_at 26 = .ok (.aload_n 0, 1) := by decide +kernel
theorem dX8_at_27 : decode cX8_at 27 = .ok (.getfield 42, 3) := by decide +kernel
theorem dX8_at_30 : decode cX8_at 30 = .ok (.iload_n 1, 1) := by decide +kernel
theorem dX8_at_31 : decode cX8_at 31 = .ok (.iload_n 2, 1) := by decide +kernel
theorem dX8_at_32 : decode cX8_at 32 = .ok (.invokevirtual 193, 3) := by decide +kernel
theorem dX8_at_35 : decode cX8_at 35 = .ok (.goto 4, 3) := by decide +kernel
theorem dX8_at_38 : decode cX8_at 38 = .ok (.iconst (-1), 1) := by decide +kernel
theorem dX8_at_39 : decode cX8_at 39 = .ok (.ireturn, 1) := by decide +kernel
set_option maxRecDepth 20000 in
theorem ggX8_corner_X8_cornerRefusal : GoodIn wsX8_corner wsX8_cornerRefusal := goodIn_r _ [6, 1, 7, 8, 9, 10, 11, 12, 13, 14, 15, 16, 17, 18, 19, 20, 21, 22, 23, 24, 25, 26, 27, 28, 29, 30, 31, 32, 33, 34, 35, 36, 37, 38, 39, 40, 41, 42, 43, 44, 45, 46, 47, 48, 49, 50, 51, 52, 53, 54, 55, 56, 57, 58, 59, 60, 61, 62, 63, 64, 65, 66, 67, 68, 69, 70, 71, 72, 73, 74, 75, 76, 77, 78, 79, 80, 81, 82, 83, 84, 85, 86, 87, 88, 89, 90, 91, 92, 93, 94, 95, 96, 97, 98, 99, 100, 101, 102, 103, 104, 105, 106, 107, 108, 109, 110, 111, 112, 113, 114, 115, 116, 117, 118, 119, 120, 155, 156, 157, 158, 159, 160, 161, 162, 163, 164, 165, 166, 167, 168, 169, 170, 171, 172, 173, 174, 175, 176, 177] (by decide +kernel) (by decide +kernel)
set_option maxRecDepth 20000 in
theorem gX8_corner_X8_cornerRefusal : GoodIn wsX8_corner (wsV RX8 105 RX8 yX8_cornerRefusal wsX8_cornerRefusal) := goodIn_app (goodIn_of _ (by decide +kernel)) ggX8_corner_X8_cornerRefusal
set_option maxRecDepth 20000 in
theorem ggX8_corner_X0_twosAt : GoodIn wsX8_corner wsX0_twosAt := goodIn_r _ [124, 103, 109, 110, 111, 13, 112, 17, 169, 170, 171, 172, 173, 174, 175] (by decide +kernel) (by decide +kernel)
set_option maxRecDepth 20000 in
theorem gX8_corner_X0_twosAt : GoodIn wsX8_corner (wsV RX8 196 RX0 yX0_twosAt wsX0_twosAt) := goodIn_app (goodIn_of _ (by decide +kernel)) ggX8_corner_X0_twosAt
set_option maxRecDepth 20000 in
theorem ggX8_corner_X7_manyTwos : GoodIn wsX8_corner wsX7_manyTwos := goodIn_r _ [127, 128, 129, 130, 131, 132, 133, 134, 135] (by decide +kernel) (by decide +kernel)
set_option maxRecDepth 20000 in
theorem gX8_corner_X7_manyTwos : GoodIn wsX8_corner (va_wsS RX8 199 yX7_manyTwos wsX7_manyTwos) := goodIn_app (goodIn_of _ (by decide +kernel)) ggX8_corner_X7_manyTwos
set_option maxRecDepth 20000 in
theorem ggX8_corner_X0_neighbours : GoodIn wsX8_corner wsX0_neighbours := goodIn_r _ [139, 17, 140, 141, 142, 13, 143, 16, 54, 103, 144, 122, 123, 124, 109, 110, 111, 112, 145, 146, 76, 147, 148, 149, 150, 169, 170, 171, 172, 173, 174, 175, 176, 177] (by decide +kernel) (by decide +kernel)
set_option maxRecDepth 20000 in
theorem gX8_corner_X0_neighbours : GoodIn wsX8_corner (wsV RX8 202 RX0 yX0_neighbours wsX0_neighbours) := goodIn_app (goodIn_of _ (by decide +kernel)) ggX8_corner_X0_neighbours
set_option maxRecDepth 20000 in
theorem ggX8_corner_X0_ownerOf : GoodIn wsX8_corner wsX0_ownerOf := goodIn_r _ [154, 16, 54, 104, 105, 106, 13, 107, 65, 108, 109, 110, 111, 112, 17, 113, 114, 115, 22, 116, 24, 169, 170, 171, 172, 173, 174, 175, 176, 177] (by decide +kernel) (by decide +kernel)
set_option maxRecDepth 20000 in
theorem gX8_corner_X0_ownerOf : GoodIn wsX8_corner (wsV RX8 205 RX0 yX0_ownerOf wsX0_ownerOf) := goodIn_app (goodIn_of _ (by decide +kernel)) ggX8_corner_X0_ownerOf
theorem dX8_corner_0 : decode cX8_corner 0 = .ok (.aload_n 0, 1) := by decide +kernel
theorem dX8_corner_1 : decode cX8_corner 1 = .ok (.iload_n 1, 1) := by decide +kernel
theorem dX8_corner_2 : decode cX8_corner 2 = .ok (.invokevirtual 105, 3) := by decide +kernel
theorem dX8_corner_5 : decode cX8_corner 5 = .ok (.istore_n 3, 1) := by decide +kernel
theorem dX8_corner_6 : decode cX8_corner 6 = .ok (.iload_n 3, 1) := by decide +kernel
theorem dX8_corner_7 : decode cX8_corner 7 = .ok (.ifCond .eq 5, 3) := by decide +kernel
theorem dX8_corner_10 : decode cX8_corner 10 = .ok (.iload_n 3, 1) := by decide +kernel
theorem dX8_corner_11 : decode cX8_corner 11 = .ok (.ireturn, 1) := by decide +kernel
theorem dX8_corner_12 : decode cX8_corner 12 = .ok (.iload_n 2, 1) := by decide +kernel
theorem dX8_corner_13 : decode cX8_corner 13 = .ok (.tableswitch 57 0 2 #[27, 39, 48], 27) := by decide +kernel
theorem dX8_corner_40 : decode cX8_corner 40 = .ok (.aload_n 0, 1) := by decide +kernel
theorem dX8_corner_41 : decode cX8_corner 41 = .ok (.getfield 42, 3) := by decide +kernel
theorem dX8_corner_44 : decode cX8_corner 44 = .ok (.iload_n 1, 1) := by decide +kernel
theorem dX8_corner_45 : decode cX8_corner 45 = .ok (.invokevirtual 196, 3) := by decide +kernel
theorem dX8_corner_48 : decode cX8_corner 48 = .ok (.invokestatic 199, 3) := by decide +kernel
theorem dX8_corner_51 : decode cX8_corner 51 = .ok (.ireturn, 1) := by decide +kernel
theorem dX8_corner_52 : decode cX8_corner 52 = .ok (.aload_n 0, 1) := by decide +kernel
theorem dX8_corner_53 : decode cX8_corner 53 = .ok (.getfield 42, 3) := by decide +kernel
theorem dX8_corner_56 : decode cX8_corner 56 = .ok (.iload_n 1, 1) := by decide +kernel
theorem dX8_corner_57 : decode cX8_corner 57 = .ok (.invokevirtual 202, 3) := by decide +kernel
theorem dX8_corner_60 : decode cX8_corner 60 = .ok (.ireturn, 1) := by decide +kernel
theorem dX8_corner_61 : decode cX8_corner 61 = .ok (.aload_n 0, 1) := by decide +kernel
theorem dX8_corner_62 : decode cX8_corner 62 = .ok (.getfield 42, 3) := by decide +kernel
theorem dX8_corner_65 : decode cX8_corner 65 = .ok (.iload_n 1, 1) := by decide +kernel
theorem dX8_corner_66 : decode cX8_corner 66 = .ok (.invokevirtual 205, 3) := by decide +kernel
theorem dX8_corner_69 : decode cX8_corner 69 = .ok (.ireturn, 1) := by decide +kernel
theorem dX8_corner_70 : decode cX8_corner 70 = .ok (.iconst (-1), 1) := by decide +kernel
theorem dX8_corner_71 : decode cX8_corner 71 = .ok (.ireturn, 1) := by decide +kernel
set_option maxRecDepth 20000 in
theorem ggX8_tight_X8_cornerRefusal : GoodIn wsX8_tight wsX8_cornerRefusal := goodIn_r _ [8, 3, 1, 2, 9, 10, 11, 12, 13, 14, 15, 16, 17, 18, 19, 20, 21, 22, 23, 24, 25, 26, 27, 28, 29, 30, 31, 32, 33, 34, 35, 36, 37, 38, 39, 40, 41, 42, 43, 44, 45, 46, 47, 48, 49, 50, 51, 52, 53, 54, 55, 56, 57, 58, 59, 60, 61, 62, 63, 64, 65, 66, 67, 68, 69, 70, 71, 72, 73, 74, 75, 76, 77, 78, 79, 80, 81, 82, 83, 84, 85, 86, 87, 88, 89, 90, 91, 92, 93, 94, 95, 96, 97, 98, 99, 100, 101, 102, 103, 104, 105, 106, 107, 108, 109, 110, 111, 112, 113, 114, 115, 116, 117, 118, 119, 120, 135, 136, 137, 138, 139, 140, 141, 142, 143, 144, 145, 146, 147, 148, 149, 150, 151, 152, 153, 154, 155, 156, 157] (by decide +kernel) (by decide +kernel)
set_option maxRecDepth 20000 in
theorem gX8_tight_X8_cornerRefusal : GoodIn wsX8_tight (wsV RX8 105 RX8 yX8_cornerRefusal wsX8_cornerRefusal) := goodIn_app (goodIn_of _ (by decide +kernel)) ggX8_tight_X8_cornerRefusal
set_option maxRecDepth 20000 in
theorem ggX8_tight_X4_has : GoodIn wsX8_tight wsX4_has := goodIn_r _ [116, 24, 156, 157] (by decide +kernel) (by decide +kernel)
set_option maxRecDepth 20000 in
theorem gX8_tight_X4_has : GoodIn wsX8_tight (wsV RX8 94 RX4 yX4_has wsX4_has) := goodIn_app (goodIn_of _ (by decide +kernel)) ggX8_tight_X4_has
set_option maxRecDepth 20000 in
theorem ggX8_tight_X0_twosAt : GoodIn wsX8_tight wsX0_twosAt := goodIn_r _ [125, 103, 109, 110, 111, 13, 112, 17, 149, 150, 151, 152, 153, 154, 155] (by decide +kernel) (by decide +kernel)
set_option maxRecDepth 20000 in
theorem gX8_tight_X0_twosAt : GoodIn wsX8_tight (wsV RX8 196 RX0 yX0_twosAt wsX0_twosAt) := goodIn_app (goodIn_of _ (by decide +kernel)) ggX8_tight_X0_twosAt
set_option maxRecDepth 20000 in
theorem ggX8_tight_X7_joins : GoodIn wsX8_tight wsX7_joins := goodIn_r _ [128, 129, 130, 76, 131] (by decide +kernel) (by decide +kernel)
set_option maxRecDepth 20000 in
theorem gX8_tight_X7_joins : GoodIn wsX8_tight (va_wsS RX8 208 yX7_joins wsX7_joins) := goodIn_app (goodIn_of _ (by decide +kernel)) ggX8_tight_X7_joins
set_option maxRecDepth 20000 in
theorem ggX8_tight_X8_oneIf : GoodIn wsX8_tight wsX8_oneIf := goodIn_r _ [134] (by decide +kernel) (by decide +kernel)
set_option maxRecDepth 20000 in
theorem gX8_tight_X8_oneIf : GoodIn wsX8_tight (va_wsS RX8 142 yX8_oneIf wsX8_oneIf) := goodIn_app (goodIn_of _ (by decide +kernel)) ggX8_tight_X8_oneIf
theorem dX8_tight_0 : decode cX8_tight 0 = .ok (.aload_n 0, 1) := by decide +kernel
theorem dX8_tight_1 : decode cX8_tight 1 = .ok (.iload_n 1, 1) := by decide +kernel
theorem dX8_tight_2 : decode cX8_tight 2 = .ok (.invokevirtual 105, 3) := by decide +kernel
theorem dX8_tight_5 : decode cX8_tight 5 = .ok (.istore 4, 2) := by decide +kernel
theorem dX8_tight_7 : decode cX8_tight 7 = .ok (.iload 4, 2) := by decide +kernel
theorem dX8_tight_9 : decode cX8_tight 9 = .ok (.ifCond .eq 6, 3) := by decide +kernel
theorem dX8_tight_12 : decode cX8_tight 12 = .ok (.iload 4, 2) := by decide +kernel
theorem dX8_tight_14 : decode cX8_tight 14 = .ok (.ireturn, 1) := by decide +kernel
theorem dX8_tight_15 : decode cX8_tight 15 = .ok (.aload_n 0, 1) := by decide +kernel
theorem dX8_tight_16 : decode cX8_tight 16 = .ok (.getfield 12, 3) := by decide +kernel
theorem dX8_tight_19 : decode cX8_tight 19 = .ok (.getfield 60, 3) := by decide +kernel
theorem dX8_tight_22 : decode cX8_tight 22 = .ok (.iload_n 2, 1) := by decide +kernel
theorem dX8_tight_23 : decode cX8_tight 23 = .ok (.invokevirtual 94, 3) := by decide +kernel
theorem dX8_tight_26 : decode cX8_tight 26 = .ok (.ifCond .eq 17, 3) := by decide +kernel
theorem dX8_tight_29 : decode cX8_tight 29 = .ok (.aload_n 0, 1) := by decide +kernel
theorem dX8_tight_30 : decode cX8_tight 30 = .ok (.getfield 12, 3) := by decide +kernel
theorem dX8_tight_33 : decode cX8_tight 33 = .ok (.getfield 60, 3) := by decide +kernel
theorem dX8_tight_36 : decode cX8_tight 36 = .ok (.iload_n 3, 1) := by decide +kernel
theorem dX8_tight_37 : decode cX8_tight 37 = .ok (.invokevirtual 94, 3) := by decide +kernel
theorem dX8_tight_40 : decode cX8_tight 40 = .ok (.ifCond .ne 5, 3) := by decide +kernel
theorem dX8_tight_43 : decode cX8_tight 43 = .ok (.iconst (-1), 1) := by decide +kernel
theorem dX8_tight_44 : decode cX8_tight 44 = .ok (.ireturn, 1) := by decide +kernel
theorem dX8_tight_45 : decode cX8_tight 45 = .ok (.aload_n 0, 1) := by decide +kernel
theorem dX8_tight_46 : decode cX8_tight 46 = .ok (.getfield 42, 3) := by decide +kernel
theorem dX8_tight_49 : decode cX8_tight 49 = .ok (.iload_n 1, 1) := by decide +kernel
theorem dX8_tight_50 : decode cX8_tight 50 = .ok (.invokevirtual 196, 3) := by decide +kernel
theorem dX8_tight_53 : decode cX8_tight 53 = .ok (.iload_n 2, 1) := by decide +kernel
theorem dX8_tight_54 : decode cX8_tight 54 = .ok (.iload_n 3, 1) := by decide +kernel
theorem dX8_tight_55 : decode cX8_tight 55 = .ok (.invokestatic 208, 3) := by decide +kernel
theorem dX8_tight_58 : decode cX8_tight 58 = .ok (.invokestatic 142, 3) := by decide +kernel
theorem dX8_tight_61 : decode cX8_tight 61 = .ok (.ireturn, 1) := by decide +kernel
set_option maxRecDepth 20000 in
theorem ggX8_two_X8_cornerRefusal : GoodIn wsX8_two wsX8_cornerRefusal := goodIn_r _ [6, 1, 7, 8, 9, 10, 11, 12, 13, 14, 15, 16, 17, 18, 19, 20, 21, 22, 23, 24, 25, 26, 27, 28, 29, 30, 31, 32, 33, 34, 35, 36, 37, 38, 39, 40, 41, 42, 43, 44, 45, 46, 47, 48, 49, 50, 51, 52, 53, 54, 55, 56, 57, 58, 59, 60, 61, 62, 63, 64, 65, 66, 67, 68, 69, 70, 71, 72, 73, 74, 75, 76, 77, 78, 79, 80, 81, 82, 83, 84, 85, 86, 87, 88, 89, 90, 91, 92, 93, 94, 95, 96, 97, 98, 99, 100, 101, 102, 103, 104, 105, 106, 107, 108, 109, 110, 111, 112, 113, 114, 115, 116, 117, 118, 119, 120, 158, 159, 160, 161, 162, 163, 164, 165, 166, 167, 168, 169, 170, 171, 172, 173, 174, 175, 176, 177, 178, 179, 180] (by decide +kernel) (by decide +kernel)
set_option maxRecDepth 20000 in
theorem gX8_two_X8_cornerRefusal : GoodIn wsX8_two (wsV RX8 105 RX8 yX8_cornerRefusal wsX8_cornerRefusal) := goodIn_app (goodIn_of _ (by decide +kernel)) ggX8_two_X8_cornerRefusal
set_option maxRecDepth 20000 in
theorem ggX8_two_X0_apart : GoodIn wsX8_two wsX0_apart := goodIn_r _ [124, 16, 54, 125, 126, 81, 127, 128, 80, 82, 104, 105, 106, 13, 107, 65, 108, 109, 110, 111, 112, 17, 113, 114, 115, 22, 116, 24, 172, 173, 174, 175, 176, 177, 178, 179, 180] (by decide +kernel) (by decide +kernel)
set_option maxRecDepth 20000 in
theorem gX8_two_X0_apart : GoodIn wsX8_two (wsV RX8 211 RX0 yX0_apart wsX0_apart) := goodIn_app (goodIn_of _ (by decide +kernel)) ggX8_two_X0_apart
set_option maxRecDepth 20000 in
theorem ggX8_two_X0_areBeside : GoodIn wsX8_two wsX0_areBeside := goodIn_r _ [132, 16, 54, 17, 103, 133, 134, 135, 13, 136, 109, 110, 111, 112, 137, 138, 76, 139, 140, 141, 142, 172, 173, 174, 175, 176, 177, 178, 179, 180] (by decide +kernel) (by decide +kernel)
set_option maxRecDepth 20000 in
theorem gX8_two_X0_areBeside : GoodIn wsX8_two (wsV RX8 214 RX0 yX0_areBeside wsX0_areBeside) := goodIn_app (goodIn_of _ (by decide +kernel)) ggX8_two_X0_areBeside
set_option maxRecDepth 20000 in
theorem ggX8_two_X8_oneIf : GoodIn wsX8_two wsX8_oneIf := goodIn_r _ [145] (by decide +kernel) (by decide +kernel)
set_option maxRecDepth 20000 in
theorem gX8_two_X8_oneIf : GoodIn wsX8_two (va_wsS RX8 142 yX8_oneIf wsX8_oneIf) := goodIn_app (goodIn_of _ (by decide +kernel)) ggX8_two_X8_oneIf
set_option maxRecDepth 20000 in
theorem ggX8_two_X0_twosAt : GoodIn wsX8_two wsX0_twosAt := goodIn_r _ [136, 103, 109, 110, 111, 13, 112, 17, 172, 173, 174, 175, 176, 177, 178] (by decide +kernel) (by decide +kernel)
set_option maxRecDepth 20000 in
theorem gX8_two_X0_twosAt : GoodIn wsX8_two (wsV RX8 196 RX0 yX0_twosAt wsX0_twosAt) := goodIn_app (goodIn_of _ (by decide +kernel)) ggX8_two_X0_twosAt
set_option maxRecDepth 20000 in
theorem ggX8_two_X7_manyTwos : GoodIn wsX8_two wsX7_manyTwos := goodIn_r _ [149, 150, 151, 152, 153, 154, 155, 156, 157] (by decide +kernel) (by decide +kernel)
set_option maxRecDepth 20000 in
theorem gX8_two_X7_manyTwos : GoodIn wsX8_two (va_wsS RX8 199 yX7_manyTwos wsX7_manyTwos) := goodIn_app (goodIn_of _ (by decide +kernel)) ggX8_two_X7_manyTwos
theorem dX8_two_0 : decode cX8_two 0 = .ok (.aload_n 0, 1) := by decide +kernel
theorem dX8_two_1 : decode cX8_two 1 = .ok (.iload_n 1, 1) := by decide +kernel
theorem dX8_two_2 : decode cX8_two 2 = .ok (.invokevirtual 105, 3) := by decide +kernel
theorem dX8_two_5 : decode cX8_two 5 = .ok (.istore 4, 2) := by decide +kernel
theorem dX8_two_7 : decode cX8_two 7 = .ok (.iload 4, 2) := by decide +kernel
theorem dX8_two_9 : decode cX8_two 9 = .ok (.ifCond .ne 10, 3) := by decide +kernel
theorem dX8_two_12 : decode cX8_two 12 = .ok (.aload_n 0, 1) := by decide +kernel
theorem dX8_two_13 : decode cX8_two 13 = .ok (.iload_n 2, 1) := by decide +kernel
theorem dX8_two_14 : decode cX8_two 14 = .ok (.invokevirtual 105, 3) := by decide +kernel
theorem dX8_two_17 : decode cX8_two 17 = .ok (.istore 4, 2) := by decide +kernel
theorem dX8_two_19 : decode cX8_two 19 = .ok (.iload 4, 2) := by decide +kernel
theorem dX8_two_21 : decode cX8_two 21 = .ok (.ifCond .eq 6, 3) := by decide +kernel
theorem dX8_two_24 : decode cX8_two 24 = .ok (.iload 4, 2) := by decide +kernel
theorem dX8_two_26 : decode cX8_two 26 = .ok (.ireturn, 1) := by decide +kernel
theorem dX8_two_27 : decode cX8_two 27 = .ok (.iload_n 3, 1) := by decide +kernel
theorem dX8_two_28 : decode cX8_two 28 = .ok (.tableswitch 72 0 2 #[28, 38, 51], 28) := by decide +kernel
theorem dX8_two_56 : decode cX8_two 56 = .ok (.aload_n 0, 1) := by decide +kernel
theorem dX8_two_57 : decode cX8_two 57 = .ok (.getfield 42, 3) := by decide +kernel
theorem dX8_two_60 : decode cX8_two 60 = .ok (.iload_n 1, 1) := by decide +kernel
theorem dX8_two_61 : decode cX8_two 61 = .ok (.iload_n 2, 1) := by decide +kernel
theorem dX8_two_62 : decode cX8_two 62 = .ok (.invokevirtual 211, 3) := by decide +kernel
theorem dX8_two_65 : decode cX8_two 65 = .ok (.ireturn, 1) := by decide +kernel
theorem dX8_two_66 : decode cX8_two 66 = .ok (.aload_n 0, 1) := by decide +kernel
theorem dX8_two_67 : decode cX8_two 67 = .ok (.getfield 42, 3) := by decide +kernel
theorem dX8_two_70 : decode cX8_two 70 = .ok (.iload_n 1, 1) := by decide +kernel
theorem dX8_two_71 : decode cX8_two 71 = .ok (.iload_n 2, 1) := by decide +kernel
theorem dX8_two_72 : decode cX8_two 72 = .ok (.invokevirtual 214, 3) := by decide +kernel
theorem dX8_two_75 : decode cX8_two 75 = .ok (.invokestatic 142, 3) := by decide +kernel
theorem dX8_two_78 : decode cX8_two 78 = .ok (.ireturn, 1) := by decide +kernel
theorem dX8_two_79 : decode cX8_two 79 = .ok (.aload_n 0, 1) := by decide +kernel
theorem dX8_two_80 : decode cX8_two 80 = .ok (.getfield 42, 3) := by decide +kernel
theorem dX8_two_83 : decode cX8_two 83 = .ok (.iload_n 1, 1) := by decide +kernel
theorem dX8_two_84 : decode cX8_two 84 = .ok (.invokevirtual 196, 3) := by decide +kernel
theorem dX8_two_87 : decode cX8_two 87 = .ok (.aload_n 0, 1) := by decide +kernel
theorem dX8_two_88 : decode cX8_two 88 = .ok (.getfield 42, 3) := by decide +kernel
theorem dX8_two_91 : decode cX8_two 91 = .ok (.iload_n 2, 1) := by decide +kernel
theorem dX8_two_92 : decode cX8_two 92 = .ok (.invokevirtual 196, 3) := by decide +kernel
theorem dX8_two_95 : decode cX8_two 95 = .ok (.iand, 1) := by decide +kernel
theorem dX8_two_96 : decode cX8_two 96 = .ok (.invokestatic 199, 3) := by decide +kernel
theorem dX8_two_99 : decode cX8_two 99 = .ok (.ireturn, 1) := by decide +kernel
theorem dX8_two_100 : decode cX8_two 100 = .ok (.iconst (-1), 1) := by decide +kernel
theorem dX8_two_101 : decode cX8_two 101 = .ok (.ireturn, 1) := by decide +kernel
set_option maxRecDepth 20000 in
theorem ggX8_eye_X0_follow : GoodIn wsX8_eye wsX0_follow := goodIn_r _ [9, 10, 11, 12, 13, 14, 15, 16, 17, 18, 19, 20, 21, 22, 23, 24, 25, 26, 27, 28, 29, 30, 31, 32, 33, 34, 35, 36, 37, 38, 39, 40, 41, 42, 43, 44, 45, 46, 47, 8, 48, 49, 50, 51, 52, 53, 54, 55, 56, 57, 58, 59, 60, 61, 62, 63, 64, 65, 66, 67, 68, 69, 70, 71, 72, 73, 74, 75, 76, 77, 78, 79, 80, 81, 82, 83, 84, 85, 86, 87, 88, 89, 90, 91, 92, 93, 94, 95, 96, 97, 98, 99, 100, 101, 102, 103, 104, 105, 106, 107, 108, 109, 110, 111, 112, 113, 114, 134, 135, 136, 137, 138, 139, 140, 141, 142] (by decide +kernel) (by decide +kernel)
set_option maxRecDepth 20000 in
theorem gX8_eye_X0_follow : GoodIn wsX8_eye (wsV RX8 188 RX0 yX0_follow wsX0_follow) := goodIn_app (goodIn_of _ (by decide +kernel)) ggX8_eye_X0_follow
set_option maxRecDepth 20000 in
theorem ggX8_eye_X4_has : GoodIn wsX8_eye wsX4_has := goodIn_r _ [111, 19, 141, 142] (by decide +kernel) (by decide +kernel)
set_option maxRecDepth 20000 in
theorem gX8_eye_X4_has : GoodIn wsX8_eye (wsV RX8 94 RX4 yX4_has wsX4_has) := goodIn_app (goodIn_of _ (by decide +kernel)) ggX8_eye_X4_has
set_option maxRecDepth 20000 in
theorem ggX8_eye_X0_eyeOf : GoodIn wsX8_eye wsX0_eyeOf := goodIn_r _ [119, 12, 99, 100, 101, 8, 102, 11, 60, 103, 104, 105, 106, 107, 108, 109, 110, 17, 111, 19, 134, 135, 136, 137, 138, 139, 140, 141, 142] (by decide +kernel) (by decide +kernel)
set_option maxRecDepth 20000 in
theorem gX8_eye_X0_eyeOf : GoodIn wsX8_eye (wsV RX8 217 RX0 yX0_eyeOf wsX0_eyeOf) := goodIn_app (goodIn_of _ (by decide +kernel)) ggX8_eye_X0_eyeOf
theorem dX8_eye_0 : decode cX8_eye 0 = .ok (.aload_n 0, 1) := by decide +kernel
theorem dX8_eye_1 : decode cX8_eye 1 = .ok (.getfield 42, 3) := by decide +kernel
theorem dX8_eye_4 : decode cX8_eye 4 = .ok (.aload_n 0, 1) := by decide +kernel
theorem dX8_eye_5 : decode cX8_eye 5 = .ok (.getfield 12, 3) := by decide +kernel
theorem dX8_eye_8 : decode cX8_eye 8 = .ok (.getfield 60, 3) := by decide +kernel
theorem dX8_eye_11 : decode cX8_eye 11 = .ok (.invokevirtual 188, 3) := by decide +kernel
theorem dX8_eye_14 : decode cX8_eye 14 = .ok (.aload_n 0, 1) := by decide +kernel
theorem dX8_eye_15 : decode cX8_eye 15 = .ok (.getfield 42, 3) := by decide +kernel
theorem dX8_eye_18 : decode cX8_eye 18 = .ok (.getfield 189, 3) := by decide +kernel
theorem dX8_eye_21 : decode cX8_eye 21 = .ok (.ifCond .ne 6, 3) := by decide +kernel
theorem dX8_eye_24 : decode cX8_eye 24 = .ok (.bipush (-3), 2) := by decide +kernel
theorem dX8_eye_26 : decode cX8_eye 26 = .ok (.ireturn, 1) := by decide +kernel
theorem dX8_eye_27 : decode cX8_eye 27 = .ok (.aload_n 0, 1) := by decide +kernel
theorem dX8_eye_28 : decode cX8_eye 28 = .ok (.getfield 12, 3) := by decide +kernel
theorem dX8_eye_31 : decode cX8_eye 31 = .ok (.getfield 60, 3) := by decide +kernel
theorem dX8_eye_34 : decode cX8_eye 34 = .ok (.iload_n 1, 1) := by decide +kernel
theorem dX8_eye_35 : decode cX8_eye 35 = .ok (.invokevirtual 94, 3) := by decide +kernel
theorem dX8_eye_38 : decode cX8_eye 38 = .ok (.ifCond .eq 14, 3) := by decide +kernel
theorem dX8_eye_41 : decode cX8_eye 41 = .ok (.aload_n 0, 1) := by decide +kernel
theorem dX8_eye_42 : decode cX8_eye 42 = .ok (.getfield 42, 3) := by decide +kernel
theorem dX8_eye_45 : decode cX8_eye 45 = .ok (.iload_n 1, 1) := by decide +kernel
theorem dX8_eye_46 : decode cX8_eye 46 = .ok (.invokevirtual 217, 3) := by decide +kernel
theorem dX8_eye_49 : decode cX8_eye 49 = .ok (.goto 4, 3) := by decide +kernel
theorem dX8_eye_52 : decode cX8_eye 52 = .ok (.iconst (-1), 1) := by decide +kernel
theorem dX8_eye_53 : decode cX8_eye 53 = .ok (.ireturn, 1) := by decide +kernel
set_option maxRecDepth 20000 in
theorem ggX8_weight_X4_isSplit : GoodIn wsX8_weight wsX4_isSplit := goodIn_r _ [7, 8, 43, 44] (by decide +kernel) (by decide +kernel)
set_option maxRecDepth 20000 in
theorem gX8_weight_X4_isSplit : GoodIn wsX8_weight (wsV RX8 220 RX4 yX4_isSplit wsX4_isSplit) := goodIn_app (goodIn_of _ (by decide +kernel)) ggX8_weight_X4_isSplit
set_option maxRecDepth 20000 in
theorem ggX8_weight_X4_weightOf : GoodIn wsX8_weight wsX4_weightOf := goodIn_r _ [12, 8, 13, 14, 15, 16, 17, 18, 19, 6, 20, 21, 22, 23, 24, 25, 26, 27, 28, 43, 44] (by decide +kernel) (by decide +kernel)
set_option maxRecDepth 20000 in
theorem gX8_weight_X4_weightOf : GoodIn wsX8_weight (wsV RX8 223 RX4 yX4_weightOf wsX4_weightOf) := goodIn_app (goodIn_of _ (by decide +kernel)) ggX8_weight_X4_weightOf
theorem dX8_weight_0 : decode cX8_weight 0 = .ok (.aload_n 0, 1) := by decide +kernel
theorem dX8_weight_1 : decode cX8_weight 1 = .ok (.getfield 12, 3) := by decide +kernel
theorem dX8_weight_4 : decode cX8_weight 4 = .ok (.getfield 60, 3) := by decide +kernel
theorem dX8_weight_7 : decode cX8_weight 7 = .ok (.iload_n 1, 1) := by decide +kernel
theorem dX8_weight_8 : decode cX8_weight 8 = .ok (.invokevirtual 220, 3) := by decide +kernel
theorem dX8_weight_11 : decode cX8_weight 11 = .ok (.ifCond .eq 17, 3) := by decide +kernel
theorem dX8_weight_14 : decode cX8_weight 14 = .ok (.aload_n 0, 1) := by decide +kernel
theorem dX8_weight_15 : decode cX8_weight 15 = .ok (.getfield 12, 3) := by decide +kernel
theorem dX8_weight_18 : decode cX8_weight 18 = .ok (.getfield 60, 3) := by decide +kernel
theorem dX8_weight_21 : decode cX8_weight 21 = .ok (.iload_n 1, 1) := by decide +kernel
theorem dX8_weight_22 : decode cX8_weight 22 = .ok (.invokevirtual 223, 3) := by decide +kernel
theorem dX8_weight_25 : decode cX8_weight 25 = .ok (.goto 4, 3) := by decide +kernel
theorem dX8_weight_28 : decode cX8_weight 28 = .ok (.iconst (-1), 1) := by decide +kernel
theorem dX8_weight_29 : decode cX8_weight 29 = .ok (.ireturn, 1) := by decide +kernel
set_option maxRecDepth 20000 in
theorem ggX8_split_X3_follow : GoodIn wsX8_split wsX3_follow := goodIn_r _ [11, 12, 13, 14, 15, 16, 17, 18, 19, 20, 21, 22, 23, 24, 25, 26, 27, 28, 29, 30, 31, 32, 33, 34, 35, 36, 37, 38, 39, 40, 41, 42, 43, 44, 45, 46, 47, 48, 49, 50, 51, 52, 53, 54, 55, 56, 10, 57, 58, 59, 74, 75, 76, 77, 78, 79, 80] (by decide +kernel) (by decide +kernel)
set_option maxRecDepth 20000 in
theorem gX8_split_X3_follow : GoodIn wsX8_split (wsV RX8 132 RX3 yX3_follow wsX3_follow) := goodIn_app (goodIn_of _ (by decide +kernel)) ggX8_split_X3_follow
theorem dX8_split_0 : decode cX8_split 0 = .ok (.iload_n 1, 1) := by decide +kernel
theorem dX8_split_1 : decode cX8_split 1 = .ok (.ifCond .lt 12, 3) := by decide +kernel
theorem dX8_split_4 : decode cX8_split 4 = .ok (.iload_n 2, 1) := by decide +kernel
theorem dX8_split_5 : decode cX8_split 5 = .ok (.ifCond .lt 8, 3) := by decide +kernel
theorem dX8_split_8 : decode cX8_split 8 = .ok (.iload_n 2, 1) := by decide +kernel
theorem dX8_split_9 : decode cX8_split 9 = .ok (.iconst 1, 1) := by decide +kernel
theorem dX8_split_10 : decode cX8_split 10 = .ok (.if_icmp .le 5, 3) := by decide +kernel
theorem dX8_split_13 : decode cX8_split 13 = .ok (.iconst (-1), 1) := by decide +kernel
theorem dX8_split_14 : decode cX8_split 14 = .ok (.ireturn, 1) := by decide +kernel
theorem dX8_split_15 : decode cX8_split 15 = .ok (.aload_n 0, 1) := by decide +kernel
theorem dX8_split_16 : decode cX8_split 16 = .ok (.getfield 35, 3) := by decide +kernel
theorem dX8_split_19 : decode cX8_split 19 = .ok (.aload_n 0, 1) := by decide +kernel
theorem dX8_split_20 : decode cX8_split 20 = .ok (.getfield 12, 3) := by decide +kernel
theorem dX8_split_23 : decode cX8_split 23 = .ok (.getfield 60, 3) := by decide +kernel
theorem dX8_split_26 : decode cX8_split 26 = .ok (.invokevirtual 132, 3) := by decide +kernel
theorem dX8_split_29 : decode cX8_split 29 = .ok (.iload_n 1, 1) := by decide +kernel
theorem dX8_split_30 : decode cX8_split 30 = .ok (.aload_n 0, 1) := by decide +kernel
theorem dX8_split_31 : decode cX8_split 31 = .ok (.getfield 35, 3) := by decide +kernel
theorem dX8_split_34 : decode cX8_split 34 = .ok (.getfield 149, 3) := by decide +kernel
theorem dX8_split_37 : decode cX8_split 37 = .ok (.if_icmp .lt 6, 3) := by decide +kernel
theorem dX8_split_40 : decode cX8_split 40 = .ok (.bipush (-5), 2) := by decide +kernel
theorem dX8_split_42 : decode cX8_split 42 = .ok (.ireturn, 1) := by decide +kernel
theorem dX8_split_43 : decode cX8_split 43 = .ok (.iload_n 2, 1) := by decide +kernel
theorem dX8_split_44 : decode cX8_split 44 = .ok (.ifCond .ne 15, 3) := by decide +kernel
theorem dX8_split_47 : decode cX8_split 47 = .ok (.aload_n 0, 1) := by decide +kernel
theorem dX8_split_48 : decode cX8_split 48 = .ok (.getfield 35, 3) := by decide +kernel
theorem dX8_split_51 : decode cX8_split 51 = .ok (.getfield 226, 3) := by decide +kernel
theorem dX8_split_54 : decode cX8_split 54 = .ok (.iload_n 1, 1) := by decide +kernel
theorem dX8_split_55 : decode cX8_split 55 = .ok (.iaload, 1) := by decide +kernel
theorem dX8_split_56 : decode cX8_split 56 = .ok (.goto 12, 3) := by decide +kernel
theorem dX8_split_59 : decode cX8_split 59 = .ok (.aload_n 0, 1) := by decide +kernel
theorem dX8_split_60 : decode cX8_split 60 = .ok (.getfield 35, 3) := by decide +kernel
theorem dX8_split_63 : decode cX8_split 63 = .ok (.getfield 229, 3) := by decide +kernel
theorem dX8_split_66 : decode cX8_split 66 = .ok (.iload_n 1, 1) := by decide +kernel
theorem dX8_split_67 : decode cX8_split 67 = .ok (.iaload, 1) := by decide +kernel
theorem dX8_split_68 : decode cX8_split 68 = .ok (.ireturn, 1) := by decide +kernel
set_option maxRecDepth 20000 in
theorem ggX8_see_X1_empty : GoodIn wsX8_see wsX1_empty := goodIn_r _ [9, 10, 37, 38, 39] (by decide +kernel) (by decide +kernel)
set_option maxRecDepth 20000 in
theorem gX8_see_X1_empty : GoodIn wsX8_see (wsV RX8 236 RX1 yX1_empty wsX1_empty) := goodIn_app (goodIn_of _ (by decide +kernel)) ggX8_see_X1_empty
set_option maxRecDepth 20000 in
theorem ggX8_see_X4_isSplit : GoodIn wsX8_see wsX4_isSplit := goodIn_r _ [15, 16, 40, 41] (by decide +kernel) (by decide +kernel)
set_option maxRecDepth 20000 in
theorem gX8_see_X4_isSplit : GoodIn wsX8_see (wsV RX8 220 RX4 yX4_isSplit wsX4_isSplit) := goodIn_app (goodIn_of _ (by decide +kernel)) ggX8_see_X4_isSplit
set_option maxRecDepth 20000 in
theorem ggX8_see_X1_add : GoodIn wsX8_see wsX1_add := goodIn_r _ [20, 10, 21, 22, 37, 38, 39] (by decide +kernel) (by decide +kernel)
set_option maxRecDepth 20000 in
theorem gX8_see_X1_add : GoodIn wsX8_see (wsV RX8 239 RX1 yX1_add wsX1_add) := goodIn_app (goodIn_of _ (by decide +kernel)) ggX8_see_X1_add
theorem dX8_see_0 : decode cX8_see 0 = .ok (.iload_n 1, 1) := by decide +kernel
theorem dX8_see_1 : decode cX8_see 1 = .ok (.iconst (-1), 1) := by decide +kernel
theorem dX8_see_2 : decode cX8_see 2 = .ok (.if_icmp .ne 15, 3) := by decide +kernel
theorem dX8_see_5 : decode cX8_see 5 = .ok (.aload_n 0, 1) := by decide +kernel
theorem dX8_see_6 : decode cX8_see 6 = .ok (.getfield 12, 3) := by decide +kernel
theorem dX8_see_9 : decode cX8_see 9 = .ok (.getfield 232, 3) := by decide +kernel
theorem dX8_see_12 : decode cX8_see 12 = .ok (.invokevirtual 236, 3) := by decide +kernel
theorem dX8_see_15 : decode cX8_see 15 = .ok (.iconst 0, 1) := by decide +kernel
theorem dX8_see_16 : decode cX8_see 16 = .ok (.ireturn, 1) := by decide +kernel
theorem dX8_see_17 : decode cX8_see 17 = .ok (.aload_n 0, 1) := by decide +kernel
theorem dX8_see_18 : decode cX8_see 18 = .ok (.getfield 12, 3) := by decide +kernel
theorem dX8_see_21 : decode cX8_see 21 = .ok (.getfield 60, 3) := by decide +kernel
theorem dX8_see_24 : decode cX8_see 24 = .ok (.iload_n 1, 1) := by decide +kernel
theorem dX8_see_25 : decode cX8_see 25 = .ok (.invokevirtual 220, 3) := by decide +kernel
theorem dX8_see_28 : decode cX8_see 28 = .ok (.ifCond .ne 5, 3) := by decide +kernel
theorem dX8_see_31 : decode cX8_see 31 = .ok (.iconst (-1), 1) := by decide +kernel
theorem dX8_see_32 : decode cX8_see 32 = .ok (.ireturn, 1) := by decide +kernel
theorem dX8_see_33 : decode cX8_see 33 = .ok (.iload_n 2, 1) := by decide +kernel
theorem dX8_see_34 : decode cX8_see 34 = .ok (.ifCond .lt 9, 3) := by decide +kernel
theorem dX8_see_37 : decode cX8_see 37 = .ok (.iload_n 2, 1) := by decide +kernel
theorem dX8_see_38 : decode cX8_see 38 = .ok (.bipush 99, 2) := by decide +kernel
theorem dX8_see_40 : decode cX8_see 40 = .ok (.if_icmp .le 6, 3) := by decide +kernel
theorem dX8_see_43 : decode cX8_see 43 = .ok (.bipush (-2), 2) := by decide +kernel
theorem dX8_see_45 : decode cX8_see 45 = .ok (.ireturn, 1) := by decide +kernel
theorem dX8_see_46 : decode cX8_see 46 = .ok (.aload_n 0, 1) := by decide +kernel
theorem dX8_see_47 : decode cX8_see 47 = .ok (.getfield 12, 3) := by decide +kernel
theorem dX8_see_50 : decode cX8_see 50 = .ok (.getfield 232, 3) := by decide +kernel
theorem dX8_see_53 : decode cX8_see 53 = .ok (.iload_n 1, 1) := by decide +kernel
theorem dX8_see_54 : decode cX8_see 54 = .ok (.iload_n 2, 1) := by decide +kernel
theorem dX8_see_55 : decode cX8_see 55 = .ok (.iconst 0, 1) := by decide +kernel
theorem dX8_see_56 : decode cX8_see 56 = .ok (.invokevirtual 239, 3) := by decide +kernel
theorem dX8_see_59 : decode cX8_see 59 = .ok (.ifCond .eq 16, 3) := by decide +kernel
theorem dX8_see_62 : decode cX8_see 62 = .ok (.aload_n 0, 1) := by decide +kernel
theorem dX8_see_63 : decode cX8_see 63 = .ok (.getfield 12, 3) := by decide +kernel
theorem dX8_see_66 : decode cX8_see 66 = .ok (.getfield 232, 3) := by decide +kernel
theorem dX8_see_69 : decode cX8_see 69 = .ok (.getfield 241, 3) := by decide +kernel
theorem dX8_see_72 : decode cX8_see 72 = .ok (.goto 5, 3) := by decide +kernel
theorem dX8_see_75 : decode cX8_see 75 = .ok (.bipush (-4), 2) := by decide +kernel
theorem dX8_see_77 : decode cX8_see 77 = .ok (.ireturn, 1) := by decide +kernel
set_option maxRecDepth 20000 in
theorem ggX8_fits_X4_areTwo : GoodIn wsX8_fits wsX4_areTwo := goodIn_r _ [8, 9, 83, 84] (by decide +kernel) (by decide +kernel)
set_option maxRecDepth 20000 in
theorem gX8_fits_X4_areTwo : GoodIn wsX8_fits (wsV RX8 71 RX4 yX4_areTwo wsX4_areTwo) := goodIn_app (goodIn_of _ (by decide +kernel)) ggX8_fits_X4_areTwo
set_option maxRecDepth 20000 in
theorem ggX8_fits_X4_become : GoodIn wsX8_fits wsX4_become := goodIn_r _ [13, 9, 14, 15, 16, 17, 18, 83, 84] (by decide +kernel) (by decide +kernel)
set_option maxRecDepth 20000 in
theorem gX8_fits_X4_become : GoodIn wsX8_fits (wsV RX8 83 RX4 yX4_become wsX4_become) := goodIn_app (goodIn_of _ (by decide +kernel)) ggX8_fits_X4_become
set_option maxRecDepth 20000 in
theorem ggX8_fits_X4_put : GoodIn wsX8_fits wsX4_put := goodIn_r _ [22, 14, 23, 5, 6, 7, 8, 9, 83, 84] (by decide +kernel) (by decide +kernel)
set_option maxRecDepth 20000 in
theorem gX8_fits_X4_put : GoodIn wsX8_fits (wsV RX8 242 RX4 yX4_put wsX4_put) := goodIn_app (goodIn_of _ (by decide +kernel)) ggX8_fits_X4_put
set_option maxRecDepth 20000 in
theorem ggX8_fits_X4_isTable : GoodIn wsX8_fits wsX4_isTable := goodIn_r _ [27, 28, 29, 30, 7, 31, 9, 32, 33, 34, 35, 14, 83, 84] (by decide +kernel) (by decide +kernel)
set_option maxRecDepth 20000 in
theorem gX8_fits_X4_isTable : GoodIn wsX8_fits (wsV RX8 138 RX4 yX4_isTable wsX4_isTable) := goodIn_app (goodIn_of _ (by decide +kernel)) ggX8_fits_X4_isTable
set_option maxRecDepth 20000 in
theorem ggX8_fits_X2_isAsSeen : GoodIn wsX8_fits wsX2_isAsSeen := goodIn_r _ [40, 41, 42, 43, 44, 45, 46, 47, 48, 49, 50, 51, 52, 7, 53, 9, 54, 55, 56, 57, 58, 59, 60, 61, 62, 63, 64, 65, 66, 67, 68, 32, 33, 34, 35, 14, 77, 78, 79, 80, 81, 82, 85, 86, 87, 83, 84] (by decide +kernel) (by decide +kernel)
set_option maxRecDepth 20000 in
theorem gX8_fits_X2_isAsSeen : GoodIn wsX8_fits (wsV RX8 246 RX2 yX2_isAsSeen wsX2_isAsSeen) := goodIn_app (goodIn_of _ (by decide +kernel)) ggX8_fits_X2_isAsSeen
theorem dX8_fits_0 : decode cX8_fits 0 = .ok (.aload_n 0, 1) := by decide +kernel
theorem dX8_fits_1 : decode cX8_fits 1 = .ok (.getfield 12, 3) := by decide +kernel
theorem dX8_fits_4 : decode cX8_fits 4 = .ok (.getfield 60, 3) := by decide +kernel
theorem dX8_fits_7 : decode cX8_fits 7 = .ok (.iload_n 1, 1) := by decide +kernel
theorem dX8_fits_8 : decode cX8_fits 8 = .ok (.iload_n 2, 1) := by decide +kernel
theorem dX8_fits_9 : decode cX8_fits 9 = .ok (.invokevirtual 71, 3) := by decide +kernel
theorem dX8_fits_12 : decode cX8_fits 12 = .ok (.ifCond .eq 12, 3) := by decide +kernel
theorem dX8_fits_15 : decode cX8_fits 15 = .ok (.iload_n 3, 1) := by decide +kernel
theorem dX8_fits_16 : decode cX8_fits 16 = .ok (.ifCond .lt 8, 3) := by decide +kernel
theorem dX8_fits_19 : decode cX8_fits 19 = .ok (.iload_n 3, 1) := by decide +kernel
theorem dX8_fits_20 : decode cX8_fits 20 = .ok (.iconst 1, 1) := by decide +kernel
theorem dX8_fits_21 : decode cX8_fits 21 = .ok (.if_icmp .le 5, 3) := by decide +kernel
theorem dX8_fits_24 : decode cX8_fits 24 = .ok (.iconst (-1), 1) := by decide +kernel
theorem dX8_fits_25 : decode cX8_fits 25 = .ok (.ireturn, 1) := by decide +kernel
theorem dX8_fits_26 : decode cX8_fits 26 = .ok (.aload_n 0, 1) := by decide +kernel
theorem dX8_fits_27 : decode cX8_fits 27 = .ok (.getfield 28, 3) := by decide +kernel
theorem dX8_fits_30 : decode cX8_fits 30 = .ok (.aload_n 0, 1) := by decide +kernel
theorem dX8_fits_31 : decode cX8_fits 31 = .ok (.getfield 12, 3) := by decide +kernel
theorem dX8_fits_34 : decode cX8_fits 34 = .ok (.getfield 60, 3) := by decide +kernel
theorem dX8_fits_37 : decode cX8_fits 37 = .ok (.invokevirtual 83, 3) := by decide +kernel
theorem dX8_fits_40 : decode cX8_fits 40 = .ok (.iconst 0, 1) := by decide +kernel
theorem dX8_fits_41 : decode cX8_fits 41 = .ok (.istore 4, 2) := by decide +kernel
theorem dX8_fits_43 : decode cX8_fits 43 = .ok (.bipush (-5), 2) := by decide +kernel
theorem dX8_fits_45 : decode cX8_fits 45 = .ok (.istore 5, 2) := by decide +kernel
theorem dX8_fits_47 : decode cX8_fits 47 = .ok (.iconst 0, 1) := by decide +kernel
theorem dX8_fits_48 : decode cX8_fits 48 = .ok (.istore 6, 2) := by decide +kernel
theorem dX8_fits_50 : decode cX8_fits 50 = .ok (.iload 6, 2) := by decide +kernel
theorem dX8_fits_52 : decode cX8_fits 52 = .ok (.bipush 40, 2) := by decide +kernel
theorem dX8_fits_54 : decode cX8_fits 54 = .ok (.if_icmp .gt 63, 3) := by decide +kernel
theorem dX8_fits_57 : decode cX8_fits 57 = .ok (.aload_n 0, 1) := by decide +kernel
theorem dX8_fits_58 : decode cX8_fits 58 = .ok (.getfield 28, 3) := by decide +kernel
theorem dX8_fits_61 : decode cX8_fits 61 = .ok (.iload_n 1, 1) := by decide +kernel
theorem dX8_fits_62 : decode cX8_fits 62 = .ok (.iload_n 2, 1) := by decide +kernel
theorem dX8_fits_63 : decode cX8_fits 63 = .ok (.iload 6, 2) := by decide +kernel
theorem dX8_fits_65 : decode cX8_fits 65 = .ok (.invokevirtual 242, 3) := by decide +kernel
theorem dX8_fits_68 : decode cX8_fits 68 = .ok (.aload_n 0, 1) := by decide +kernel
theorem dX8_fits_69 : decode cX8_fits 69 = .ok (.getfield 28, 3) := by decide +kernel
theorem dX8_fits_72 : decode cX8_fits 72 = .ok (.invokevirtual 138, 3) := by decide +kernel
theorem dX8_fits_75 : decode cX8_fits 75 = .ok (.ifCond .eq 36, 3) := by decide +kernel
theorem dX8_fits_78 : decode cX8_fits 78 = .ok (.aload_n 0, 1) := by decide +kernel
theorem dX8_fits_79 : decode cX8_fits 79 = .ok (.getfield 12, 3) := by decide +kernel
theorem dX8_fits_82 : decode cX8_fits 82 = .ok (.aload_n 0, 1) := by decide +kernel
theorem dX8_fits_83 : decode cX8_fits 83 = .ok (.getfield 28, 3) := by decide +kernel
theorem dX8_fits_86 : decode cX8_fits 86 = .ok (.invokevirtual 246, 3) := by decide +kernel
theorem dX8_fits_89 : decode cX8_fits 89 = .ok (.ifCond .eq 22, 3) := by decide +kernel
theorem dX8_fits_92 : decode cX8_fits 92 = .ok (.iinc 4 1, 3) := by decide +kernel
theorem dX8_fits_95 : decode cX8_fits 95 = .ok (.iload 5, 2) := by decide +kernel
theorem dX8_fits_97 : decode cX8_fits 97 = .ok (.bipush (-5), 2) := by decide +kernel
theorem dX8_fits_99 : decode cX8_fits 99 = .ok (.if_icmp .ne 8, 3) := by decide +kernel
theorem dX8_fits_102 : decode cX8_fits 102 = .ok (.iload 6, 2) := by decide +kernel
theorem dX8_fits_104 : decode cX8_fits 104 = .ok (.goto 5, 3) := by decide +kernel
theorem dX8_fits_107 : decode cX8_fits 107 = .ok (.iload 5, 2) := by decide +kernel
theorem dX8_fits_109 : decode cX8_fits 109 = .ok (.istore 5, 2) := by decide +kernel
theorem dX8_fits_111 : decode cX8_fits 111 = .ok (.iinc 6 1, 3) := by decide +kernel
theorem dX8_fits_114 : decode cX8_fits 114 = .ok (.goto (-64), 3) := by decide +kernel
theorem dX8_fits_117 : decode cX8_fits 117 = .ok (.iload_n 3, 1) := by decide +kernel
theorem dX8_fits_118 : decode cX8_fits 118 = .ok (.ifCond .ne 8, 3) := by decide +kernel
theorem dX8_fits_121 : decode cX8_fits 121 = .ok (.iload 4, 2) := by decide +kernel
theorem dX8_fits_123 : decode cX8_fits 123 = .ok (.goto 5, 3) := by decide +kernel
theorem dX8_fits_126 : decode cX8_fits 126 = .ok (.iload 5, 2) := by decide +kernel
theorem dX8_fits_128 : decode cX8_fits 128 = .ok (.ireturn, 1) := by decide +kernel
set_option maxRecDepth 20000 in
theorem ggX8_odds_X4_areTwo : GoodIn wsX8_odds wsX4_areTwo := goodIn_r _ [10, 11, 97, 98] (by decide +kernel) (by decide +kernel)
set_option maxRecDepth 20000 in
theorem gX8_odds_X4_areTwo : GoodIn wsX8_odds (wsV RX8 71 RX4 yX4_areTwo wsX4_areTwo) := goodIn_app (goodIn_of _ (by decide +kernel)) ggX8_odds_X4_areTwo
set_option maxRecDepth 20000 in
theorem ggX8_odds_X3_follow : GoodIn wsX8_odds wsX3_follow := goodIn_r _ [16, 17, 18, 19, 20, 21, 22, 23, 9, 24, 11, 25, 26, 27, 28, 29, 30, 31, 32, 33, 34, 35, 36, 37, 38, 39, 40, 41, 42, 43, 44, 45, 46, 47, 48, 49, 50, 51, 52, 53, 54, 55, 56, 57, 58, 59, 15, 60, 61, 62, 92, 93, 94, 95, 96, 97, 98] (by decide +kernel) (by decide +kernel)
set_option maxRecDepth 20000 in
theorem gX8_odds_X3_follow : GoodIn wsX8_odds (wsV RX8 132 RX3 yX3_follow wsX3_follow) := goodIn_app (goodIn_of _ (by decide +kernel)) ggX8_odds_X3_follow
set_option maxRecDepth 20000 in
theorem ggX8_odds_X3_manyBetween : GoodIn wsX8_odds wsX3_manyBetween := goodIn_r _ [66, 19, 67, 68, 69, 15, 70, 62, 92, 93, 94, 95, 96] (by decide +kernel) (by decide +kernel)
set_option maxRecDepth 20000 in
theorem gX8_odds_X3_manyBetween : GoodIn wsX8_odds (wsV RX8 252 RX3 yX3_manyBetween wsX3_manyBetween) := goodIn_app (goodIn_of _ (by decide +kernel)) ggX8_odds_X3_manyBetween
set_option maxRecDepth 20000 in
theorem ggX8_odds_X8_lowestTerms : GoodIn wsX8_odds wsX8_lowestTerms := goodIn_r _ [74, 3, 75, 76, 73, 77] (by decide +kernel) (by decide +kernel)
set_option maxRecDepth 20000 in
theorem gX8_odds_X8_lowestTerms : GoodIn wsX8_odds (va_wsS RX8 255 yX8_lowestTerms wsX8_lowestTerms) := goodIn_app (goodIn_of _ (by decide +kernel)) ggX8_odds_X8_lowestTerms
theorem dX8_odds_0 : decode cX8_odds 0 = .ok (.aload_n 0, 1) := by decide +kernel
theorem dX8_odds_1 : decode cX8_odds 1 = .ok (.getfield 12, 3) := by decide +kernel
theorem dX8_odds_4 : decode cX8_odds 4 = .ok (.getfield 60, 3) := by decide +kernel
theorem dX8_odds_7 : decode cX8_odds 7 = .ok (.iload_n 1, 1) := by decide +kernel
theorem dX8_odds_8 : decode cX8_odds 8 = .ok (.iload_n 2, 1) := by decide +kernel
theorem dX8_odds_9 : decode cX8_odds 9 = .ok (.invokevirtual 71, 3) := by decide +kernel
theorem dX8_odds_12 : decode cX8_odds 12 = .ok (.ifCond .ne 7, 3) := by decide +kernel
theorem dX8_odds_15 : decode cX8_odds 15 = .ok (.ldc2_w 250, 3) := by decide +kernel
theorem dX8_odds_18 : decode cX8_odds 18 = .ok (.lreturn, 1) := by decide +kernel
theorem dX8_odds_19 : decode cX8_odds 19 = .ok (.aload_n 0, 1) := by decide +kernel
theorem dX8_odds_20 : decode cX8_odds 20 = .ok (.getfield 35, 3) := by decide +kernel
theorem dX8_odds_23 : decode cX8_odds 23 = .ok (.aload_n 0, 1) := by decide +kernel
theorem dX8_odds_24 : decode cX8_odds 24 = .ok (.getfield 12, 3) := by decide +kernel
theorem dX8_odds_27 : decode cX8_odds 27 = .ok (.getfield 60, 3) := by decide +kernel
theorem dX8_odds_30 : decode cX8_odds 30 = .ok (.invokevirtual 132, 3) := by decide +kernel
theorem dX8_odds_33 : decode cX8_odds 33 = .ok (.aload_n 0, 1) := by decide +kernel
theorem dX8_odds_34 : decode cX8_odds 34 = .ok (.getfield 35, 3) := by decide +kernel
theorem dX8_odds_37 : decode cX8_odds 37 = .ok (.iload_n 1, 1) := by decide +kernel
theorem dX8_odds_38 : decode cX8_odds 38 = .ok (.iload_n 2, 1) := by decide +kernel
theorem dX8_odds_39 : decode cX8_odds 39 = .ok (.invokevirtual 252, 3) := by decide +kernel
theorem dX8_odds_42 : decode cX8_odds 42 = .ok (.aload_n 0, 1) := by decide +kernel
theorem dX8_odds_43 : decode cX8_odds 43 = .ok (.getfield 35, 3) := by decide +kernel
theorem dX8_odds_46 : decode cX8_odds 46 = .ok (.getfield 149, 3) := by decide +kernel
theorem dX8_odds_49 : decode cX8_odds 49 = .ok (.iload_n 3, 1) := by decide +kernel
theorem dX8_odds_50 : decode cX8_odds 50 = .ok (.invokestatic 255, 3) := by decide +kernel
theorem dX8_odds_53 : decode cX8_odds 53 = .ok (.lreturn, 1) := by decide +kernel
set_option maxRecDepth 20000 in
theorem ggX8_mean_X4_girth : GoodIn wsX8_mean wsX4_girth := goodIn_r _ [7, 8, 9, 10, 11, 6, 12, 13, 40, 41] (by decide +kernel) (by decide +kernel)
set_option maxRecDepth 20000 in
theorem gX8_mean_X4_girth : GoodIn wsX8_mean (wsV RX8 156 RX4 yX4_girth wsX4_girth) := goodIn_app (goodIn_of _ (by decide +kernel)) ggX8_mean_X4_girth
set_option maxRecDepth 20000 in
theorem ggX8_mean_X4_manyTwos : GoodIn wsX8_mean wsX4_manyTwos := goodIn_r _ [17, 8, 40, 41] (by decide +kernel) (by decide +kernel)
set_option maxRecDepth 20000 in
theorem gX8_mean_X4_manyTwos : GoodIn wsX8_mean (wsV RX8 259 RX4 yX4_manyTwos wsX4_manyTwos) := goodIn_app (goodIn_of _ (by decide +kernel)) ggX8_mean_X4_manyTwos
set_option maxRecDepth 20000 in
theorem ggX8_mean_X8_lowestTerms : GoodIn wsX8_mean wsX8_lowestTerms := goodIn_r _ [21, 22, 23, 24, 20, 25] (by decide +kernel) (by decide +kernel)
set_option maxRecDepth 20000 in
theorem gX8_mean_X8_lowestTerms : GoodIn wsX8_mean (va_wsS RX8 255 yX8_lowestTerms wsX8_lowestTerms) := goodIn_app (goodIn_of _ (by decide +kernel)) ggX8_mean_X8_lowestTerms
theorem dX8_mean_0 : decode cX8_mean 0 = .ok (.aload_n 0, 1) := by decide +kernel
theorem dX8_mean_1 : decode cX8_mean 1 = .ok (.getfield 12, 3) := by decide +kernel
theorem dX8_mean_4 : decode cX8_mean 4 = .ok (.getfield 60, 3) := by decide +kernel
theorem dX8_mean_7 : decode cX8_mean 7 = .ok (.invokevirtual 156, 3) := by decide +kernel
theorem dX8_mean_10 : decode cX8_mean 10 = .ok (.aload_n 0, 1) := by decide +kernel
theorem dX8_mean_11 : decode cX8_mean 11 = .ok (.getfield 12, 3) := by decide +kernel
theorem dX8_mean_14 : decode cX8_mean 14 = .ok (.getfield 60, 3) := by decide +kernel
theorem dX8_mean_17 : decode cX8_mean 17 = .ok (.invokevirtual 259, 3) := by decide +kernel
theorem dX8_mean_20 : decode cX8_mean 20 = .ok (.iload_n 1, 1) := by decide +kernel
theorem dX8_mean_21 : decode cX8_mean 21 = .ok (.invokestatic 255, 3) := by decide +kernel
theorem dX8_mean_24 : decode cX8_mean 24 = .ok (.lreturn, 1) := by decide +kernel
set_option maxRecDepth 20000 in
theorem ggX8_event_X1_empty : GoodIn wsX8_event wsX1_empty := goodIn_r _ [9, 10, 37, 38, 39] (by decide +kernel) (by decide +kernel)
set_option maxRecDepth 20000 in
theorem gX8_event_X1_empty : GoodIn wsX8_event (wsV RX8 236 RX1 yX1_empty wsX1_empty) := goodIn_app (goodIn_of _ (by decide +kernel)) ggX8_event_X1_empty
set_option maxRecDepth 20000 in
theorem ggX8_event_X4_has : GoodIn wsX8_event wsX4_has := goodIn_r _ [15, 16, 40, 41] (by decide +kernel) (by decide +kernel)
set_option maxRecDepth 20000 in
theorem gX8_event_X4_has : GoodIn wsX8_event (wsV RX8 94 RX4 yX4_has wsX4_has) := goodIn_app (goodIn_of _ (by decide +kernel)) ggX8_event_X4_has
set_option maxRecDepth 20000 in
theorem ggX8_event_X1_add : GoodIn wsX8_event wsX1_add := goodIn_r _ [20, 10, 21, 22, 37, 38, 39] (by decide +kernel) (by decide +kernel)
set_option maxRecDepth 20000 in
theorem gX8_event_X1_add : GoodIn wsX8_event (wsV RX8 239 RX1 yX1_add wsX1_add) := goodIn_app (goodIn_of _ (by decide +kernel)) ggX8_event_X1_add
theorem dX8_event_0 : decode cX8_event 0 = .ok (.iload_n 1, 1) := by decide +kernel
theorem dX8_event_1 : decode cX8_event 1 = .ok (.iconst (-1), 1) := by decide +kernel
theorem dX8_event_2 : decode cX8_event 2 = .ok (.if_icmp .ne 15, 3) := by decide +kernel
theorem dX8_event_5 : decode cX8_event 5 = .ok (.aload_n 0, 1) := by decide +kernel
theorem dX8_event_6 : decode cX8_event 6 = .ok (.getfield 12, 3) := by decide +kernel
theorem dX8_event_9 : decode cX8_event 9 = .ok (.getfield 261, 3) := by decide +kernel
theorem dX8_event_12 : decode cX8_event 12 = .ok (.invokevirtual 236, 3) := by decide +kernel
theorem dX8_event_15 : decode cX8_event 15 = .ok (.iconst 0, 1) := by decide +kernel
theorem dX8_event_16 : decode cX8_event 16 = .ok (.ireturn, 1) := by decide +kernel
theorem dX8_event_17 : decode cX8_event 17 = .ok (.iload_n 1, 1) := by decide +kernel
theorem dX8_event_18 : decode cX8_event 18 = .ok (.ifCond .lt 26, 3) := by decide +kernel
theorem dX8_event_21 : decode cX8_event 21 = .ok (.iload_n 1, 1) := by decide +kernel
theorem dX8_event_22 : decode cX8_event 22 = .ok (.iconst 2, 1) := by decide +kernel
theorem dX8_event_23 : decode cX8_event 23 = .ok (.if_icmp .gt 21, 3) := by decide +kernel
theorem dX8_event_26 : decode cX8_event 26 = .ok (.iload_n 1, 1) := by decide +kernel
theorem dX8_event_27 : decode cX8_event 27 = .ok (.ifCond .ne 19, 3) := by decide +kernel
theorem dX8_event_30 : decode cX8_event 30 = .ok (.aload_n 0, 1) := by decide +kernel
theorem dX8_event_31 : decode cX8_event 31 = .ok (.getfield 12, 3) := by decide +kernel
theorem dX8_event_34 : decode cX8_event 34 = .ok (.getfield 60, 3) := by decide +kernel
theorem dX8_event_37 : decode cX8_event 37 = .ok (.iload_n 2, 1) := by decide +kernel
theorem dX8_event_38 : decode cX8_event 38 = .ok (.invokevirtual 94, 3) := by decide +kernel
theorem dX8_event_41 : decode cX8_event 41 = .ok (.ifCond .ne 5, 3) := by decide +kernel
theorem dX8_event_44 : decode cX8_event 44 = .ok (.iconst (-1), 1) := by decide +kernel
theorem dX8_event_45 : decode cX8_event 45 = .ok (.ireturn, 1) := by decide +kernel
theorem dX8_event_46 : decode cX8_event 46 = .ok (.iload_n 1, 1) := by decide +kernel
theorem dX8_event_47 : decode cX8_event 47 = .ok (.iconst 1, 1) := by decide +kernel
theorem dX8_event_48 : decode cX8_event 48 = .ok (.if_icmp .ne 13, 3) := by decide +kernel
theorem dX8_event_51 : decode cX8_event 51 = .ok (.iload_n 2, 1) := by decide +kernel
theorem dX8_event_52 : decode cX8_event 52 = .ok (.ifCond .lt 18, 3) := by decide +kernel
theorem dX8_event_55 : decode cX8_event 55 = .ok (.iload_n 2, 1) := by decide +kernel
theorem dX8_event_56 : decode cX8_event 56 = .ok (.bipush 9, 2) := by decide +kernel
theorem dX8_event_58 : decode cX8_event 58 = .ok (.if_icmp .gt 12, 3) := by decide +kernel
theorem dX8_event_61 : decode cX8_event 61 = .ok (.iload_n 1, 1) := by decide +kernel
theorem dX8_event_62 : decode cX8_event 62 = .ok (.iconst 2, 1) := by decide +kernel
theorem dX8_event_63 : decode cX8_event 63 = .ok (.if_icmp .ne 10, 3) := by decide +kernel
theorem dX8_event_66 : decode cX8_event 66 = .ok (.iload_n 2, 1) := by decide +kernel
theorem dX8_event_67 : decode cX8_event 67 = .ok (.ifCond .eq 6, 3) := by decide +kernel
theorem dX8_event_70 : decode cX8_event 70 = .ok (.bipush (-2), 2) := by decide +kernel
theorem dX8_event_72 : decode cX8_event 72 = .ok (.ireturn, 1) := by decide +kernel
theorem dX8_event_73 : decode cX8_event 73 = .ok (.aload_n 0, 1) := by decide +kernel
theorem dX8_event_74 : decode cX8_event 74 = .ok (.getfield 12, 3) := by decide +kernel
theorem dX8_event_77 : decode cX8_event 77 = .ok (.getfield 261, 3) := by decide +kernel
theorem dX8_event_80 : decode cX8_event 80 = .ok (.iload_n 1, 1) := by decide +kernel
theorem dX8_event_81 : decode cX8_event 81 = .ok (.iload_n 2, 1) := by decide +kernel
theorem dX8_event_82 : decode cX8_event 82 = .ok (.iconst 0, 1) := by decide +kernel
theorem dX8_event_83 : decode cX8_event 83 = .ok (.invokevirtual 239, 3) := by decide +kernel
theorem dX8_event_86 : decode cX8_event 86 = .ok (.ifCond .eq 16, 3) := by decide +kernel
theorem dX8_event_89 : decode cX8_event 89 = .ok (.aload_n 0, 1) := by decide +kernel
theorem dX8_event_90 : decode cX8_event 90 = .ok (.getfield 12, 3) := by decide +kernel
theorem dX8_event_93 : decode cX8_event 93 = .ok (.getfield 261, 3) := by decide +kernel
theorem dX8_event_96 : decode cX8_event 96 = .ok (.getfield 241, 3) := by decide +kernel
theorem dX8_event_99 : decode cX8_event 99 = .ok (.goto 5, 3) := by decide +kernel
theorem dX8_event_102 : decode cX8_event 102 = .ok (.bipush (-4), 2) := by decide +kernel
theorem dX8_event_104 : decode cX8_event 104 = .ok (.ireturn, 1) := by decide +kernel
set_option maxRecDepth 20000 in
theorem ggX8_after_X4_become : GoodIn wsX8_after wsX4_become := goodIn_r _ [10, 11, 12, 13, 14, 15, 16, 137, 138] (by decide +kernel) (by decide +kernel)
set_option maxRecDepth 20000 in
theorem gX8_after_X4_become : GoodIn wsX8_after (wsV RX8 83 RX4 yX4_become wsX4_become) := goodIn_app (goodIn_of _ (by decide +kernel)) ggX8_after_X4_become
set_option maxRecDepth 20000 in
theorem ggX8_after_X2_happenTo : GoodIn wsX8_after wsX2_happenTo := goodIn_r _ [21, 22, 23, 24, 25, 26, 27, 28, 29, 30, 31, 32, 20, 33, 34, 35, 36, 37, 38, 39, 40, 41, 9, 42, 11, 12, 43, 44, 45, 46, 47, 48, 49, 50, 51, 52, 53, 54, 55, 56, 57, 58, 59, 60, 61, 62, 63, 126, 127, 128, 129, 130, 131, 139, 140, 141, 137, 138] (by decide +kernel) (by decide +kernel)
set_option maxRecDepth 20000 in
theorem gX8_after_X2_happenTo : GoodIn wsX8_after (wsV RX8 264 RX2 yX2_happenTo wsX2_happenTo) := goodIn_app (goodIn_of _ (by decide +kernel)) ggX8_after_X2_happenTo
set_option maxRecDepth 20000 in
theorem ggX8_after_X4_isTable : GoodIn wsX8_after wsX4_isTable := goodIn_r _ [67, 68, 69, 70, 9, 71, 11, 62, 40, 41, 42, 12, 137, 138] (by decide +kernel) (by decide +kernel)
set_option maxRecDepth 20000 in
theorem gX8_after_X4_isTable : GoodIn wsX8_after (wsV RX8 138 RX4 yX4_isTable wsX4_isTable) := goodIn_app (goodIn_of _ (by decide +kernel)) ggX8_after_X4_isTable
set_option maxRecDepth 20000 in
theorem ggX8_after_X8_oneIf : GoodIn wsX8_after wsX8_oneIf := goodIn_r _ [75] (by decide +kernel) (by decide +kernel)
set_option maxRecDepth 20000 in
theorem gX8_after_X8_oneIf : GoodIn wsX8_after (va_wsS RX8 142 yX8_oneIf wsX8_oneIf) := goodIn_app (goodIn_of _ (by decide +kernel)) ggX8_after_X8_oneIf
set_option maxRecDepth 20000 in
theorem ggX8_after_X4_isTree : GoodIn wsX8_after wsX4_isTree := goodIn_r _ [79, 11, 80, 65, 66, 9, 67, 68, 69, 70, 71, 62, 40, 41, 42, 12, 81, 82, 83, 84, 85, 55, 37, 56, 137, 138] (by decide +kernel) (by decide +kernel)
set_option maxRecDepth 20000 in
theorem gX8_after_X4_isTree : GoodIn wsX8_after (wsV RX8 150 RX4 yX4_isTree wsX4_isTree) := goodIn_app (goodIn_of _ (by decide +kernel)) ggX8_after_X4_isTree
set_option maxRecDepth 20000 in
theorem ggX8_after_X3_follow : GoodIn wsX8_after wsX3_follow := goodIn_r _ [90, 91, 92, 93, 94, 95, 96, 97, 9, 98, 11, 99, 100, 101, 102, 62, 40, 41, 42, 12, 103, 7, 8, 10, 13, 14, 15, 16, 104, 105, 106, 107, 61, 36, 37, 38, 108, 109, 110, 111, 85, 55, 56, 112, 113, 114, 89, 115, 116, 117, 132, 133, 134, 135, 136, 137, 138] (by decide +kernel) (by decide +kernel)
set_option maxRecDepth 20000 in
theorem gX8_after_X3_follow : GoodIn wsX8_after (wsV RX8 132 RX3 yX3_follow wsX3_follow) := goodIn_app (goodIn_of _ (by decide +kernel)) ggX8_after_X3_follow
theorem dX8_after_0 : decode cX8_after 0 = .ok (.iload_n 1, 1) := by decide +kernel
theorem dX8_after_1 : decode cX8_after 1 = .ok (.ifCond .lt 8, 3) := by decide +kernel
theorem dX8_after_4 : decode cX8_after 4 = .ok (.iload_n 1, 1) := by decide +kernel
theorem dX8_after_5 : decode cX8_after 5 = .ok (.iconst 2, 1) := by decide +kernel
theorem dX8_after_6 : decode cX8_after 6 = .ok (.if_icmp .le 5, 3) := by decide +kernel
theorem dX8_after_9 : decode cX8_after 9 = .ok (.iconst (-1), 1) := by decide +kernel
theorem dX8_after_10 : decode cX8_after 10 = .ok (.ireturn, 1) := by decide +kernel
theorem dX8_after_11 : decode cX8_after 11 = .ok (.aload_n 0, 1) := by decide +kernel
theorem dX8_after_12 : decode cX8_after 12 = .ok (.getfield 28, 3) := by decide +kernel
theorem dX8_after_15 : decode cX8_after 15 = .ok (.aload_n 0, 1) := by decide +kernel
theorem dX8_after_16 : decode cX8_after 16 = .ok (.getfield 12, 3) := by decide +kernel
theorem dX8_after_19 : decode cX8_after 19 = .ok (.getfield 60, 3) := by decide +kernel
theorem dX8_after_22 : decode cX8_after 22 = .ok (.invokevirtual 83, 3) := by decide +kernel
theorem dX8_after_25 : decode cX8_after 25 = .ok (.aload_n 0, 1) := by decide +kernel
theorem dX8_after_26 : decode cX8_after 26 = .ok (.getfield 12, 3) := by decide +kernel
theorem dX8_after_29 : decode cX8_after 29 = .ok (.aload_n 0, 1) := by decide +kernel
theorem dX8_after_30 : decode cX8_after 30 = .ok (.getfield 28, 3) := by decide +kernel
theorem dX8_after_33 : decode cX8_after 33 = .ok (.invokevirtual 264, 3) := by decide +kernel
theorem dX8_after_36 : decode cX8_after 36 = .ok (.iload_n 1, 1) := by decide +kernel
theorem dX8_after_37 : decode cX8_after 37 = .ok (.ifCond .ne 14, 3) := by decide +kernel
theorem dX8_after_40 : decode cX8_after 40 = .ok (.aload_n 0, 1) := by decide +kernel
theorem dX8_after_41 : decode cX8_after 41 = .ok (.getfield 28, 3) := by decide +kernel
theorem dX8_after_44 : decode cX8_after 44 = .ok (.invokevirtual 138, 3) := by decide +kernel
theorem dX8_after_47 : decode cX8_after 47 = .ok (.invokestatic 142, 3) := by decide +kernel
theorem dX8_after_50 : decode cX8_after 50 = .ok (.ireturn, 1) := by decide +kernel
theorem dX8_after_51 : decode cX8_after 51 = .ok (.iload_n 1, 1) := by decide +kernel
theorem dX8_after_52 : decode cX8_after 52 = .ok (.iconst 2, 1) := by decide +kernel
theorem dX8_after_53 : decode cX8_after 53 = .ok (.if_icmp .ne 14, 3) := by decide +kernel
theorem dX8_after_56 : decode cX8_after 56 = .ok (.aload_n 0, 1) := by decide +kernel
theorem dX8_after_57 : decode cX8_after 57 = .ok (.getfield 28, 3) := by decide +kernel
theorem dX8_after_60 : decode cX8_after 60 = .ok (.invokevirtual 150, 3) := by decide +kernel
theorem dX8_after_63 : decode cX8_after 63 = .ok (.invokestatic 142, 3) := by decide +kernel
theorem dX8_after_66 : decode cX8_after 66 = .ok (.ireturn, 1) := by decide +kernel
theorem dX8_after_67 : decode cX8_after 67 = .ok (.aload_n 0, 1) := by decide +kernel
theorem dX8_after_68 : decode cX8_after 68 = .ok (.getfield 35, 3) := by decide +kernel
theorem dX8_after_71 : decode cX8_after 71 = .ok (.aload_n 0, 1) := by decide +kernel
theorem dX8_after_72 : decode cX8_after 72 = .ok (.getfield 28, 3) := by decide +kernel
theorem dX8_after_75 : decode cX8_after 75 = .ok (.invokevirtual 132, 3) := by decide +kernel
theorem dX8_after_78 : decode cX8_after 78 = .ok (.aload_n 0, 1) := by decide +kernel
theorem dX8_after_79 : decode cX8_after 79 = .ok (.getfield 35, 3) := by decide +kernel
theorem dX8_after_82 : decode cX8_after 82 = .ok (.getfield 149, 3) := by decide +kernel
theorem dX8_after_85 : decode cX8_after 85 = .ok (.ireturn, 1) := by decide +kernel
set_option maxRecDepth 20000 in
theorem ggX8_book_X1_empty : GoodIn wsX8_book wsX1_empty := goodIn_r _ [9, 10, 37, 38, 39] (by decide +kernel) (by decide +kernel)
set_option maxRecDepth 20000 in
theorem gX8_book_X1_empty : GoodIn wsX8_book (wsV RX8 236 RX1 yX1_empty wsX1_empty) := goodIn_app (goodIn_of _ (by decide +kernel)) ggX8_book_X1_empty
set_option maxRecDepth 20000 in
theorem ggX8_book_X4_areTwo : GoodIn wsX8_book wsX4_areTwo := goodIn_r _ [15, 16, 40, 41] (by decide +kernel) (by decide +kernel)
set_option maxRecDepth 20000 in
theorem gX8_book_X4_areTwo : GoodIn wsX8_book (wsV RX8 71 RX4 yX4_areTwo wsX4_areTwo) := goodIn_app (goodIn_of _ (by decide +kernel)) ggX8_book_X4_areTwo
set_option maxRecDepth 20000 in
theorem ggX8_book_X1_add : GoodIn wsX8_book wsX1_add := goodIn_r _ [20, 10, 21, 22, 37, 38, 39] (by decide +kernel) (by decide +kernel)
set_option maxRecDepth 20000 in
theorem gX8_book_X1_add : GoodIn wsX8_book (wsV RX8 239 RX1 yX1_add wsX1_add) := goodIn_app (goodIn_of _ (by decide +kernel)) ggX8_book_X1_add
theorem dX8_book_0 : decode cX8_book 0 = .ok (.iload_n 1, 1) := by decide +kernel
theorem dX8_book_1 : decode cX8_book 1 = .ok (.iconst (-1), 1) := by decide +kernel
theorem dX8_book_2 : decode cX8_book 2 = .ok (.if_icmp .ne 15, 3) := by decide +kernel
theorem dX8_book_5 : decode cX8_book 5 = .ok (.aload_n 0, 1) := by decide +kernel
theorem dX8_book_6 : decode cX8_book 6 = .ok (.getfield 12, 3) := by decide +kernel
theorem dX8_book_9 : decode cX8_book 9 = .ok (.getfield 267, 3) := by decide +kernel
theorem dX8_book_12 : decode cX8_book 12 = .ok (.invokevirtual 236, 3) := by decide +kernel
theorem dX8_book_15 : decode cX8_book 15 = .ok (.iconst 0, 1) := by decide +kernel
theorem dX8_book_16 : decode cX8_book 16 = .ok (.ireturn, 1) := by decide +kernel
theorem dX8_book_17 : decode cX8_book 17 = .ok (.aload_n 0, 1) := by decide +kernel
theorem dX8_book_18 : decode cX8_book 18 = .ok (.getfield 12, 3) := by decide +kernel
theorem dX8_book_21 : decode cX8_book 21 = .ok (.getfield 60, 3) := by decide +kernel
theorem dX8_book_24 : decode cX8_book 24 = .ok (.iload_n 1, 1) := by decide +kernel
theorem dX8_book_25 : decode cX8_book 25 = .ok (.iload_n 2, 1) := by decide +kernel
theorem dX8_book_26 : decode cX8_book 26 = .ok (.invokevirtual 71, 3) := by decide +kernel
theorem dX8_book_29 : decode cX8_book 29 = .ok (.ifCond .ne 5, 3) := by decide +kernel
theorem dX8_book_32 : decode cX8_book 32 = .ok (.iconst (-1), 1) := by decide +kernel
theorem dX8_book_33 : decode cX8_book 33 = .ok (.ireturn, 1) := by decide +kernel
theorem dX8_book_34 : decode cX8_book 34 = .ok (.iload_n 3, 1) := by decide +kernel
theorem dX8_book_35 : decode cX8_book 35 = .ok (.ifCond .lt 9, 3) := by decide +kernel
theorem dX8_book_38 : decode cX8_book 38 = .ok (.iload_n 3, 1) := by decide +kernel
theorem dX8_book_39 : decode cX8_book 39 = .ok (.bipush 40, 2) := by decide +kernel
theorem dX8_book_41 : decode cX8_book 41 = .ok (.if_icmp .le 6, 3) := by decide +kernel
theorem dX8_book_44 : decode cX8_book 44 = .ok (.bipush (-2), 2) := by decide +kernel
theorem dX8_book_46 : decode cX8_book 46 = .ok (.ireturn, 1) := by decide +kernel
theorem dX8_book_47 : decode cX8_book 47 = .ok (.aload_n 0, 1) := by decide +kernel
theorem dX8_book_48 : decode cX8_book 48 = .ok (.getfield 12, 3) := by decide +kernel
theorem dX8_book_51 : decode cX8_book 51 = .ok (.getfield 267, 3) := by decide +kernel
theorem dX8_book_54 : decode cX8_book 54 = .ok (.iload_n 1, 1) := by decide +kernel
theorem dX8_book_55 : decode cX8_book 55 = .ok (.iload_n 2, 1) := by decide +kernel
theorem dX8_book_56 : decode cX8_book 56 = .ok (.iload_n 3, 1) := by decide +kernel
theorem dX8_book_57 : decode cX8_book 57 = .ok (.invokevirtual 239, 3) := by decide +kernel
theorem dX8_book_60 : decode cX8_book 60 = .ok (.ifCond .eq 16, 3) := by decide +kernel
theorem dX8_book_63 : decode cX8_book 63 = .ok (.aload_n 0, 1) := by decide +kernel
theorem dX8_book_64 : decode cX8_book 64 = .ok (.getfield 12, 3) := by decide +kernel
theorem dX8_book_67 : decode cX8_book 67 = .ok (.getfield 267, 3) := by decide +kernel
theorem dX8_book_70 : decode cX8_book 70 = .ok (.getfield 241, 3) := by decide +kernel
theorem dX8_book_73 : decode cX8_book 73 = .ok (.goto 5, 3) := by decide +kernel
theorem dX8_book_76 : decode cX8_book 76 = .ok (.bipush (-4), 2) := by decide +kernel
theorem dX8_book_78 : decode cX8_book 78 = .ok (.ireturn, 1) := by decide +kernel
set_option maxRecDepth 20000 in
theorem ggX8_looked_X2_firstWrongInBook : GoodIn wsX8_looked wsX2_firstWrongInBook := goodIn_r _ [6, 7, 8, 9, 10, 11, 12, 13, 14, 15, 16, 17, 18, 19, 20, 21, 22, 23, 24, 25, 26, 27, 36, 37, 38, 39, 40, 41, 42, 43, 44, 45, 46] (by decide +kernel) (by decide +kernel)
set_option maxRecDepth 20000 in
theorem gX8_looked_X2_firstWrongInBook : GoodIn wsX8_looked (wsV RX8 270 RX2 yX2_firstWrongInBook wsX2_firstWrongInBook) := goodIn_app (goodIn_of _ (by decide +kernel)) ggX8_looked_X2_firstWrongInBook
theorem dX8_looked_0 : decode cX8_looked 0 = .ok (.aload_n 0, 1) := by decide +kernel
theorem dX8_looked_1 : decode cX8_looked 1 = .ok (.getfield 12, 3) := by decide +kernel
theorem dX8_looked_4 : decode cX8_looked 4 = .ok (.invokevirtual 270, 3) := by decide +kernel
theorem dX8_looked_7 : decode cX8_looked 7 = .ok (.ireturn, 1) := by decide +kernel
set_option maxRecDepth 20000 in
theorem ggX8_judge_X5_has : GoodIn wsX8_judge wsX5_has := goodIn_r _ [7] (by decide +kernel) (by decide +kernel)
set_option maxRecDepth 20000 in
theorem gX8_judge_X5_has : GoodIn wsX8_judge (wsV RX8 273 RX5 yX5_has wsX5_has) := goodIn_app (goodIn_of _ (by decide +kernel)) ggX8_judge_X5_has
set_option maxRecDepth 20000 in
theorem ggX8_judge_X5_holdsNothing : GoodIn wsX8_judge wsX5_holdsNothing := goodIn_r _ [11, 12, 13, 4, 5, 6, 7, 44, 45, 46] (by decide +kernel) (by decide +kernel)
set_option maxRecDepth 20000 in
theorem gX8_judge_X5_holdsNothing : GoodIn wsX8_judge (wsV RX8 274 RX5 yX5_holdsNothing wsX5_holdsNothing) := goodIn_app (goodIn_of _ (by decide +kernel)) ggX8_judge_X5_holdsNothing
set_option maxRecDepth 20000 in
theorem ggX8_judge_X8_judgeRow : GoodIn wsX8_judge wsX8_judgeRow := goodIn_r _ [18, 19, 20, 21, 1, 22, 23, 24, 25, 6, 26, 27, 28, 9, 10, 11, 12, 13, 4, 5, 7, 29, 30, 31, 32, 33, 34, 35, 36, 37, 38, 39, 40, 41, 42, 43, 47, 48, 49, 50, 51, 52, 53, 54, 44, 45, 46] (by decide +kernel) (by decide +kernel)
set_option maxRecDepth 20000 in
theorem gX8_judge_X8_judgeRow : GoodIn wsX8_judge (wsV RX8 280 RX8 yX8_judgeRow wsX8_judgeRow) := goodIn_app (goodIn_of _ (by decide +kernel)) ggX8_judge_X8_judgeRow
theorem dX8_judge_0 : decode cX8_judge 0 = .ok (.aload_n 0, 1) := by decide +kernel
theorem dX8_judge_1 : decode cX8_judge 1 = .ok (.getfield 56, 3) := by decide +kernel
theorem dX8_judge_4 : decode cX8_judge 4 = .ok (.iload_n 1, 1) := by decide +kernel
theorem dX8_judge_5 : decode cX8_judge 5 = .ok (.invokevirtual 273, 3) := by decide +kernel
theorem dX8_judge_8 : decode cX8_judge 8 = .ok (.ifCond .ne 5, 3) := by decide +kernel
theorem dX8_judge_11 : decode cX8_judge 11 = .ok (.iconst (-1), 1) := by decide +kernel
theorem dX8_judge_12 : decode cX8_judge 12 = .ok (.ireturn, 1) := by decide +kernel
theorem dX8_judge_13 : decode cX8_judge 13 = .ok (.aload_n 0, 1) := by decide +kernel
theorem dX8_judge_14 : decode cX8_judge 14 = .ok (.getfield 56, 3) := by decide +kernel
theorem dX8_judge_17 : decode cX8_judge 17 = .ok (.iload_n 1, 1) := by decide +kernel
theorem dX8_judge_18 : decode cX8_judge 18 = .ok (.invokevirtual 274, 3) := by decide +kernel
theorem dX8_judge_21 : decode cX8_judge 21 = .ok (.ifCond .eq 6, 3) := by decide +kernel
theorem dX8_judge_24 : decode cX8_judge 24 = .ok (.bipush 100, 2) := by decide +kernel
theorem dX8_judge_26 : decode cX8_judge 26 = .ok (.ireturn, 1) := by decide +kernel
theorem dX8_judge_27 : decode cX8_judge 27 = .ok (.aload_n 0, 1) := by decide +kernel
theorem dX8_judge_28 : decode cX8_judge 28 = .ok (.getfield 56, 3) := by decide +kernel
theorem dX8_judge_31 : decode cX8_judge 31 = .ok (.getfield 277, 3) := by decide +kernel
theorem dX8_judge_34 : decode cX8_judge 34 = .ok (.iload_n 1, 1) := by decide +kernel
theorem dX8_judge_35 : decode cX8_judge 35 = .ok (.iaload, 1) := by decide +kernel
theorem dX8_judge_36 : decode cX8_judge 36 = .ok (.iconst 2, 1) := by decide +kernel
theorem dX8_judge_37 : decode cX8_judge 37 = .ok (.if_icmp .eq 6, 3) := by decide +kernel
theorem dX8_judge_40 : decode cX8_judge 40 = .ok (.bipush (-12), 2) := by decide +kernel
theorem dX8_judge_42 : decode cX8_judge 42 = .ok (.ireturn, 1) := by decide +kernel
theorem dX8_judge_43 : decode cX8_judge 43 = .ok (.iload_n 2, 1) := by decide +kernel
theorem dX8_judge_44 : decode cX8_judge 44 = .ok (.ifCond .ge 8, 3) := by decide +kernel
theorem dX8_judge_47 : decode cX8_judge 47 = .ok (.bipush 100, 2) := by decide +kernel
theorem dX8_judge_49 : decode cX8_judge 49 = .ok (.goto 9, 3) := by decide +kernel
theorem dX8_judge_52 : decode cX8_judge 52 = .ok (.aload_n 0, 1) := by decide +kernel
theorem dX8_judge_53 : decode cX8_judge 53 = .ok (.iload_n 1, 1) := by decide +kernel
theorem dX8_judge_54 : decode cX8_judge 54 = .ok (.iload_n 2, 1) := by decide +kernel
theorem dX8_judge_55 : decode cX8_judge 55 = .ok (.invokevirtual 280, 3) := by decide +kernel
theorem dX8_judge_58 : decode cX8_judge 58 = .ok (.ireturn, 1) := by decide +kernel
set_option maxRecDepth 20000 in
theorem ggX8_image_X2_become : GoodIn wsX8_image wsX2_become := goodIn_r _ [9, 10, 11, 12, 13, 14, 15, 16, 17, 18, 19, 20, 21, 22, 23, 24, 25, 26, 27, 28, 29, 30, 31, 32, 33, 34, 35, 36, 37, 38, 39, 40, 41, 42, 43, 60, 61, 62, 63, 64, 65, 66, 67, 68, 69, 70] (by decide +kernel) (by decide +kernel)
set_option maxRecDepth 20000 in
theorem gX8_image_X2_become : GoodIn wsX8_image (wsV RX8 283 RX2 yX2_become wsX2_become) := goodIn_app (goodIn_of _ (by decide +kernel)) ggX8_image_X2_become
set_option maxRecDepth 20000 in
theorem ggX8_image_X4_girth : GoodIn wsX8_image wsX4_girth := goodIn_r _ [47, 25, 48, 49, 50, 23, 51, 26, 66, 67] (by decide +kernel) (by decide +kernel)
set_option maxRecDepth 20000 in
theorem gX8_image_X4_girth : GoodIn wsX8_image (wsV RX8 156 RX4 yX4_girth wsX4_girth) := goodIn_app (goodIn_of _ (by decide +kernel)) ggX8_image_X4_girth
theorem dX8_image_0 : decode cX8_image 0 = .ok (.aload_n 0, 1) := by decide +kernel
theorem dX8_image_1 : decode cX8_image 1 = .ok (.getfield 18, 3) := by decide +kernel
theorem dX8_image_4 : decode cX8_image 4 = .ok (.aload_n 0, 1) := by decide +kernel
theorem dX8_image_5 : decode cX8_image 5 = .ok (.getfield 12, 3) := by decide +kernel
theorem dX8_image_8 : decode cX8_image 8 = .ok (.invokevirtual 283, 3) := by decide +kernel
theorem dX8_image_11 : decode cX8_image 11 = .ok (.aload_n 0, 1) := by decide +kernel
theorem dX8_image_12 : decode cX8_image 12 = .ok (.iconst 1, 1) := by decide +kernel
theorem dX8_image_13 : decode cX8_image 13 = .ok (.putfield 21, 3) := by decide +kernel
theorem dX8_image_16 : decode cX8_image 16 = .ok (.aload_n 0, 1) := by decide +kernel
theorem dX8_image_17 : decode cX8_image 17 = .ok (.getfield 12, 3) := by decide +kernel
theorem dX8_image_20 : decode cX8_image 20 = .ok (.getfield 60, 3) := by decide +kernel
theorem dX8_image_23 : decode cX8_image 23 = .ok (.invokevirtual 156, 3) := by decide +kernel
theorem dX8_image_26 : decode cX8_image 26 = .ok (.ireturn, 1) := by decide +kernel
set_option maxRecDepth 20000 in
theorem ggX8_undo_X2_become : GoodIn wsX8_undo wsX2_become := goodIn_r _ [9, 10, 11, 12, 13, 14, 15, 16, 17, 18, 19, 20, 21, 22, 23, 24, 25, 26, 27, 28, 29, 30, 31, 32, 33, 34, 35, 36, 37, 38, 39, 40, 41, 42, 43, 60, 61, 62, 63, 64, 65, 66, 67, 68, 69, 70] (by decide +kernel) (by decide +kernel)
set_option maxRecDepth 20000 in
theorem gX8_undo_X2_become : GoodIn wsX8_undo (wsV RX8 283 RX2 yX2_become wsX2_become) := goodIn_app (goodIn_of _ (by decide +kernel)) ggX8_undo_X2_become
set_option maxRecDepth 20000 in
theorem ggX8_undo_X4_girth : GoodIn wsX8_undo wsX4_girth := goodIn_r _ [47, 25, 48, 49, 50, 23, 51, 26, 66, 67] (by decide +kernel) (by decide +kernel)
set_option maxRecDepth 20000 in
theorem gX8_undo_X4_girth : GoodIn wsX8_undo (wsV RX8 156 RX4 yX4_girth wsX4_girth) := goodIn_app (goodIn_of _ (by decide +kernel)) ggX8_undo_X4_girth
theorem dX8_undo_0 : decode cX8_undo 0 = .ok (.aload_n 0, 1) := by decide +kernel
theorem dX8_undo_1 : decode cX8_undo 1 = .ok (.getfield 21, 3) := by decide +kernel
theorem dX8_undo_4 : decode cX8_undo 4 = .ok (.ifCond .ne 6, 3) := by decide +kernel
theorem dX8_undo_7 : decode cX8_undo 7 = .ok (.bipush (-3), 2) := by decide +kernel
theorem dX8_undo_9 : decode cX8_undo 9 = .ok (.ireturn, 1) := by decide +kernel
theorem dX8_undo_10 : decode cX8_undo 10 = .ok (.aload_n 0, 1) := by decide +kernel
theorem dX8_undo_11 : decode cX8_undo 11 = .ok (.getfield 12, 3) := by decide +kernel
theorem dX8_undo_14 : decode cX8_undo 14 = .ok (.aload_n 0, 1) := by decide +kernel
theorem dX8_undo_15 : decode cX8_undo 15 = .ok (.getfield 18, 3) := by decide +kernel
theorem dX8_undo_18 : decode cX8_undo 18 = .ok (.invokevirtual 283, 3) := by decide +kernel
theorem dX8_undo_21 : decode cX8_undo 21 = .ok (.aload_n 0, 1) := by decide +kernel
theorem dX8_undo_22 : decode cX8_undo 22 = .ok (.getfield 12, 3) := by decide +kernel
theorem dX8_undo_25 : decode cX8_undo 25 = .ok (.getfield 60, 3) := by decide +kernel
theorem dX8_undo_28 : decode cX8_undo 28 = .ok (.invokevirtual 156, 3) := by decide +kernel
theorem dX8_undo_31 : decode cX8_undo 31 = .ok (.ireturn, 1) := by decide +kernel
theorem dX8_count_0 : decode cX8_count 0 = .ok (.iload_n 1, 1) := by decide +kernel
theorem dX8_count_1 : decode cX8_count 1 = .ok (.tableswitch 72 0 3 #[31, 42, 53, 64], 31) := by decide +kernel
theorem dX8_count_32 : decode cX8_count 32 = .ok (.aload_n 0, 1) := by decide +kernel
theorem dX8_count_33 : decode cX8_count 33 = .ok (.getfield 12, 3) := by decide +kernel
theorem dX8_count_36 : decode cX8_count 36 = .ok (.getfield 232, 3) := by decide +kernel
theorem dX8_count_39 : decode cX8_count 39 = .ok (.getfield 241, 3) := by decide +kernel
theorem dX8_count_42 : decode cX8_count 42 = .ok (.ireturn, 1) := by decide +kernel
theorem dX8_count_43 : decode cX8_count 43 = .ok (.aload_n 0, 1) := by decide +kernel
theorem dX8_count_44 : decode cX8_count 44 = .ok (.getfield 12, 3) := by decide +kernel
theorem dX8_count_47 : decode cX8_count 47 = .ok (.getfield 261, 3) := by decide +kernel
theorem dX8_count_50 : decode cX8_count 50 = .ok (.getfield 241, 3) := by decide +kernel
theorem dX8_count_53 : decode cX8_count 53 = .ok (.ireturn, 1) := by decide +kernel
theorem dX8_count_54 : decode cX8_count 54 = .ok (.aload_n 0, 1) := by decide +kernel
theorem dX8_count_55 : decode cX8_count 55 = .ok (.getfield 12, 3) := by decide +kernel
theorem dX8_count_58 : decode cX8_count 58 = .ok (.getfield 267, 3) := by decide +kernel
theorem dX8_count_61 : decode cX8_count 61 = .ok (.getfield 241, 3) := by decide +kernel
theorem dX8_count_64 : decode cX8_count 64 = .ok (.ireturn, 1) := by decide +kernel
theorem dX8_count_65 : decode cX8_count 65 = .ok (.aload_n 0, 1) := by decide +kernel
theorem dX8_count_66 : decode cX8_count 66 = .ok (.getfield 49, 3) := by decide +kernel
theorem dX8_count_69 : decode cX8_count 69 = .ok (.getfield 119, 3) := by decide +kernel
theorem dX8_count_72 : decode cX8_count 72 = .ok (.ireturn, 1) := by decide +kernel
theorem dX8_count_73 : decode cX8_count 73 = .ok (.bipush (-2), 2) := by decide +kernel
theorem dX8_count_75 : decode cX8_count 75 = .ok (.ireturn, 1) := by decide +kernel
set_option maxRecDepth 20000 in
theorem ggX8_tape_X5_has : GoodIn wsX8_tape wsX5_has := goodIn_r _ [6] (by decide +kernel) (by decide +kernel)
set_option maxRecDepth 20000 in
theorem gX8_tape_X5_has : GoodIn wsX8_tape (wsV RX8 273 RX5 yX5_has wsX5_has) := goodIn_app (goodIn_of _ (by decide +kernel)) ggX8_tape_X5_has
set_option maxRecDepth 20000 in
theorem ggX8_tape_X5_lay : GoodIn wsX8_tape wsX5_lay := goodIn_r _ [10, 11, 12, 13, 22, 23, 24] (by decide +kernel) (by decide +kernel)
set_option maxRecDepth 20000 in
theorem gX8_tape_X5_lay : GoodIn wsX8_tape (wsV RX8 286 RX5 yX5_lay wsX5_lay) := goodIn_app (goodIn_of _ (by decide +kernel)) ggX8_tape_X5_lay
theorem dX8_tape_0 : decode cX8_tape 0 = .ok (.aload_n 0, 1) := by decide +kernel
theorem dX8_tape_1 : decode cX8_tape 1 = .ok (.getfield 56, 3) := by decide +kernel
theorem dX8_tape_4 : decode cX8_tape 4 = .ok (.iload_n 1, 1) := by decide +kernel
theorem dX8_tape_5 : decode cX8_tape 5 = .ok (.invokevirtual 273, 3) := by decide +kernel
theorem dX8_tape_8 : decode cX8_tape 8 = .ok (.ifCond .ne 5, 3) := by decide +kernel
theorem dX8_tape_11 : decode cX8_tape 11 = .ok (.iconst (-1), 1) := by decide +kernel
theorem dX8_tape_12 : decode cX8_tape 12 = .ok (.ireturn, 1) := by decide +kernel
theorem dX8_tape_13 : decode cX8_tape 13 = .ok (.iload_n 2, 1) := by decide +kernel
theorem dX8_tape_14 : decode cX8_tape 14 = .ok (.iconst (-1), 1) := by decide +kernel
theorem dX8_tape_15 : decode cX8_tape 15 = .ok (.if_icmp .ne 14, 3) := by decide +kernel
theorem dX8_tape_18 : decode cX8_tape 18 = .ok (.aload_n 0, 1) := by decide +kernel
theorem dX8_tape_19 : decode cX8_tape 19 = .ok (.getfield 56, 3) := by decide +kernel
theorem dX8_tape_22 : decode cX8_tape 22 = .ok (.iload_n 1, 1) := by decide +kernel
theorem dX8_tape_23 : decode cX8_tape 23 = .ok (.iload_n 2, 1) := by decide +kernel
theorem dX8_tape_24 : decode cX8_tape 24 = .ok (.iconst 0, 1) := by decide +kernel
theorem dX8_tape_25 : decode cX8_tape 25 = .ok (.invokevirtual 286, 3) := by decide +kernel
theorem dX8_tape_28 : decode cX8_tape 28 = .ok (.ireturn, 1) := by decide +kernel
theorem dX8_tape_29 : decode cX8_tape 29 = .ok (.iload_n 2, 1) := by decide +kernel
theorem dX8_tape_30 : decode cX8_tape 30 = .ok (.ifCond .lt 14, 3) := by decide +kernel
theorem dX8_tape_33 : decode cX8_tape 33 = .ok (.iload_n 2, 1) := by decide +kernel
theorem dX8_tape_34 : decode cX8_tape 34 = .ok (.iconst 4, 1) := by decide +kernel
theorem dX8_tape_35 : decode cX8_tape 35 = .ok (.if_icmp .gt 9, 3) := by decide +kernel
theorem dX8_tape_38 : decode cX8_tape 38 = .ok (.iload_n 3, 1) := by decide +kernel
theorem dX8_tape_39 : decode cX8_tape 39 = .ok (.bipush 60, 2) := by decide +kernel
theorem dX8_tape_41 : decode cX8_tape 41 = .ok (.if_icmp .le 6, 3) := by decide +kernel
theorem dX8_tape_44 : decode cX8_tape 44 = .ok (.bipush (-2), 2) := by decide +kernel
theorem dX8_tape_46 : decode cX8_tape 46 = .ok (.ireturn, 1) := by decide +kernel
theorem dX8_tape_47 : decode cX8_tape 47 = .ok (.iload_n 3, 1) := by decide +kernel
theorem dX8_tape_48 : decode cX8_tape 48 = .ok (.ifCond .ge 8, 3) := by decide +kernel
theorem dX8_tape_51 : decode cX8_tape 51 = .ok (.bipush (-14), 2) := by decide +kernel
theorem dX8_tape_53 : decode cX8_tape 53 = .ok (.goto 13, 3) := by decide +kernel
theorem dX8_tape_56 : decode cX8_tape 56 = .ok (.aload_n 0, 1) := by decide +kernel
theorem dX8_tape_57 : decode cX8_tape 57 = .ok (.getfield 56, 3) := by decide +kernel
theorem dX8_tape_60 : decode cX8_tape 60 = .ok (.iload_n 1, 1) := by decide +kernel
theorem dX8_tape_61 : decode cX8_tape 61 = .ok (.iload_n 2, 1) := by decide +kernel
theorem dX8_tape_62 : decode cX8_tape 62 = .ok (.iload_n 3, 1) := by decide +kernel
theorem dX8_tape_63 : decode cX8_tape 63 = .ok (.invokevirtual 286, 3) := by decide +kernel
theorem dX8_tape_66 : decode cX8_tape 66 = .ok (.ireturn, 1) := by decide +kernel
set_option maxRecDepth 20000 in
theorem ggX8_item_X5_has : GoodIn wsX8_item wsX5_has := goodIn_r _ [6] (by decide +kernel) (by decide +kernel)
set_option maxRecDepth 20000 in
theorem gX8_item_X5_has : GoodIn wsX8_item (wsV RX8 273 RX5 yX5_has wsX5_has) := goodIn_app (goodIn_of _ (by decide +kernel)) ggX8_item_X5_has
set_option maxRecDepth 20000 in
theorem ggX8_item_X5_holdsNothing : GoodIn wsX8_item wsX5_holdsNothing := goodIn_r _ [10, 11, 12, 3, 4, 5, 6, 35, 36, 37] (by decide +kernel) (by decide +kernel)
set_option maxRecDepth 20000 in
theorem gX8_item_X5_holdsNothing : GoodIn wsX8_item (wsV RX8 274 RX5 yX5_holdsNothing wsX5_holdsNothing) := goodIn_app (goodIn_of _ (by decide +kernel)) ggX8_item_X5_holdsNothing
set_option maxRecDepth 20000 in
theorem ggX8_item_X5_change : GoodIn wsX8_item wsX5_change := goodIn_r _ [16, 17, 11, 18, 19, 20, 5, 21, 22, 23, 8, 9, 10, 12, 3, 4, 6, 24, 25, 26, 35, 36, 37] (by decide +kernel) (by decide +kernel)
set_option maxRecDepth 20000 in
theorem gX8_item_X5_change : GoodIn wsX8_item (wsV RX8 290 RX5 yX5_change wsX5_change) := goodIn_app (goodIn_of _ (by decide +kernel)) ggX8_item_X5_change
theorem dX8_item_0 : decode cX8_item 0 = .ok (.aload_n 0, 1) := by decide +kernel
theorem dX8_item_1 : decode cX8_item 1 = .ok (.getfield 56, 3) := by decide +kernel
theorem dX8_item_4 : decode cX8_item 4 = .ok (.iload_n 1, 1) := by decide +kernel
theorem dX8_item_5 : decode cX8_item 5 = .ok (.invokevirtual 273, 3) := by decide +kernel
theorem dX8_item_8 : decode cX8_item 8 = .ok (.ifCond .ne 5, 3) := by decide +kernel
theorem dX8_item_11 : decode cX8_item 11 = .ok (.iconst (-1), 1) := by decide +kernel
theorem dX8_item_12 : decode cX8_item 12 = .ok (.ireturn, 1) := by decide +kernel
theorem dX8_item_13 : decode cX8_item 13 = .ok (.aload_n 0, 1) := by decide +kernel
theorem dX8_item_14 : decode cX8_item 14 = .ok (.getfield 56, 3) := by decide +kernel
theorem dX8_item_17 : decode cX8_item 17 = .ok (.iload_n 1, 1) := by decide +kernel
theorem dX8_item_18 : decode cX8_item 18 = .ok (.invokevirtual 274, 3) := by decide +kernel
theorem dX8_item_21 : decode cX8_item 21 = .ok (.ifCond .eq 6, 3) := by decide +kernel
theorem dX8_item_24 : decode cX8_item 24 = .ok (.bipush (-11), 2) := by decide +kernel
theorem dX8_item_26 : decode cX8_item 26 = .ok (.ireturn, 1) := by decide +kernel
theorem dX8_item_27 : decode cX8_item 27 = .ok (.aload_n 0, 1) := by decide +kernel
theorem dX8_item_28 : decode cX8_item 28 = .ok (.getfield 56, 3) := by decide +kernel
theorem dX8_item_31 : decode cX8_item 31 = .ok (.iload_n 1, 1) := by decide +kernel
theorem dX8_item_32 : decode cX8_item 32 = .ok (.iload_n 2, 1) := by decide +kernel
theorem dX8_item_33 : decode cX8_item 33 = .ok (.lload_n 3, 1) := by decide +kernel
theorem dX8_item_34 : decode cX8_item 34 = .ok (.invokevirtual 290, 3) := by decide +kernel
theorem dX8_item_37 : decode cX8_item 37 = .ok (.ifCond .eq 7, 3) := by decide +kernel
theorem dX8_item_40 : decode cX8_item 40 = .ok (.iconst 1, 1) := by decide +kernel
theorem dX8_item_41 : decode cX8_item 41 = .ok (.goto 5, 3) := by decide +kernel
theorem dX8_item_44 : decode cX8_item 44 = .ok (.bipush (-13), 2) := by decide +kernel
theorem dX8_item_46 : decode cX8_item 46 = .ok (.ireturn, 1) := by decide +kernel
set_option maxRecDepth 20000 in
theorem ggX8_peek_X5_hasItem : GoodIn wsX8_peek wsX5_hasItem := goodIn_r _ [8, 9, 10, 11, 12, 7, 13, 14, 15, 16, 17, 18, 27, 28, 29] (by decide +kernel) (by decide +kernel)
set_option maxRecDepth 20000 in
theorem gX8_peek_X5_hasItem : GoodIn wsX8_peek (wsV RX8 294 RX5 yX5_hasItem wsX5_hasItem) := goodIn_app (goodIn_of _ (by decide +kernel)) ggX8_peek_X5_hasItem
theorem dX8_peek_0 : decode cX8_peek 0 = .ok (.aload_n 0, 1) := by decide +kernel
theorem dX8_peek_1 : decode cX8_peek 1 = .ok (.getfield 56, 3) := by decide +kernel
theorem dX8_peek_4 : decode cX8_peek 4 = .ok (.iload_n 1, 1) := by decide +kernel
theorem dX8_peek_5 : decode cX8_peek 5 = .ok (.iload_n 2, 1) := by decide +kernel
theorem dX8_peek_6 : decode cX8_peek 6 = .ok (.invokevirtual 294, 3) := by decide +kernel
theorem dX8_peek_9 : decode cX8_peek 9 = .ok (.ifCond .eq 17, 3) := by decide +kernel
theorem dX8_peek_12 : decode cX8_peek 12 = .ok (.aload_n 0, 1) := by decide +kernel
theorem dX8_peek_13 : decode cX8_peek 13 = .ok (.getfield 56, 3) := by decide +kernel
theorem dX8_peek_16 : decode cX8_peek 16 = .ok (.getfield 297, 3) := by decide +kernel
theorem dX8_peek_19 : decode cX8_peek 19 = .ok (.iload_n 1, 1) := by decide +kernel
theorem dX8_peek_20 : decode cX8_peek 20 = .ok (.aaload, 1) := by decide +kernel
theorem dX8_peek_21 : decode cX8_peek 21 = .ok (.iload_n 2, 1) := by decide +kernel
theorem dX8_peek_22 : decode cX8_peek 22 = .ok (.laload, 1) := by decide +kernel
theorem dX8_peek_23 : decode cX8_peek 23 = .ok (.goto 6, 3) := by decide +kernel
theorem dX8_peek_26 : decode cX8_peek 26 = .ok (.ldc2_w 250, 3) := by decide +kernel
theorem dX8_peek_29 : decode cX8_peek 29 = .ok (.lreturn, 1) := by decide +kernel
set_option maxRecDepth 20000 in
theorem ggX8_shift_X5_has : GoodIn wsX8_shift wsX5_has := goodIn_r _ [12] (by decide +kernel) (by decide +kernel)
set_option maxRecDepth 20000 in
theorem gX8_shift_X5_has : GoodIn wsX8_shift (wsV RX8 273 RX5 yX5_has wsX5_has) := goodIn_app (goodIn_of _ (by decide +kernel)) ggX8_shift_X5_has
set_option maxRecDepth 20000 in
theorem ggX8_shift_X5_holdsNothing : GoodIn wsX8_shift wsX5_holdsNothing := goodIn_r _ [16, 17, 18, 9, 10, 11, 12, 33, 34, 35] (by decide +kernel) (by decide +kernel)
set_option maxRecDepth 20000 in
theorem gX8_shift_X5_holdsNothing : GoodIn wsX8_shift (wsV RX8 274 RX5 yX5_holdsNothing wsX5_holdsNothing) := goodIn_app (goodIn_of _ (by decide +kernel)) ggX8_shift_X5_holdsNothing
set_option maxRecDepth 20000 in
theorem ggX8_shift_X5_hasRun : GoodIn wsX8_shift wsX5_hasRun := goodIn_r _ [22, 23, 24, 14, 15, 11, 16, 17, 18, 9, 10, 12, 33, 34, 35] (by decide +kernel) (by decide +kernel)
set_option maxRecDepth 20000 in
theorem gX8_shift_X5_hasRun : GoodIn wsX8_shift (wsV RX8 301 RX5 yX5_hasRun wsX5_hasRun) := goodIn_app (goodIn_of _ (by decide +kernel)) ggX8_shift_X5_hasRun
theorem dX8_shift_0 : decode cX8_shift 0 = .ok (.aload_n 0, 1) := by decide +kernel
theorem dX8_shift_1 : decode cX8_shift 1 = .ok (.getfield 56, 3) := by decide +kernel
theorem dX8_shift_4 : decode cX8_shift 4 = .ok (.iload_n 1, 1) := by decide +kernel
theorem dX8_shift_5 : decode cX8_shift 5 = .ok (.invokevirtual 273, 3) := by decide +kernel
theorem dX8_shift_8 : decode cX8_shift 8 = .ok (.ifCond .eq 14, 3) := by decide +kernel
theorem dX8_shift_11 : decode cX8_shift 11 = .ok (.aload_n 0, 1) := by decide +kernel
theorem dX8_shift_12 : decode cX8_shift 12 = .ok (.getfield 56, 3) := by decide +kernel
theorem dX8_shift_15 : decode cX8_shift 15 = .ok (.iload_n 3, 1) := by decide +kernel
theorem dX8_shift_16 : decode cX8_shift 16 = .ok (.invokevirtual 273, 3) := by decide +kernel
theorem dX8_shift_19 : decode cX8_shift 19 = .ok (.ifCond .ne 5, 3) := by decide +kernel
theorem dX8_shift_22 : decode cX8_shift 22 = .ok (.iconst (-1), 1) := by decide +kernel
theorem dX8_shift_23 : decode cX8_shift 23 = .ok (.ireturn, 1) := by decide +kernel
theorem dX8_shift_24 : decode cX8_shift 24 = .ok (.aload_n 0, 1) := by decide +kernel
theorem dX8_shift_25 : decode cX8_shift 25 = .ok (.getfield 56, 3) := by decide +kernel
theorem dX8_shift_28 : decode cX8_shift 28 = .ok (.iload_n 1, 1) := by decide +kernel
theorem dX8_shift_29 : decode cX8_shift 29 = .ok (.invokevirtual 274, 3) := by decide +kernel
theorem dX8_shift_32 : decode cX8_shift 32 = .ok (.ifCond .ne 14, 3) := by decide +kernel
theorem dX8_shift_35 : decode cX8_shift 35 = .ok (.aload_n 0, 1) := by decide +kernel
theorem dX8_shift_36 : decode cX8_shift 36 = .ok (.getfield 56, 3) := by decide +kernel
theorem dX8_shift_39 : decode cX8_shift 39 = .ok (.iload_n 3, 1) := by decide +kernel
theorem dX8_shift_40 : decode cX8_shift 40 = .ok (.invokevirtual 274, 3) := by decide +kernel
theorem dX8_shift_43 : decode cX8_shift 43 = .ok (.ifCond .eq 6, 3) := by decide +kernel
theorem dX8_shift_46 : decode cX8_shift 46 = .ok (.bipush (-11), 2) := by decide +kernel
theorem dX8_shift_48 : decode cX8_shift 48 = .ok (.ireturn, 1) := by decide +kernel
theorem dX8_shift_49 : decode cX8_shift 49 = .ok (.aload_n 0, 1) := by decide +kernel
theorem dX8_shift_50 : decode cX8_shift 50 = .ok (.getfield 56, 3) := by decide +kernel
theorem dX8_shift_53 : decode cX8_shift 53 = .ok (.getfield 277, 3) := by decide +kernel
theorem dX8_shift_56 : decode cX8_shift 56 = .ok (.iload_n 1, 1) := by decide +kernel
theorem dX8_shift_57 : decode cX8_shift 57 = .ok (.iaload, 1) := by decide +kernel
theorem dX8_shift_58 : decode cX8_shift 58 = .ok (.aload_n 0, 1) := by decide +kernel
theorem dX8_shift_59 : decode cX8_shift 59 = .ok (.getfield 56, 3) := by decide +kernel
theorem dX8_shift_62 : decode cX8_shift 62 = .ok (.getfield 277, 3) := by decide +kernel
theorem dX8_shift_65 : decode cX8_shift 65 = .ok (.iload_n 3, 1) := by decide +kernel
theorem dX8_shift_66 : decode cX8_shift 66 = .ok (.iaload, 1) := by decide +kernel
theorem dX8_shift_67 : decode cX8_shift 67 = .ok (.if_icmp .eq 6, 3) := by decide +kernel
theorem dX8_shift_70 : decode cX8_shift 70 = .ok (.bipush (-12), 2) := by decide +kernel
theorem dX8_shift_72 : decode cX8_shift 72 = .ok (.ireturn, 1) := by decide +kernel
theorem dX8_shift_73 : decode cX8_shift 73 = .ok (.aload_n 0, 1) := by decide +kernel
theorem dX8_shift_74 : decode cX8_shift 74 = .ok (.getfield 56, 3) := by decide +kernel
theorem dX8_shift_77 : decode cX8_shift 77 = .ok (.iload_n 1, 1) := by decide +kernel
theorem dX8_shift_78 : decode cX8_shift 78 = .ok (.iload_n 2, 1) := by decide +kernel
theorem dX8_shift_79 : decode cX8_shift 79 = .ok (.iload 5, 2) := by decide +kernel
theorem dX8_shift_81 : decode cX8_shift 81 = .ok (.invokevirtual 301, 3) := by decide +kernel
theorem dX8_shift_84 : decode cX8_shift 84 = .ok (.ifCond .eq 18, 3) := by decide +kernel
theorem dX8_shift_87 : decode cX8_shift 87 = .ok (.aload_n 0, 1) := by decide +kernel
theorem dX8_shift_88 : decode cX8_shift 88 = .ok (.getfield 56, 3) := by decide +kernel
theorem dX8_shift_91 : decode cX8_shift 91 = .ok (.iload_n 3, 1) := by decide +kernel
theorem dX8_shift_92 : decode cX8_shift 92 = .ok (.iload 4, 2) := by decide +kernel
theorem dX8_shift_94 : decode cX8_shift 94 = .ok (.iload 5, 2) := by decide +kernel
theorem dX8_shift_96 : decode cX8_shift 96 = .ok (.invokevirtual 301, 3) := by decide +kernel
theorem dX8_shift_99 : decode cX8_shift 99 = .ok (.ifCond .ne 6, 3) := by decide +kernel
theorem dX8_shift_102 : decode cX8_shift 102 = .ok (.bipush (-13), 2) := by decide +kernel
theorem dX8_shift_104 : decode cX8_shift 104 = .ok (.ireturn, 1) := by decide +kernel
theorem dX8_shift_105 : decode cX8_shift 105 = .ok (.aload_n 0, 1) := by decide +kernel
theorem dX8_shift_106 : decode cX8_shift 106 = .ok (.getfield 56, 3) := by decide +kernel
theorem dX8_shift_109 : decode cX8_shift 109 = .ok (.getfield 297, 3) := by decide +kernel
theorem dX8_shift_112 : decode cX8_shift 112 = .ok (.iload_n 1, 1) := by decide +kernel
theorem dX8_shift_113 : decode cX8_shift 113 = .ok (.aaload, 1) := by decide +kernel
theorem dX8_shift_114 : decode cX8_shift 114 = .ok (.iload_n 2, 1) := by decide +kernel
theorem dX8_shift_115 : decode cX8_shift 115 = .ok (.aload_n 0, 1) := by decide +kernel
theorem dX8_shift_116 : decode cX8_shift 116 = .ok (.getfield 56, 3) := by decide +kernel
theorem dX8_shift_119 : decode cX8_shift 119 = .ok (.getfield 297, 3) := by decide +kernel
theorem dX8_shift_122 : decode cX8_shift 122 = .ok (.iload_n 3, 1) := by decide +kernel
theorem dX8_shift_123 : decode cX8_shift 123 = .ok (.aaload, 1) := by decide +kernel
theorem dX8_shift_124 : decode cX8_shift 124 = .ok (.iload 4, 2) := by decide +kernel
theorem dX8_shift_126 : decode cX8_shift 126 = .ok (.iload 5, 2) := by decide +kernel
theorem dX8_shift_128 : decode cX8_shift 128 = .ok (.invokestatic 304, 3) := by decide +kernel
theorem dX8_shift_131 : decode cX8_shift 131 = .ok (.iload 5, 2) := by decide +kernel
theorem dX8_shift_133 : decode cX8_shift 133 = .ok (.ireturn, 1) := by decide +kernel
theorem dX8_oneIf_0 : decode cX8_oneIf 0 = .ok (.iload_n 0, 1) := by decide +kernel
theorem dX8_oneIf_1 : decode cX8_oneIf 1 = .ok (.ifCond .eq 7, 3) := by decide +kernel
theorem dX8_oneIf_4 : decode cX8_oneIf 4 = .ok (.iconst 1, 1) := by decide +kernel
theorem dX8_oneIf_5 : decode cX8_oneIf 5 = .ok (.goto 4, 3) := by decide +kernel
theorem dX8_oneIf_8 : decode cX8_oneIf 8 = .ok (.iconst 0, 1) := by decide +kernel
theorem dX8_oneIf_9 : decode cX8_oneIf 9 = .ok (.ireturn, 1) := by decide +kernel
set_option maxRecDepth 20000 in
theorem ggX8_cornerRefusal_X0_follow : GoodIn wsX8_cornerRefusal wsX0_follow := goodIn_r _ [9, 10, 11, 12, 13, 14, 15, 16, 17, 18, 19, 20, 21, 22, 23, 24, 25, 26, 27, 28, 29, 30, 31, 32, 33, 34, 35, 36, 37, 38, 39, 40, 41, 42, 43, 44, 45, 46, 47, 8, 48, 49, 50, 51, 52, 53, 54, 55, 56, 57, 58, 59, 60, 61, 62, 63, 64, 65, 66, 67, 68, 69, 70, 71, 72, 73, 74, 75, 76, 77, 78, 79, 80, 81, 82, 83, 84, 85, 86, 87, 88, 89, 90, 91, 92, 93, 94, 95, 96, 97, 98, 99, 100, 101, 102, 103, 104, 105, 106, 107, 108, 109, 110, 111, 112, 113, 114, 130, 131, 132, 133, 134, 135, 136, 137, 138] (by decide +kernel) (by decide +kernel)
set_option maxRecDepth 20000 in
theorem gX8_cornerRefusal_X0_follow : GoodIn wsX8_cornerRefusal (wsV RX8 188 RX0 yX0_follow wsX0_follow) := goodIn_app (goodIn_of _ (by decide +kernel)) ggX8_cornerRefusal_X0_follow
set_option maxRecDepth 20000 in
theorem ggX8_cornerRefusal_X0_has : GoodIn wsX8_cornerRefusal wsX0_has := goodIn_r _ [107, 12, 130, 131, 132, 133, 134, 135, 136] (by decide +kernel) (by decide +kernel)
set_option maxRecDepth 20000 in
theorem gX8_cornerRefusal_X0_has : GoodIn wsX8_cornerRefusal (wsV RX8 310 RX0 yX0_has wsX0_has) := goodIn_app (goodIn_of _ (by decide +kernel)) ggX8_cornerRefusal_X0_has
theorem dX8_cornerRefusal_0 : decode cX8_cornerRefusal 0 = .ok (.aload_n 0, 1) := by decide +kernel
theorem dX8_cornerRefusal_1 : decode cX8_cornerRefusal 1 = .ok (.getfield 42, 3) := by decide +kernel
theorem dX8_cornerRefusal_4 : decode cX8_cornerRefusal 4 = .ok (.aload_n 0, 1) := by decide +kernel
theorem dX8_cornerRefusal_5 : decode cX8_cornerRefusal 5 = .ok (.getfield 12, 3) := by decide +kernel
theorem dX8_cornerRefusal_8 : decode cX8_cornerRefusal 8 = .ok (.getfield 60, 3) := by decide +kernel
theorem dX8_cornerRefusal_11 : decode cX8_cornerRefusal 11 = .ok (.invokevirtual 188, 3) := by decide +kernel
theorem dX8_cornerRefusal_14 : decode cX8_cornerRefusal 14 = .ok (.aload_n 0, 1) := by decide +kernel
theorem dX8_cornerRefusal_15 : decode cX8_cornerRefusal 15 = .ok (.getfield 42, 3) := by decide +kernel
theorem dX8_cornerRefusal_18 : decode cX8_cornerRefusal 18 = .ok (.getfield 189, 3) := by decide +kernel
theorem dX8_cornerRefusal_21 : decode cX8_cornerRefusal 21 = .ok (.ifCond .ne 6, 3) := by decide +kernel
theorem dX8_cornerRefusal_24 : decode cX8_cornerRefusal 24 = .ok (.bipush (-3), 2) := by decide +kernel
theorem dX8_cornerRefusal_26 : decode cX8_cornerRefusal 26 = .ok (.ireturn, 1) := by decide +kernel
theorem dX8_cornerRefusal_27 : decode cX8_cornerRefusal 27 = .ok (.aload_n 0, 1) := by decide +kernel
theorem dX8_cornerRefusal_28 : decode cX8_cornerRefusal 28 = .ok (.getfield 42, 3) := by decide +kernel
theorem dX8_cornerRefusal_31 : decode cX8_cornerRefusal 31 = .ok (.iload_n 1, 1) := by decide +kernel
theorem dX8_cornerRefusal_32 : decode cX8_cornerRefusal 32 = .ok (.invokevirtual 310, 3) := by decide +kernel
theorem dX8_cornerRefusal_35 : decode cX8_cornerRefusal 35 = .ok (.ifCond .eq 7, 3) := by decide +kernel
theorem dX8_cornerRefusal_38 : decode cX8_cornerRefusal 38 = .ok (.iconst 0, 1) := by decide +kernel
theorem dX8_cornerRefusal_39 : decode cX8_cornerRefusal 39 = .ok (.goto 4, 3) := by decide +kernel
theorem dX8_cornerRefusal_42 : decode cX8_cornerRefusal 42 = .ok (.iconst (-1), 1) := by decide +kernel
theorem dX8_cornerRefusal_43 : decode cX8_cornerRefusal 43 = .ok (.ireturn, 1) := by decide +kernel
set_option maxRecDepth 20000 in
theorem ggX8_judgeRow_X5_hasItem : GoodIn wsX8_judgeRow wsX5_hasItem := goodIn_r _ [10, 11, 12, 13, 14, 9, 15, 16, 17, 18, 19, 20, 44, 45, 46] (by decide +kernel) (by decide +kernel)
set_option maxRecDepth 20000 in
theorem gX8_judgeRow_X5_hasItem : GoodIn wsX8_judgeRow (wsV RX8 294 RX5 yX5_hasItem wsX5_hasItem) := goodIn_app (goodIn_of _ (by decide +kernel)) ggX8_judgeRow_X5_hasItem
set_option maxRecDepth 20000 in
theorem ggX8_judgeRow_X4_gap : GoodIn wsX8_judgeRow wsX4_gap := goodIn_r _ [25, 26, 27, 42, 43] (by decide +kernel) (by decide +kernel)
set_option maxRecDepth 20000 in
theorem gX8_judgeRow_X4_gap : GoodIn wsX8_judgeRow (wsV RX8 75 RX4 yX4_gap wsX4_gap) := goodIn_app (goodIn_of _ (by decide +kernel)) ggX8_judgeRow_X4_gap
theorem dX8_judgeRow_0 : decode cX8_judgeRow 0 = .ok (.iload_n 2, 1) := by decide +kernel
theorem dX8_judgeRow_1 : decode cX8_judgeRow 1 = .ok (.istore_n 3, 1) := by decide +kernel
theorem dX8_judgeRow_2 : decode cX8_judgeRow 2 = .ok (.iconst 0, 1) := by decide +kernel
theorem dX8_judgeRow_3 : decode cX8_judgeRow 3 = .ok (.istore 4, 2) := by decide +kernel
theorem dX8_judgeRow_5 : decode cX8_judgeRow 5 = .ok (.iconst 0, 1) := by decide +kernel
theorem dX8_judgeRow_6 : decode cX8_judgeRow 6 = .ok (.istore 5, 2) := by decide +kernel
theorem dX8_judgeRow_8 : decode cX8_judgeRow 8 = .ok (.iload 5, 2) := by decide +kernel
theorem dX8_judgeRow_10 : decode cX8_judgeRow 10 = .ok (.aload_n 0, 1) := by decide +kernel
theorem dX8_judgeRow_11 : decode cX8_judgeRow 11 = .ok (.getfield 12, 3) := by decide +kernel
theorem dX8_judgeRow_14 : decode cX8_judgeRow 14 = .ok (.getfield 60, 3) := by decide +kernel
theorem dX8_judgeRow_17 : decode cX8_judgeRow 17 = .ok (.getfield 63, 3) := by decide +kernel
theorem dX8_judgeRow_20 : decode cX8_judgeRow 20 = .ok (.if_icmp .ge 99, 3) := by decide +kernel
theorem dX8_judgeRow_23 : decode cX8_judgeRow 23 = .ok (.iload 5, 2) := by decide +kernel
theorem dX8_judgeRow_25 : decode cX8_judgeRow 25 = .ok (.iconst 1, 1) := by decide +kernel
theorem dX8_judgeRow_26 : decode cX8_judgeRow 26 = .ok (.iadd, 1) := by decide +kernel
theorem dX8_judgeRow_27 : decode cX8_judgeRow 27 = .ok (.istore 6, 2) := by decide +kernel
theorem dX8_judgeRow_29 : decode cX8_judgeRow 29 = .ok (.iload 6, 2) := by decide +kernel
theorem dX8_judgeRow_31 : decode cX8_judgeRow 31 = .ok (.aload_n 0, 1) := by decide +kernel
theorem dX8_judgeRow_32 : decode cX8_judgeRow 32 = .ok (.getfield 12, 3) := by decide +kernel
theorem dX8_judgeRow_35 : decode cX8_judgeRow 35 = .ok (.getfield 60, 3) := by decide +kernel
theorem dX8_judgeRow_38 : decode cX8_judgeRow 38 = .ok (.getfield 63, 3) := by decide +kernel
theorem dX8_judgeRow_41 : decode cX8_judgeRow 41 = .ok (.if_icmp .ge 72, 3) := by decide +kernel
theorem dX8_judgeRow_44 : decode cX8_judgeRow 44 = .ok (.aload_n 0, 1) := by decide +kernel
theorem dX8_judgeRow_45 : decode cX8_judgeRow 45 = .ok (.getfield 56, 3) := by decide +kernel
theorem dX8_judgeRow_48 : decode cX8_judgeRow 48 = .ok (.iload_n 1, 1) := by decide +kernel
theorem dX8_judgeRow_49 : decode cX8_judgeRow 49 = .ok (.iload_n 3, 1) := by decide +kernel
theorem dX8_judgeRow_50 : decode cX8_judgeRow 50 = .ok (.invokevirtual 294, 3) := by decide +kernel
theorem dX8_judgeRow_53 : decode cX8_judgeRow 53 = .ok (.ifCond .ne 9, 3) := by decide +kernel
theorem dX8_judgeRow_56 : decode cX8_judgeRow 56 = .ok (.bipush 100, 2) := by decide +kernel
theorem dX8_judgeRow_58 : decode cX8_judgeRow 58 = .ok (.iload 4, 2) := by decide +kernel
theorem dX8_judgeRow_60 : decode cX8_judgeRow 60 = .ok (.iadd, 1) := by decide +kernel
theorem dX8_judgeRow_61 : decode cX8_judgeRow 61 = .ok (.ireturn, 1) := by decide +kernel
theorem dX8_judgeRow_62 : decode cX8_judgeRow 62 = .ok (.aload_n 0, 1) := by decide +kernel
theorem dX8_judgeRow_63 : decode cX8_judgeRow 63 = .ok (.getfield 56, 3) := by decide +kernel
theorem dX8_judgeRow_66 : decode cX8_judgeRow 66 = .ok (.getfield 297, 3) := by decide +kernel
theorem dX8_judgeRow_69 : decode cX8_judgeRow 69 = .ok (.iload_n 1, 1) := by decide +kernel
theorem dX8_judgeRow_70 : decode cX8_judgeRow 70 = .ok (.aaload, 1) := by decide +kernel
theorem dX8_judgeRow_71 : decode cX8_judgeRow 71 = .ok (.iload_n 3, 1) := by decide +kernel
theorem dX8_judgeRow_72 : decode cX8_judgeRow 72 = .ok (.laload, 1) := by decide +kernel
theorem dX8_judgeRow_73 : decode cX8_judgeRow 73 = .ok (.aload_n 0, 1) := by decide +kernel
theorem dX8_judgeRow_74 : decode cX8_judgeRow 74 = .ok (.getfield 12, 3) := by decide +kernel
theorem dX8_judgeRow_77 : decode cX8_judgeRow 77 = .ok (.getfield 60, 3) := by decide +kernel
theorem dX8_judgeRow_80 : decode cX8_judgeRow 80 = .ok (.iload 5, 2) := by decide +kernel
theorem dX8_judgeRow_82 : decode cX8_judgeRow 82 = .ok (.iload 6, 2) := by decide +kernel
theorem dX8_judgeRow_84 : decode cX8_judgeRow 84 = .ok (.invokevirtual 75, 3) := by decide +kernel
theorem dX8_judgeRow_87 : decode cX8_judgeRow 87 = .ok (.i2l, 1) := by decide +kernel
theorem dX8_judgeRow_88 : decode cX8_judgeRow 88 = .ok (.lcmp, 1) := by decide +kernel
theorem dX8_judgeRow_89 : decode cX8_judgeRow 89 = .ok (.ifCond .eq 12, 3) := by decide +kernel
theorem dX8_judgeRow_92 : decode cX8_judgeRow 92 = .ok (.bipush 10, 2) := by decide +kernel
theorem dX8_judgeRow_94 : decode cX8_judgeRow 94 = .ok (.iload 5, 2) := by decide +kernel
theorem dX8_judgeRow_96 : decode cX8_judgeRow 96 = .ok (.imul, 1) := by decide +kernel
theorem dX8_judgeRow_97 : decode cX8_judgeRow 97 = .ok (.iload 6, 2) := by decide +kernel
theorem dX8_judgeRow_99 : decode cX8_judgeRow 99 = .ok (.iadd, 1) := by decide +kernel
theorem dX8_judgeRow_100 : decode cX8_judgeRow 100 = .ok (.ireturn, 1) := by decide +kernel
theorem dX8_judgeRow_101 : decode cX8_judgeRow 101 = .ok (.iinc 4 1, 3) := by decide +kernel
theorem dX8_judgeRow_104 : decode cX8_judgeRow 104 = .ok (.iinc 3 1, 3) := by decide +kernel
theorem dX8_judgeRow_107 : decode cX8_judgeRow 107 = .ok (.iinc 6 1, 3) := by decide +kernel
theorem dX8_judgeRow_110 : decode cX8_judgeRow 110 = .ok (.goto (-81), 3) := by decide +kernel
theorem dX8_judgeRow_113 : decode cX8_judgeRow 113 = .ok (.iinc 5 1, 3) := by decide +kernel
theorem dX8_judgeRow_116 : decode cX8_judgeRow 116 = .ok (.goto (-108), 3) := by decide +kernel
theorem dX8_judgeRow_119 : decode cX8_judgeRow 119 = .ok (.bipush (-5), 2) := by decide +kernel
theorem dX8_judgeRow_121 : decode cX8_judgeRow 121 = .ok (.ireturn, 1) := by decide +kernel
set_option maxRecDepth 20000 in
theorem ggX8_lowestTerms_X8_commonDivisor : GoodIn wsX8_lowestTerms wsX8_commonDivisor := goodIn_r _ [5] (by decide +kernel) (by decide +kernel)
set_option maxRecDepth 20000 in
theorem gX8_lowestTerms_X8_commonDivisor : GoodIn wsX8_lowestTerms (va_wsS RX8 311 yX8_commonDivisor wsX8_commonDivisor) := goodIn_app (goodIn_of _ (by decide +kernel)) ggX8_lowestTerms_X8_commonDivisor
theorem dX8_lowestTerms_0 : decode cX8_lowestTerms 0 = .ok (.iload_n 1, 1) := by decide +kernel
theorem dX8_lowestTerms_1 : decode cX8_lowestTerms 1 = .ok (.ifCond .le 12, 3) := by decide +kernel
theorem dX8_lowestTerms_4 : decode cX8_lowestTerms 4 = .ok (.iload_n 2, 1) := by decide +kernel
theorem dX8_lowestTerms_5 : decode cX8_lowestTerms 5 = .ok (.ifCond .lt 8, 3) := by decide +kernel
theorem dX8_lowestTerms_8 : decode cX8_lowestTerms 8 = .ok (.iload_n 2, 1) := by decide +kernel
theorem dX8_lowestTerms_9 : decode cX8_lowestTerms 9 = .ok (.iconst 1, 1) := by decide +kernel
theorem dX8_lowestTerms_10 : decode cX8_lowestTerms 10 = .ok (.if_icmp .le 7, 3) := by decide +kernel
theorem dX8_lowestTerms_13 : decode cX8_lowestTerms 13 = .ok (.ldc2_w 250, 3) := by decide +kernel
theorem dX8_lowestTerms_16 : decode cX8_lowestTerms 16 = .ok (.lreturn, 1) := by decide +kernel
theorem dX8_lowestTerms_17 : decode cX8_lowestTerms 17 = .ok (.iload_n 0, 1) := by decide +kernel
theorem dX8_lowestTerms_18 : decode cX8_lowestTerms 18 = .ok (.iload_n 1, 1) := by decide +kernel
theorem dX8_lowestTerms_19 : decode cX8_lowestTerms 19 = .ok (.invokestatic 311, 3) := by decide +kernel
theorem dX8_lowestTerms_22 : decode cX8_lowestTerms 22 = .ok (.istore_n 3, 1) := by decide +kernel
theorem dX8_lowestTerms_23 : decode cX8_lowestTerms 23 = .ok (.iload_n 3, 1) := by decide +kernel
theorem dX8_lowestTerms_24 : decode cX8_lowestTerms 24 = .ok (.ifCond .gt 7, 3) := by decide +kernel
theorem dX8_lowestTerms_27 : decode cX8_lowestTerms 27 = .ok (.ldc2_w 250, 3) := by decide +kernel
theorem dX8_lowestTerms_30 : decode cX8_lowestTerms 30 = .ok (.lreturn, 1) := by decide +kernel
theorem dX8_lowestTerms_31 : decode cX8_lowestTerms 31 = .ok (.iload_n 2, 1) := by decide +kernel
theorem dX8_lowestTerms_32 : decode cX8_lowestTerms 32 = .ok (.ifCond .ne 10, 3) := by decide +kernel
theorem dX8_lowestTerms_35 : decode cX8_lowestTerms 35 = .ok (.iload_n 0, 1) := by decide +kernel
theorem dX8_lowestTerms_36 : decode cX8_lowestTerms 36 = .ok (.iload_n 3, 1) := by decide +kernel
theorem dX8_lowestTerms_37 : decode cX8_lowestTerms 37 = .ok (.idiv, 1) := by decide +kernel
theorem dX8_lowestTerms_38 : decode cX8_lowestTerms 38 = .ok (.i2l, 1) := by decide +kernel
theorem dX8_lowestTerms_39 : decode cX8_lowestTerms 39 = .ok (.goto 7, 3) := by decide +kernel
theorem dX8_lowestTerms_42 : decode cX8_lowestTerms 42 = .ok (.iload_n 1, 1) := by decide +kernel
theorem dX8_lowestTerms_43 : decode cX8_lowestTerms 43 = .ok (.iload_n 3, 1) := by decide +kernel
theorem dX8_lowestTerms_44 : decode cX8_lowestTerms 44 = .ok (.idiv, 1) := by decide +kernel
theorem dX8_lowestTerms_45 : decode cX8_lowestTerms 45 = .ok (.i2l, 1) := by decide +kernel
theorem dX8_lowestTerms_46 : decode cX8_lowestTerms 46 = .ok (.lreturn, 1) := by decide +kernel
theorem dX8_commonDivisor_0 : decode cX8_commonDivisor 0 = .ok (.iload_n 0, 1) := by decide +kernel
theorem dX8_commonDivisor_1 : decode cX8_commonDivisor 1 = .ok (.istore_n 2, 1) := by decide +kernel
theorem dX8_commonDivisor_2 : decode cX8_commonDivisor 2 = .ok (.iload_n 1, 1) := by decide +kernel
theorem dX8_commonDivisor_3 : decode cX8_commonDivisor 3 = .ok (.istore_n 3, 1) := by decide +kernel
theorem dX8_commonDivisor_4 : decode cX8_commonDivisor 4 = .ok (.iconst 0, 1) := by decide +kernel
theorem dX8_commonDivisor_5 : decode cX8_commonDivisor 5 = .ok (.istore 4, 2) := by decide +kernel
theorem dX8_commonDivisor_7 : decode cX8_commonDivisor 7 = .ok (.iload 4, 2) := by decide +kernel
theorem dX8_commonDivisor_9 : decode cX8_commonDivisor 9 = .ok (.bipush 100, 2) := by decide +kernel
theorem dX8_commonDivisor_11 : decode cX8_commonDivisor 11 = .ok (.if_icmp .ge 23, 3) := by decide +kernel
theorem dX8_commonDivisor_14 : decode cX8_commonDivisor 14 = .ok (.iload_n 3, 1) := by decide +kernel
theorem dX8_commonDivisor_15 : decode cX8_commonDivisor 15 = .ok (.ifCond .le 19, 3) := by decide +kernel
theorem dX8_commonDivisor_18 : decode cX8_commonDivisor 18 = .ok (.iload_n 2, 1) := by decide +kernel
theorem dX8_commonDivisor_19 : decode cX8_commonDivisor 19 = .ok (.iload_n 3, 1) := by decide +kernel
theorem dX8_commonDivisor_20 : decode cX8_commonDivisor 20 = .ok (.irem, 1) := by decide +kernel
theorem dX8_commonDivisor_21 : decode cX8_commonDivisor 21 = .ok (.istore 5, 2) := by decide +kernel
theorem dX8_commonDivisor_23 : decode cX8_commonDivisor 23 = .ok (.iload_n 3, 1) := by decide +kernel
theorem dX8_commonDivisor_24 : decode cX8_commonDivisor 24 = .ok (.istore_n 2, 1) := by decide +kernel
theorem dX8_commonDivisor_25 : decode cX8_commonDivisor 25 = .ok (.iload 5, 2) := by decide +kernel
theorem dX8_commonDivisor_27 : decode cX8_commonDivisor 27 = .ok (.istore_n 3, 1) := by decide +kernel
theorem dX8_commonDivisor_28 : decode cX8_commonDivisor 28 = .ok (.iinc 4 1, 3) := by decide +kernel
theorem dX8_commonDivisor_31 : decode cX8_commonDivisor 31 = .ok (.goto (-24), 3) := by decide +kernel
theorem dX8_commonDivisor_34 : decode cX8_commonDivisor 34 = .ok (.iload_n 2, 1) := by decide +kernel
theorem dX8_commonDivisor_35 : decode cX8_commonDivisor 35 = .ok (.ireturn, 1) := by decide +kernel
theorem dX9_init_0 : decode cX9_init 0 = .ok (.aload_n 0, 1) := by decide +kernel
theorem dX9_init_1 : decode cX9_init 1 = .ok (.invokespecial 3, 3) := by decide +kernel
theorem dX9_init_4 : decode cX9_init 4 = .ok (.aload_n 0, 1) := by decide +kernel
theorem dX9_init_5 : decode cX9_init 5 = .ok (.iconst 4, 1) := by decide +kernel
theorem dX9_init_6 : decode cX9_init 6 = .ok (.putfield 9, 3) := by decide +kernel
theorem dX9_init_9 : decode cX9_init 9 = .ok (.aload_n 0, 1) := by decide +kernel
theorem dX9_init_10 : decode cX9_init 10 = .ok (.bipush 25, 2) := by decide +kernel
theorem dX9_init_12 : decode cX9_init 12 = .ok (.newarray .int, 2) := by decide +kernel
theorem dX9_init_14 : decode cX9_init 14 = .ok (.dup, 1) := by decide +kernel
theorem dX9_init_15 : decode cX9_init 15 = .ok (.iconst 0, 1) := by decide +kernel
theorem dX9_init_16 : decode cX9_init 16 = .ok (.iconst 0, 1) := by decide +kernel
theorem dX9_init_17 : decode cX9_init 17 = .ok (.iastore, 1) := by decide +kernel
theorem dX9_init_18 : decode cX9_init 18 = .ok (.dup, 1) := by decide +kernel
theorem dX9_init_19 : decode cX9_init 19 = .ok (.iconst 1, 1) := by decide +kernel
theorem dX9_init_20 : decode cX9_init 20 = .ok (.iconst 2, 1) := by decide +kernel
theorem dX9_init_21 : decode cX9_init 21 = .ok (.iastore, 1) := by decide +kernel
theorem dX9_init_22 : decode cX9_init 22 = .ok (.dup, 1) := by decide +kernel
theorem dX9_init_23 : decode cX9_init 23 = .ok (.iconst 2, 1) := by decide +kernel
theorem dX9_init_24 : decode cX9_init 24 = .ok (.iconst 2, 1) := by decide +kernel
theorem dX9_init_25 : decode cX9_init 25 = .ok (.iastore, 1) := by decide +kernel
theorem dX9_init_26 : decode cX9_init 26 = .ok (.dup, 1) := by decide +kernel
theorem dX9_init_27 : decode cX9_init 27 = .ok (.iconst 3, 1) := by decide +kernel
theorem dX9_init_28 : decode cX9_init 28 = .ok (.iconst 2, 1) := by decide +kernel
theorem dX9_init_29 : decode cX9_init 29 = .ok (.iastore, 1) := by decide +kernel
theorem dX9_init_30 : decode cX9_init 30 = .ok (.dup, 1) := by decide +kernel
theorem dX9_init_31 : decode cX9_init 31 = .ok (.iconst 4, 1) := by decide +kernel
theorem dX9_init_32 : decode cX9_init 32 = .ok (.iconst 2, 1) := by decide +kernel
theorem dX9_init_33 : decode cX9_init 33 = .ok (.iastore, 1) := by decide +kernel
theorem dX9_init_34 : decode cX9_init 34 = .ok (.dup, 1) := by decide +kernel
theorem dX9_init_35 : decode cX9_init 35 = .ok (.iconst 5, 1) := by decide +kernel
theorem dX9_init_36 : decode cX9_init 36 = .ok (.iconst 2, 1) := by decide +kernel
theorem dX9_init_37 : decode cX9_init 37 = .ok (.iastore, 1) := by decide +kernel
theorem dX9_init_38 : decode cX9_init 38 = .ok (.dup, 1) := by decide +kernel
theorem dX9_init_39 : decode cX9_init 39 = .ok (.bipush 6, 2) := by decide +kernel
theorem dX9_init_41 : decode cX9_init 41 = .ok (.iconst 0, 1) := by decide +kernel
theorem dX9_init_42 : decode cX9_init 42 = .ok (.iastore, 1) := by decide +kernel
theorem dX9_init_43 : decode cX9_init 43 = .ok (.dup, 1) := by decide +kernel
theorem dX9_init_44 : decode cX9_init 44 = .ok (.bipush 7, 2) := by decide +kernel
theorem dX9_init_46 : decode cX9_init 46 = .ok (.iconst 2, 1) := by decide +kernel
theorem dX9_init_47 : decode cX9_init 47 = .ok (.iastore, 1) := by decide +kernel
theorem dX9_init_48 : decode cX9_init 48 = .ok (.dup, 1) := by decide +kernel
theorem dX9_init_49 : decode cX9_init 49 = .ok (.bipush 8, 2) := by decide +kernel
theorem dX9_init_51 : decode cX9_init 51 = .ok (.iconst 2, 1) := by decide +kernel
theorem dX9_init_52 : decode cX9_init 52 = .ok (.iastore, 1) := by decide +kernel
theorem dX9_init_53 : decode cX9_init 53 = .ok (.dup, 1) := by decide +kernel
theorem dX9_init_54 : decode cX9_init 54 = .ok (.bipush 9, 2) := by decide +kernel
theorem dX9_init_56 : decode cX9_init 56 = .ok (.iconst 2, 1) := by decide +kernel
theorem dX9_init_57 : decode cX9_init 57 = .ok (.iastore, 1) := by decide +kernel
theorem dX9_init_58 : decode cX9_init 58 = .ok (.dup, 1) := by decide +kernel
theorem dX9_init_59 : decode cX9_init 59 = .ok (.bipush 10, 2) := by decide +kernel
theorem dX9_init_61 : decode cX9_init 61 = .ok (.iconst 2, 1) := by decide +kernel
theorem dX9_init_62 : decode cX9_init 62 = .ok (.iastore, 1) := by decide +kernel
theorem dX9_init_63 : decode cX9_init 63 = .ok (.dup, 1) := by decide +kernel
theorem dX9_init_64 : decode cX9_init 64 = .ok (.bipush 11, 2) := by decide +kernel
theorem dX9_init_66 : decode cX9_init 66 = .ok (.iconst 2, 1) := by decide +kernel
theorem dX9_init_67 : decode cX9_init 67 = .ok (.iastore, 1) := by decide +kernel
theorem dX9_init_68 : decode cX9_init 68 = .ok (.dup, 1) := by decide +kernel
theorem dX9_init_69 : decode cX9_init 69 = .ok (.bipush 12, 2) := by decide +kernel
theorem dX9_init_71 : decode cX9_init 71 = .ok (.iconst 0, 1) := by decide +kernel
theorem dX9_init_72 : decode cX9_init 72 = .ok (.iastore, 1) := by decide +kernel
theorem dX9_init_73 : decode cX9_init 73 = .ok (.dup, 1) := by decide +kernel
theorem dX9_init_74 : decode cX9_init 74 = .ok (.bipush 13, 2) := by decide +kernel
theorem dX9_init_76 : decode cX9_init 76 = .ok (.iconst 2, 1) := by decide +kernel
theorem dX9_init_77 : decode cX9_init 77 = .ok (.iastore, 1) := by decide +kernel
theorem dX9_init_78 : decode cX9_init 78 = .ok (.dup, 1) := by decide +kernel
theorem dX9_init_79 : decode cX9_init 79 = .ok (.bipush 14, 2) := by decide +kernel
theorem dX9_init_81 : decode cX9_init 81 = .ok (.iconst 2, 1) := by decide +kernel
theorem dX9_init_82 : decode cX9_init 82 = .ok (.iastore, 1) := by decide +kernel
theorem dX9_init_83 : decode cX9_init 83 = .ok (.dup, 1) := by decide +kernel
theorem dX9_init_84 : decode cX9_init 84 = .ok (.bipush 15, 2) := by decide +kernel
theorem dX9_init_86 : decode cX9_init 86 = .ok (.iconst 2, 1) := by decide +kernel
theorem dX9_init_87 : decode cX9_init 87 = .ok (.iastore, 1) := by decide +kernel
theorem dX9_init_88 : decode cX9_init 88 = .ok (.dup, 1) := by decide +kernel
theorem dX9_init_89 : decode cX9_init 89 = .ok (.bipush 16, 2) := by decide +kernel
theorem dX9_init_91 : decode cX9_init 91 = .ok (.iconst 2, 1) := by decide +kernel
theorem dX9_init_92 : decode cX9_init 92 = .ok (.iastore, 1) := by decide +kernel
theorem dX9_init_93 : decode cX9_init 93 = .ok (.dup, 1) := by decide +kernel
theorem dX9_init_94 : decode cX9_init 94 = .ok (.bipush 17, 2) := by decide +kernel
theorem dX9_init_96 : decode cX9_init 96 = .ok (.iconst 2, 1) := by decide +kernel
theorem dX9_init_97 : decode cX9_init 97 = .ok (.iastore, 1) := by decide +kernel
theorem dX9_init_98 : decode cX9_init 98 = .ok (.dup, 1) := by decide +kernel
theorem dX9_init_99 : decode cX9_init 99 = .ok (.bipush 18, 2) := by decide +kernel
theorem dX9_init_101 : decode cX9_init 101 = .ok (.iconst 0, 1) := by decide +kernel
theorem dX9_init_102 : decode cX9_init 102 = .ok (.iastore, 1) := by decide +kernel
theorem dX9_init_103 : decode cX9_init 103 = .ok (.dup, 1) := by decide +kernel
theorem dX9_init_104 : decode cX9_init 104 = .ok (.bipush 19, 2) := by decide +kernel
theorem dX9_init_106 : decode cX9_init 106 = .ok (.iconst 2, 1) := by decide +kernel
theorem dX9_init_107 : decode cX9_init 107 = .ok (.iastore, 1) := by decide +kernel
theorem dX9_init_108 : decode cX9_init 108 = .ok (.dup, 1) := by decide +kernel
theorem dX9_init_109 : decode cX9_init 109 = .ok (.bipush 20, 2) := by decide +kernel
theorem dX9_init_111 : decode cX9_init 111 = .ok (.iconst 2, 1) := by decide +kernel
theorem dX9_init_112 : decode cX9_init 112 = .ok (.iastore, 1) := by decide +kernel
theorem dX9_init_113 : decode cX9_init 113 = .ok (.dup, 1) := by decide +kernel
theorem dX9_init_114 : decode cX9_init 114 = .ok (.bipush 21, 2) := by decide +kernel
theorem dX9_init_116 : decode cX9_init 116 = .ok (.iconst 2, 1) := by decide +kernel
theorem dX9_init_117 : decode cX9_init 117 = .ok (.iastore, 1) := by decide +kernel
theorem dX9_init_118 : decode cX9_init 118 = .ok (.dup, 1) := by decide +kernel
theorem dX9_init_119 : decode cX9_init 119 = .ok (.bipush 22, 2) := by decide +kernel
theorem dX9_init_121 : decode cX9_init 121 = .ok (.iconst 2, 1) := by decide +kernel
theorem dX9_init_122 : decode cX9_init 122 = .ok (.iastore, 1) := by decide +kernel
theorem dX9_init_123 : decode cX9_init 123 = .ok (.dup, 1) := by decide +kernel
theorem dX9_init_124 : decode cX9_init 124 = .ok (.bipush 23, 2) := by decide +kernel
theorem dX9_init_126 : decode cX9_init 126 = .ok (.iconst 2, 1) := by decide +kernel
theorem dX9_init_127 : decode cX9_init 127 = .ok (.iastore, 1) := by decide +kernel
theorem dX9_init_128 : decode cX9_init 128 = .ok (.dup, 1) := by decide +kernel
theorem dX9_init_129 : decode cX9_init 129 = .ok (.bipush 24, 2) := by decide +kernel
theorem dX9_init_131 : decode cX9_init 131 = .ok (.iconst 0, 1) := by decide +kernel
theorem dX9_init_132 : decode cX9_init 132 = .ok (.iastore, 1) := by decide +kernel
theorem dX9_init_133 : decode cX9_init 133 = .ok (.putfield 15, 3) := by decide +kernel
theorem dX9_init_136 : decode cX9_init 136 = .ok (.aload_n 0, 1) := by decide +kernel
theorem dX9_init_137 : decode cX9_init 137 = .ok (.iconst 5, 1) := by decide +kernel
theorem dX9_init_138 : decode cX9_init 138 = .ok (.newarray .int, 2) := by decide +kernel
theorem dX9_init_140 : decode cX9_init 140 = .ok (.putfield 19, 3) := by decide +kernel
theorem dX9_init_143 : decode cX9_init 143 = .ok (.aload_n 0, 1) := by decide +kernel
theorem dX9_init_144 : decode cX9_init 144 = .ok (.iconst 5, 1) := by decide +kernel
theorem dX9_init_145 : decode cX9_init 145 = .ok (.newarray .int, 2) := by decide +kernel
theorem dX9_init_147 : decode cX9_init 147 = .ok (.dup, 1) := by decide +kernel
theorem dX9_init_148 : decode cX9_init 148 = .ok (.iconst 0, 1) := by decide +kernel
theorem dX9_init_149 : decode cX9_init 149 = .ok (.iconst 0, 1) := by decide +kernel
theorem dX9_init_150 : decode cX9_init 150 = .ok (.iastore, 1) := by decide +kernel
theorem dX9_init_151 : decode cX9_init 151 = .ok (.dup, 1) := by decide +kernel
theorem dX9_init_152 : decode cX9_init 152 = .ok (.iconst 1, 1) := by decide +kernel
