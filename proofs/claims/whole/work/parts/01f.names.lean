theorem dX9_tries_310 : decode cX9_tries 310 = .ok (.iinc 1 1, 3) := by decide +kernel
theorem dX9_tries_313 : decode cX9_tries 313 = .ok (.goto (-56), 3) := by decide +kernel
theorem dX9_tries_316 : decode cX9_tries 316 = .ok (.aload_n 0, 1) := by decide +kernel
theorem dX9_tries_317 : decode cX9_tries 317 = .ok (.aload_n 0, 1) := by decide +kernel
theorem dX9_tries_318 : decode cX9_tries 318 = .ok (.getfield 77, 3) := by decide +kernel
theorem dX9_tries_321 : decode cX9_tries 321 = .ok (.iconst 0, 1) := by decide +kernel
theorem dX9_tries_322 : decode cX9_tries 322 = .ok (.invokevirtual 185, 3) := by decide +kernel
theorem dX9_tries_325 : decode cX9_tries 325 = .ok (.ireturn, 1) := by decide +kernel
theorem dX9_compared_0 : decode cX9_compared 0 = .ok (.iconst 0, 1) := by decide +kernel
theorem dX9_compared_1 : decode cX9_compared 1 = .ok (.istore_n 2, 1) := by decide +kernel
theorem dX9_compared_2 : decode cX9_compared 2 = .ok (.iload_n 2, 1) := by decide +kernel
theorem dX9_compared_3 : decode cX9_compared 3 = .ok (.aload_n 0, 1) := by decide +kernel
theorem dX9_compared_4 : decode cX9_compared 4 = .ok (.getfield 9, 3) := by decide +kernel
theorem dX9_compared_7 : decode cX9_compared 7 = .ok (.if_icmp .ge 46, 3) := by decide +kernel
theorem dX9_compared_10 : decode cX9_compared 10 = .ok (.aload_n 0, 1) := by decide +kernel
theorem dX9_compared_11 : decode cX9_compared 11 = .ok (.getfield 71, 3) := by decide +kernel
theorem dX9_compared_14 : decode cX9_compared 14 = .ok (.iconst 5, 1) := by decide +kernel
theorem dX9_compared_15 : decode cX9_compared 15 = .ok (.iload_n 1, 1) := by decide +kernel
theorem dX9_compared_16 : decode cX9_compared 16 = .ok (.imul, 1) := by decide +kernel
theorem dX9_compared_17 : decode cX9_compared 17 = .ok (.iload_n 2, 1) := by decide +kernel
theorem dX9_compared_18 : decode cX9_compared 18 = .ok (.iadd, 1) := by decide +kernel
theorem dX9_compared_19 : decode cX9_compared 19 = .ok (.iaload, 1) := by decide +kernel
theorem dX9_compared_20 : decode cX9_compared 20 = .ok (.aload_n 0, 1) := by decide +kernel
theorem dX9_compared_21 : decode cX9_compared 21 = .ok (.getfield 77, 3) := by decide +kernel
theorem dX9_compared_24 : decode cX9_compared 24 = .ok (.iload_n 2, 1) := by decide +kernel
theorem dX9_compared_25 : decode cX9_compared 25 = .ok (.iaload, 1) := by decide +kernel
theorem dX9_compared_26 : decode cX9_compared 26 = .ok (.if_icmp .eq 21, 3) := by decide +kernel
theorem dX9_compared_29 : decode cX9_compared 29 = .ok (.aload_n 0, 1) := by decide +kernel
theorem dX9_compared_30 : decode cX9_compared 30 = .ok (.getfield 71, 3) := by decide +kernel
theorem dX9_compared_33 : decode cX9_compared 33 = .ok (.iconst 5, 1) := by decide +kernel
theorem dX9_compared_34 : decode cX9_compared 34 = .ok (.iload_n 1, 1) := by decide +kernel
theorem dX9_compared_35 : decode cX9_compared 35 = .ok (.imul, 1) := by decide +kernel
theorem dX9_compared_36 : decode cX9_compared 36 = .ok (.iload_n 2, 1) := by decide +kernel
theorem dX9_compared_37 : decode cX9_compared 37 = .ok (.iadd, 1) := by decide +kernel
theorem dX9_compared_38 : decode cX9_compared 38 = .ok (.iaload, 1) := by decide +kernel
theorem dX9_compared_39 : decode cX9_compared 39 = .ok (.aload_n 0, 1) := by decide +kernel
theorem dX9_compared_40 : decode cX9_compared 40 = .ok (.getfield 77, 3) := by decide +kernel
theorem dX9_compared_43 : decode cX9_compared 43 = .ok (.iload_n 2, 1) := by decide +kernel
theorem dX9_compared_44 : decode cX9_compared 44 = .ok (.iaload, 1) := by decide +kernel
theorem dX9_compared_45 : decode cX9_compared 45 = .ok (.isub, 1) := by decide +kernel
theorem dX9_compared_46 : decode cX9_compared 46 = .ok (.ireturn, 1) := by decide +kernel
theorem dX9_compared_47 : decode cX9_compared 47 = .ok (.iinc 2 1, 3) := by decide +kernel
theorem dX9_compared_50 : decode cX9_compared 50 = .ok (.goto (-48), 3) := by decide +kernel
theorem dX9_compared_53 : decode cX9_compared 53 = .ok (.iconst 0, 1) := by decide +kernel
theorem dX9_compared_54 : decode cX9_compared 54 = .ok (.ireturn, 1) := by decide +kernel
set_option maxRecDepth 20000 in
theorem ggX9_cornerComes_X9_compared : GoodIn wsX9_cornerComes wsX9_compared := goodIn_r _ [9, 3, 2, 4, 10, 11, 12, 13, 14, 15, 16, 17, 18, 19, 20, 21, 22, 23, 24, 25, 26, 27, 28, 29, 30, 31, 32, 33, 34, 35, 36, 37, 38, 39, 40, 41, 42, 43, 44] (by decide +kernel) (by decide +kernel)
set_option maxRecDepth 20000 in
theorem gX9_cornerComes_X9_compared : GoodIn wsX9_cornerComes (wsV RX9 200 RX9 yX9_compared wsX9_compared) := goodIn_app (goodIn_of _ (by decide +kernel)) ggX9_cornerComes_X9_compared
theorem dX9_cornerComes_0 : decode cX9_cornerComes 0 = .ok (.iconst 0, 1) := by decide +kernel
theorem dX9_cornerComes_1 : decode cX9_cornerComes 1 = .ok (.istore_n 1, 1) := by decide +kernel
theorem dX9_cornerComes_2 : decode cX9_cornerComes 2 = .ok (.iload_n 1, 1) := by decide +kernel
theorem dX9_cornerComes_3 : decode cX9_cornerComes 3 = .ok (.aload_n 0, 1) := by decide +kernel
theorem dX9_cornerComes_4 : decode cX9_cornerComes 4 = .ok (.getfield 130, 3) := by decide +kernel
theorem dX9_cornerComes_7 : decode cX9_cornerComes 7 = .ok (.if_icmp .ge 17, 3) := by decide +kernel
theorem dX9_cornerComes_10 : decode cX9_cornerComes 10 = .ok (.aload_n 0, 1) := by decide +kernel
theorem dX9_cornerComes_11 : decode cX9_cornerComes 11 = .ok (.iload_n 1, 1) := by decide +kernel
theorem dX9_cornerComes_12 : decode cX9_cornerComes 12 = .ok (.invokevirtual 200, 3) := by decide +kernel
theorem dX9_cornerComes_15 : decode cX9_cornerComes 15 = .ok (.ifCond .ge 9, 3) := by decide +kernel
theorem dX9_cornerComes_18 : decode cX9_cornerComes 18 = .ok (.iinc 1 1, 3) := by decide +kernel
theorem dX9_cornerComes_21 : decode cX9_cornerComes 21 = .ok (.goto (-19), 3) := by decide +kernel
theorem dX9_cornerComes_24 : decode cX9_cornerComes 24 = .ok (.iload_n 1, 1) := by decide +kernel
theorem dX9_cornerComes_25 : decode cX9_cornerComes 25 = .ok (.aload_n 0, 1) := by decide +kernel
theorem dX9_cornerComes_26 : decode cX9_cornerComes 26 = .ok (.getfield 130, 3) := by decide +kernel
theorem dX9_cornerComes_29 : decode cX9_cornerComes 29 = .ok (.if_icmp .ge 12, 3) := by decide +kernel
theorem dX9_cornerComes_32 : decode cX9_cornerComes 32 = .ok (.aload_n 0, 1) := by decide +kernel
theorem dX9_cornerComes_33 : decode cX9_cornerComes 33 = .ok (.iload_n 1, 1) := by decide +kernel
theorem dX9_cornerComes_34 : decode cX9_cornerComes 34 = .ok (.invokevirtual 200, 3) := by decide +kernel
theorem dX9_cornerComes_37 : decode cX9_cornerComes 37 = .ok (.ifCond .ne 4, 3) := by decide +kernel
theorem dX9_cornerComes_40 : decode cX9_cornerComes 40 = .ok (.return_, 1) := by decide +kernel
theorem dX9_cornerComes_41 : decode cX9_cornerComes 41 = .ok (.iconst 5, 1) := by decide +kernel
theorem dX9_cornerComes_42 : decode cX9_cornerComes 42 = .ok (.aload_n 0, 1) := by decide +kernel
theorem dX9_cornerComes_43 : decode cX9_cornerComes 43 = .ok (.getfield 130, 3) := by decide +kernel
theorem dX9_cornerComes_46 : decode cX9_cornerComes 46 = .ok (.imul, 1) := by decide +kernel
theorem dX9_cornerComes_47 : decode cX9_cornerComes 47 = .ok (.iconst 1, 1) := by decide +kernel
theorem dX9_cornerComes_48 : decode cX9_cornerComes 48 = .ok (.isub, 1) := by decide +kernel
theorem dX9_cornerComes_49 : decode cX9_cornerComes 49 = .ok (.istore_n 2, 1) := by decide +kernel
theorem dX9_cornerComes_50 : decode cX9_cornerComes 50 = .ok (.iload_n 2, 1) := by decide +kernel
theorem dX9_cornerComes_51 : decode cX9_cornerComes 51 = .ok (.iconst 5, 1) := by decide +kernel
theorem dX9_cornerComes_52 : decode cX9_cornerComes 52 = .ok (.iload_n 1, 1) := by decide +kernel
theorem dX9_cornerComes_53 : decode cX9_cornerComes 53 = .ok (.imul, 1) := by decide +kernel
theorem dX9_cornerComes_54 : decode cX9_cornerComes 54 = .ok (.if_icmp .lt 23, 3) := by decide +kernel
theorem dX9_cornerComes_57 : decode cX9_cornerComes 57 = .ok (.aload_n 0, 1) := by decide +kernel
theorem dX9_cornerComes_58 : decode cX9_cornerComes 58 = .ok (.getfield 71, 3) := by decide +kernel
theorem dX9_cornerComes_61 : decode cX9_cornerComes 61 = .ok (.iload_n 2, 1) := by decide +kernel
theorem dX9_cornerComes_62 : decode cX9_cornerComes 62 = .ok (.iconst 5, 1) := by decide +kernel
theorem dX9_cornerComes_63 : decode cX9_cornerComes 63 = .ok (.iadd, 1) := by decide +kernel
theorem dX9_cornerComes_64 : decode cX9_cornerComes 64 = .ok (.aload_n 0, 1) := by decide +kernel
theorem dX9_cornerComes_65 : decode cX9_cornerComes 65 = .ok (.getfield 71, 3) := by decide +kernel
theorem dX9_cornerComes_68 : decode cX9_cornerComes 68 = .ok (.iload_n 2, 1) := by decide +kernel
theorem dX9_cornerComes_69 : decode cX9_cornerComes 69 = .ok (.iaload, 1) := by decide +kernel
theorem dX9_cornerComes_70 : decode cX9_cornerComes 70 = .ok (.iastore, 1) := by decide +kernel
theorem dX9_cornerComes_71 : decode cX9_cornerComes 71 = .ok (.iinc 2 (-1), 3) := by decide +kernel
theorem dX9_cornerComes_74 : decode cX9_cornerComes 74 = .ok (.goto (-24), 3) := by decide +kernel
theorem dX9_cornerComes_77 : decode cX9_cornerComes 77 = .ok (.iconst 0, 1) := by decide +kernel
theorem dX9_cornerComes_78 : decode cX9_cornerComes 78 = .ok (.istore_n 2, 1) := by decide +kernel
theorem dX9_cornerComes_79 : decode cX9_cornerComes 79 = .ok (.iload_n 2, 1) := by decide +kernel
theorem dX9_cornerComes_80 : decode cX9_cornerComes 80 = .ok (.aload_n 0, 1) := by decide +kernel
theorem dX9_cornerComes_81 : decode cX9_cornerComes 81 = .ok (.getfield 9, 3) := by decide +kernel
theorem dX9_cornerComes_84 : decode cX9_cornerComes 84 = .ok (.if_icmp .ge 25, 3) := by decide +kernel
theorem dX9_cornerComes_87 : decode cX9_cornerComes 87 = .ok (.aload_n 0, 1) := by decide +kernel
theorem dX9_cornerComes_88 : decode cX9_cornerComes 88 = .ok (.getfield 71, 3) := by decide +kernel
theorem dX9_cornerComes_91 : decode cX9_cornerComes 91 = .ok (.iconst 5, 1) := by decide +kernel
theorem dX9_cornerComes_92 : decode cX9_cornerComes 92 = .ok (.iload_n 1, 1) := by decide +kernel
theorem dX9_cornerComes_93 : decode cX9_cornerComes 93 = .ok (.imul, 1) := by decide +kernel
theorem dX9_cornerComes_94 : decode cX9_cornerComes 94 = .ok (.iload_n 2, 1) := by decide +kernel
theorem dX9_cornerComes_95 : decode cX9_cornerComes 95 = .ok (.iadd, 1) := by decide +kernel
theorem dX9_cornerComes_96 : decode cX9_cornerComes 96 = .ok (.aload_n 0, 1) := by decide +kernel
theorem dX9_cornerComes_97 : decode cX9_cornerComes 97 = .ok (.getfield 77, 3) := by decide +kernel
theorem dX9_cornerComes_100 : decode cX9_cornerComes 100 = .ok (.iload_n 2, 1) := by decide +kernel
theorem dX9_cornerComes_101 : decode cX9_cornerComes 101 = .ok (.iaload, 1) := by decide +kernel
theorem dX9_cornerComes_102 : decode cX9_cornerComes 102 = .ok (.iastore, 1) := by decide +kernel
theorem dX9_cornerComes_103 : decode cX9_cornerComes 103 = .ok (.iinc 2 1, 3) := by decide +kernel
theorem dX9_cornerComes_106 : decode cX9_cornerComes 106 = .ok (.goto (-27), 3) := by decide +kernel
theorem dX9_cornerComes_109 : decode cX9_cornerComes 109 = .ok (.aload_n 0, 1) := by decide +kernel
theorem dX9_cornerComes_110 : decode cX9_cornerComes 110 = .ok (.dup, 1) := by decide +kernel
theorem dX9_cornerComes_111 : decode cX9_cornerComes 111 = .ok (.getfield 130, 3) := by decide +kernel
theorem dX9_cornerComes_114 : decode cX9_cornerComes 114 = .ok (.iconst 1, 1) := by decide +kernel
theorem dX9_cornerComes_115 : decode cX9_cornerComes 115 = .ok (.iadd, 1) := by decide +kernel
theorem dX9_cornerComes_116 : decode cX9_cornerComes 116 = .ok (.putfield 130, 3) := by decide +kernel
theorem dX9_cornerComes_119 : decode cX9_cornerComes 119 = .ok (.return_, 1) := by decide +kernel
set_option maxRecDepth 20000 in
theorem ggX9_layCorners_X9_orders : GoodIn wsX9_layCorners wsX9_orders := goodIn_r _ [8, 2, 32, 33, 34, 35, 36, 37, 38, 39, 40, 41, 42, 43, 44, 45, 46, 47, 48, 49, 50, 51, 52, 53, 54, 55, 56, 57, 58, 59, 60, 61, 62, 63, 64, 65, 66] (by decide +kernel) (by decide +kernel)
set_option maxRecDepth 20000 in
theorem gX9_layCorners_X9_orders : GoodIn wsX9_layCorners (wsV RX9 144 RX9 yX9_orders wsX9_orders) := goodIn_app (goodIn_of _ (by decide +kernel)) ggX9_layCorners_X9_orders
set_option maxRecDepth 20000 in
theorem ggX9_layCorners_X9_tries : GoodIn wsX9_layCorners wsX9_tries := goodIn_r _ [12, 2, 13, 3, 14, 15, 16, 7, 17, 18, 19, 20, 21, 22, 32, 33, 34, 35, 36, 37, 38, 39, 40, 41, 42, 43, 44, 45, 46, 47, 48, 49, 50, 51, 52, 53, 54, 55, 56, 57, 58, 59, 60, 61, 62, 63, 64, 65, 66] (by decide +kernel) (by decide +kernel)
set_option maxRecDepth 20000 in
theorem gX9_layCorners_X9_tries : GoodIn wsX9_layCorners (wsV RX9 203 RX9 yX9_tries wsX9_tries) := goodIn_app (goodIn_of _ (by decide +kernel)) ggX9_layCorners_X9_tries
set_option maxRecDepth 20000 in
theorem ggX9_layCorners_X9_cornerComes : GoodIn wsX9_layCorners wsX9_cornerComes := goodIn_r _ [26, 1, 27, 2, 13, 28, 29, 30, 7, 31, 32, 33, 34, 35, 36, 37, 38, 39, 40, 41, 42, 43, 44, 45, 46, 47, 48, 49, 50, 51, 52, 53, 54, 55, 56, 57, 58, 59, 60, 61, 62, 63, 64, 65, 66] (by decide +kernel) (by decide +kernel)
set_option maxRecDepth 20000 in
theorem gX9_layCorners_X9_cornerComes : GoodIn wsX9_layCorners (wsV RX9 206 RX9 yX9_cornerComes wsX9_cornerComes) := goodIn_app (goodIn_of _ (by decide +kernel)) ggX9_layCorners_X9_cornerComes
theorem dX9_layCorners_0 : decode cX9_layCorners 0 = .ok (.aload_n 0, 1) := by decide +kernel
theorem dX9_layCorners_1 : decode cX9_layCorners 1 = .ok (.iconst 0, 1) := by decide +kernel
theorem dX9_layCorners_2 : decode cX9_layCorners 2 = .ok (.putfield 130, 3) := by decide +kernel
theorem dX9_layCorners_5 : decode cX9_layCorners 5 = .ok (.iconst 0, 1) := by decide +kernel
theorem dX9_layCorners_6 : decode cX9_layCorners 6 = .ok (.istore_n 1, 1) := by decide +kernel
theorem dX9_layCorners_7 : decode cX9_layCorners 7 = .ok (.iload_n 1, 1) := by decide +kernel
theorem dX9_layCorners_8 : decode cX9_layCorners 8 = .ok (.aload_n 0, 1) := by decide +kernel
theorem dX9_layCorners_9 : decode cX9_layCorners 9 = .ok (.invokevirtual 144, 3) := by decide +kernel
theorem dX9_layCorners_12 : decode cX9_layCorners 12 = .ok (.if_icmp .ge 57, 3) := by decide +kernel
theorem dX9_layCorners_15 : decode cX9_layCorners 15 = .ok (.iload_n 1, 1) := by decide +kernel
theorem dX9_layCorners_16 : decode cX9_layCorners 16 = .ok (.istore_n 2, 1) := by decide +kernel
theorem dX9_layCorners_17 : decode cX9_layCorners 17 = .ok (.iconst 0, 1) := by decide +kernel
theorem dX9_layCorners_18 : decode cX9_layCorners 18 = .ok (.istore_n 3, 1) := by decide +kernel
theorem dX9_layCorners_19 : decode cX9_layCorners 19 = .ok (.iload_n 3, 1) := by decide +kernel
theorem dX9_layCorners_20 : decode cX9_layCorners 20 = .ok (.aload_n 0, 1) := by decide +kernel
theorem dX9_layCorners_21 : decode cX9_layCorners 21 = .ok (.getfield 9, 3) := by decide +kernel
theorem dX9_layCorners_24 : decode cX9_layCorners 24 = .ok (.if_icmp .ge 28, 3) := by decide +kernel
theorem dX9_layCorners_27 : decode cX9_layCorners 27 = .ok (.aload_n 0, 1) := by decide +kernel
theorem dX9_layCorners_28 : decode cX9_layCorners 28 = .ok (.getfield 74, 3) := by decide +kernel
theorem dX9_layCorners_31 : decode cX9_layCorners 31 = .ok (.iload_n 3, 1) := by decide +kernel
theorem dX9_layCorners_32 : decode cX9_layCorners 32 = .ok (.iload_n 2, 1) := by decide +kernel
theorem dX9_layCorners_33 : decode cX9_layCorners 33 = .ok (.aload_n 0, 1) := by decide +kernel
theorem dX9_layCorners_34 : decode cX9_layCorners 34 = .ok (.getfield 9, 3) := by decide +kernel
theorem dX9_layCorners_37 : decode cX9_layCorners 37 = .ok (.irem, 1) := by decide +kernel
theorem dX9_layCorners_38 : decode cX9_layCorners 38 = .ok (.iastore, 1) := by decide +kernel
theorem dX9_layCorners_39 : decode cX9_layCorners 39 = .ok (.iload_n 2, 1) := by decide +kernel
theorem dX9_layCorners_40 : decode cX9_layCorners 40 = .ok (.aload_n 0, 1) := by decide +kernel
theorem dX9_layCorners_41 : decode cX9_layCorners 41 = .ok (.getfield 9, 3) := by decide +kernel
theorem dX9_layCorners_44 : decode cX9_layCorners 44 = .ok (.idiv, 1) := by decide +kernel
theorem dX9_layCorners_45 : decode cX9_layCorners 45 = .ok (.istore_n 2, 1) := by decide +kernel
theorem dX9_layCorners_46 : decode cX9_layCorners 46 = .ok (.iinc 3 1, 3) := by decide +kernel
theorem dX9_layCorners_49 : decode cX9_layCorners 49 = .ok (.goto (-30), 3) := by decide +kernel
theorem dX9_layCorners_52 : decode cX9_layCorners 52 = .ok (.aload_n 0, 1) := by decide +kernel
theorem dX9_layCorners_53 : decode cX9_layCorners 53 = .ok (.invokevirtual 203, 3) := by decide +kernel
theorem dX9_layCorners_56 : decode cX9_layCorners 56 = .ok (.ifCond .eq 7, 3) := by decide +kernel
theorem dX9_layCorners_59 : decode cX9_layCorners 59 = .ok (.aload_n 0, 1) := by decide +kernel
theorem dX9_layCorners_60 : decode cX9_layCorners 60 = .ok (.invokevirtual 206, 3) := by decide +kernel
theorem dX9_layCorners_63 : decode cX9_layCorners 63 = .ok (.iinc 1 1, 3) := by decide +kernel
theorem dX9_layCorners_66 : decode cX9_layCorners 66 = .ok (.goto (-59), 3) := by decide +kernel
theorem dX9_layCorners_69 : decode cX9_layCorners 69 = .ok (.return_, 1) := by decide +kernel
set_option maxRecDepth 20000 in
theorem ggX9_isTable_X9_barred : GoodIn wsX9_isTable wsX9_barred := goodIn_r _ [5, 6, 7, 8, 9, 4, 10, 11, 40, 41, 42, 43, 44, 45, 46, 47, 48, 49, 50, 51, 52, 53, 54, 55, 56, 57, 58, 59, 60, 61, 62, 63, 64, 65, 66, 67, 68, 69, 70, 71, 72, 73, 74] (by decide +kernel) (by decide +kernel)
set_option maxRecDepth 20000 in
theorem gX9_isTable_X9_barred : GoodIn wsX9_isTable (wsV RX9 124 RX9 yX9_barred wsX9_barred) := goodIn_app (goodIn_of _ (by decide +kernel)) ggX9_isTable_X9_barred
set_option maxRecDepth 20000 in
theorem ggX9_isTable_X9_layCorners : GoodIn wsX9_isTable wsX9_layCorners := goodIn_r _ [15, 16, 6, 17, 18, 19, 20, 4, 21, 22, 23, 24, 25, 26, 7, 8, 9, 10, 11, 27, 28, 29, 30, 31, 32, 33, 34, 35, 36, 37, 38, 39, 40, 41, 42, 43, 44, 45, 46, 47, 48, 49, 50, 51, 52, 53, 54, 55, 56, 57, 58, 59, 60, 61, 62, 63, 64, 65, 66, 67, 68, 69, 70, 71, 72, 73, 74] (by decide +kernel) (by decide +kernel)
set_option maxRecDepth 20000 in
theorem gX9_isTable_X9_layCorners : GoodIn wsX9_isTable (wsV RX9 127 RX9 yX9_layCorners wsX9_layCorners) := goodIn_app (goodIn_of _ (by decide +kernel)) ggX9_isTable_X9_layCorners
theorem dX9_isTable_0 : decode cX9_isTable 0 = .ok (.aload_n 0, 1) := by decide +kernel
theorem dX9_isTable_1 : decode cX9_isTable 1 = .ok (.invokevirtual 124, 3) := by decide +kernel
theorem dX9_isTable_4 : decode cX9_isTable 4 = .ok (.ifCond .ge 7, 3) := by decide +kernel
theorem dX9_isTable_7 : decode cX9_isTable 7 = .ok (.iconst 1, 1) := by decide +kernel
theorem dX9_isTable_8 : decode cX9_isTable 8 = .ok (.goto 4, 3) := by decide +kernel
theorem dX9_isTable_11 : decode cX9_isTable 11 = .ok (.iconst 0, 1) := by decide +kernel
theorem dX9_isTable_12 : decode cX9_isTable 12 = .ok (.istore_n 1, 1) := by decide +kernel
theorem dX9_isTable_13 : decode cX9_isTable 13 = .ok (.iload_n 1, 1) := by decide +kernel
theorem dX9_isTable_14 : decode cX9_isTable 14 = .ok (.ifCond .eq 7, 3) := by decide +kernel
theorem dX9_isTable_17 : decode cX9_isTable 17 = .ok (.aload_n 0, 1) := by decide +kernel
theorem dX9_isTable_18 : decode cX9_isTable 18 = .ok (.invokevirtual 127, 3) := by decide +kernel
theorem dX9_isTable_21 : decode cX9_isTable 21 = .ok (.iload_n 1, 1) := by decide +kernel
theorem dX9_isTable_22 : decode cX9_isTable 22 = .ok (.ireturn, 1) := by decide +kernel
set_option maxRecDepth 20000 in
theorem ggX9_isCorner_X9_in : GoodIn wsX9_isCorner wsX9_in := goodIn_r _ [5] (by decide +kernel) (by decide +kernel)
set_option maxRecDepth 20000 in
theorem gX9_isCorner_X9_in : GoodIn wsX9_isCorner (va_wsS RX9 95 yX9_in wsX9_in) := goodIn_app (goodIn_of _ (by decide +kernel)) ggX9_isCorner_X9_in
theorem dX9_isCorner_0 : decode cX9_isCorner 0 = .ok (.iload_n 1, 1) := by decide +kernel
theorem dX9_isCorner_1 : decode cX9_isCorner 1 = .ok (.iconst 0, 1) := by decide +kernel
theorem dX9_isCorner_2 : decode cX9_isCorner 2 = .ok (.aload_n 0, 1) := by decide +kernel
theorem dX9_isCorner_3 : decode cX9_isCorner 3 = .ok (.getfield 130, 3) := by decide +kernel
theorem dX9_isCorner_6 : decode cX9_isCorner 6 = .ok (.iconst 1, 1) := by decide +kernel
theorem dX9_isCorner_7 : decode cX9_isCorner 7 = .ok (.isub, 1) := by decide +kernel
theorem dX9_isCorner_8 : decode cX9_isCorner 8 = .ok (.invokestatic 95, 3) := by decide +kernel
theorem dX9_isCorner_11 : decode cX9_isCorner 11 = .ok (.ireturn, 1) := by decide +kernel
set_option maxRecDepth 20000 in
theorem ggX9_corners_X9_isTable : GoodIn wsX9_corners wsX9_isTable := goodIn_r _ [6, 7, 8, 9, 5, 10, 11, 12, 13, 14, 15, 16, 17, 18, 19, 20, 1, 21, 22, 23, 24, 25, 26, 27, 28, 29, 30, 31, 32, 33, 34, 35, 36, 37, 38, 39, 40, 41, 42, 43, 44, 45, 46, 47, 48, 49, 50, 51, 52, 53, 54, 55, 56, 57, 58, 59, 60, 61, 62, 63, 64, 65, 66, 67, 68, 69, 70, 71, 72, 73, 74, 75, 76, 77, 78] (by decide +kernel) (by decide +kernel)
set_option maxRecDepth 20000 in
theorem gX9_corners_X9_isTable : GoodIn wsX9_corners (wsV RX9 209 RX9 yX9_isTable wsX9_isTable) := goodIn_app (goodIn_of _ (by decide +kernel)) ggX9_corners_X9_isTable
theorem dX9_corners_0 : decode cX9_corners 0 = .ok (.aload_n 0, 1) := by decide +kernel
theorem dX9_corners_1 : decode cX9_corners 1 = .ok (.invokevirtual 209, 3) := by decide +kernel
theorem dX9_corners_4 : decode cX9_corners 4 = .ok (.ifCond .eq 10, 3) := by decide +kernel
theorem dX9_corners_7 : decode cX9_corners 7 = .ok (.aload_n 0, 1) := by decide +kernel
theorem dX9_corners_8 : decode cX9_corners 8 = .ok (.getfield 130, 3) := by decide +kernel
theorem dX9_corners_11 : decode cX9_corners 11 = .ok (.goto 5, 3) := by decide +kernel
theorem dX9_corners_14 : decode cX9_corners 14 = .ok (.bipush (-3), 2) := by decide +kernel
theorem dX9_corners_16 : decode cX9_corners 16 = .ok (.ireturn, 1) := by decide +kernel
set_option maxRecDepth 20000 in
theorem ggX9_at_X9_isTable : GoodIn wsX9_at wsX9_isTable := goodIn_r _ [6, 7, 8, 9, 5, 10, 11, 12, 13, 14, 15, 16, 17, 18, 19, 20, 21, 22, 23, 24, 25, 26, 27, 28, 29, 30, 31, 32, 33, 34, 35, 36, 37, 38, 39, 1, 40, 41, 42, 43, 55, 56, 57, 58, 59, 60, 61, 62, 63, 64, 65, 66, 67, 68, 69, 70, 71, 72, 73, 74, 75, 76, 77, 78, 79, 80, 81, 82, 83, 84, 85, 86, 87, 88, 89] (by decide +kernel) (by decide +kernel)
set_option maxRecDepth 20000 in
theorem gX9_at_X9_isTable : GoodIn wsX9_at (wsV RX9 209 RX9 yX9_isTable wsX9_isTable) := goodIn_app (goodIn_of _ (by decide +kernel)) ggX9_at_X9_isTable
set_option maxRecDepth 20000 in
theorem ggX9_at_X9_isCorner : GoodIn wsX9_at wsX9_isCorner := goodIn_r _ [47, 21, 48, 49, 5, 50, 55, 56, 57, 58, 59, 60, 61, 62, 63, 64, 65, 66, 67, 68, 69, 70, 71, 72, 73, 74, 75, 76, 77, 78, 79, 80, 81, 82, 83, 84, 85, 86, 87, 88, 89] (by decide +kernel) (by decide +kernel)
set_option maxRecDepth 20000 in
theorem gX9_at_X9_isCorner : GoodIn wsX9_at (wsV RX9 212 RX9 yX9_isCorner wsX9_isCorner) := goodIn_app (goodIn_of _ (by decide +kernel)) ggX9_at_X9_isCorner
set_option maxRecDepth 20000 in
theorem ggX9_at_X9_isPoint : GoodIn wsX9_at wsX9_isPoint := goodIn_r _ [54, 11, 48, 49, 5, 50, 55, 56, 57, 58, 59, 60, 61, 62, 63, 64, 65, 66, 67, 68, 69, 70, 71, 72, 73, 74, 75, 76, 77, 78, 79, 80, 81, 82, 83, 84, 85, 86, 87, 88, 89] (by decide +kernel) (by decide +kernel)
set_option maxRecDepth 20000 in
theorem gX9_at_X9_isPoint : GoodIn wsX9_at (wsV RX9 99 RX9 yX9_isPoint wsX9_isPoint) := goodIn_app (goodIn_of _ (by decide +kernel)) ggX9_at_X9_isPoint
theorem dX9_at_0 : decode cX9_at 0 = .ok (.aload_n 0, 1) := by decide +kernel
theorem dX9_at_1 : decode cX9_at 1 = .ok (.invokevirtual 209, 3) := by decide +kernel
theorem dX9_at_4 : decode cX9_at 4 = .ok (.ifCond .ne 6, 3) := by decide +kernel
theorem dX9_at_7 : decode cX9_at 7 = .ok (.bipush (-3), 2) := by decide +kernel
theorem dX9_at_9 : decode cX9_at 9 = .ok (.ireturn, 1) := by decide +kernel
theorem dX9_at_10 : decode cX9_at 10 = .ok (.aload_n 0, 1) := by decide +kernel
theorem dX9_at_11 : decode cX9_at 11 = .ok (.iload_n 1, 1) := by decide +kernel
theorem dX9_at_12 : decode cX9_at 12 = .ok (.invokevirtual 212, 3) := by decide +kernel
theorem dX9_at_15 : decode cX9_at 15 = .ok (.ifCond .eq 24, 3) := by decide +kernel
theorem dX9_at_18 : decode cX9_at 18 = .ok (.aload_n 0, 1) := by decide +kernel
theorem dX9_at_19 : decode cX9_at 19 = .ok (.iload_n 2, 1) := by decide +kernel
theorem dX9_at_20 : decode cX9_at 20 = .ok (.invokevirtual 99, 3) := by decide +kernel
theorem dX9_at_23 : decode cX9_at 23 = .ok (.ifCond .eq 16, 3) := by decide +kernel
theorem dX9_at_26 : decode cX9_at 26 = .ok (.aload_n 0, 1) := by decide +kernel
theorem dX9_at_27 : decode cX9_at 27 = .ok (.getfield 71, 3) := by decide +kernel
theorem dX9_at_30 : decode cX9_at 30 = .ok (.iconst 5, 1) := by decide +kernel
theorem dX9_at_31 : decode cX9_at 31 = .ok (.iload_n 1, 1) := by decide +kernel
theorem dX9_at_32 : decode cX9_at 32 = .ok (.imul, 1) := by decide +kernel
theorem dX9_at_33 : decode cX9_at 33 = .ok (.iload_n 2, 1) := by decide +kernel
theorem dX9_at_34 : decode cX9_at 34 = .ok (.iadd, 1) := by decide +kernel
theorem dX9_at_35 : decode cX9_at 35 = .ok (.iaload, 1) := by decide +kernel
theorem dX9_at_36 : decode cX9_at 36 = .ok (.goto 4, 3) := by decide +kernel
theorem dX9_at_39 : decode cX9_at 39 = .ok (.iconst (-1), 1) := by decide +kernel
theorem dX9_at_40 : decode cX9_at 40 = .ok (.ireturn, 1) := by decide +kernel
set_option maxRecDepth 20000 in
theorem ggX9_common_X9_isTight : GoodIn wsX9_common wsX9_isTight := goodIn_r _ [7, 8, 9, 10, 6, 11, 12, 13, 14, 15, 16, 17, 18, 19, 20, 21, 22, 23, 24, 25, 26, 27, 28, 29, 30, 31, 32, 33, 34, 35, 36, 37, 38, 39, 40, 41, 42, 43, 44, 45, 46, 47] (by decide +kernel) (by decide +kernel)
set_option maxRecDepth 20000 in
theorem gX9_common_X9_isTight : GoodIn wsX9_common (wsV RX9 181 RX9 yX9_isTight wsX9_isTight) := goodIn_app (goodIn_of _ (by decide +kernel)) ggX9_common_X9_isTight
theorem dX9_common_0 : decode cX9_common 0 = .ok (.iconst 0, 1) := by decide +kernel
theorem dX9_common_1 : decode cX9_common 1 = .ok (.istore_n 3, 1) := by decide +kernel
theorem dX9_common_2 : decode cX9_common 2 = .ok (.iconst 0, 1) := by decide +kernel
theorem dX9_common_3 : decode cX9_common 3 = .ok (.istore 4, 2) := by decide +kernel
theorem dX9_common_5 : decode cX9_common 5 = .ok (.iconst 0, 1) := by decide +kernel
theorem dX9_common_6 : decode cX9_common 6 = .ok (.istore 5, 2) := by decide +kernel
theorem dX9_common_8 : decode cX9_common 8 = .ok (.iload 5, 2) := by decide +kernel
theorem dX9_common_10 : decode cX9_common 10 = .ok (.aload_n 0, 1) := by decide +kernel
theorem dX9_common_11 : decode cX9_common 11 = .ok (.getfield 9, 3) := by decide +kernel
theorem dX9_common_14 : decode cX9_common 14 = .ok (.if_icmp .ge 78, 3) := by decide +kernel
theorem dX9_common_17 : decode cX9_common 17 = .ok (.iconst 0, 1) := by decide +kernel
theorem dX9_common_18 : decode cX9_common 18 = .ok (.istore 6, 2) := by decide +kernel
theorem dX9_common_20 : decode cX9_common 20 = .ok (.iload 6, 2) := by decide +kernel
theorem dX9_common_22 : decode cX9_common 22 = .ok (.iload 5, 2) := by decide +kernel
theorem dX9_common_24 : decode cX9_common 24 = .ok (.if_icmp .gt 62, 3) := by decide +kernel
theorem dX9_common_27 : decode cX9_common 27 = .ok (.aload_n 0, 1) := by decide +kernel
theorem dX9_common_28 : decode cX9_common 28 = .ok (.aload_n 0, 1) := by decide +kernel
theorem dX9_common_29 : decode cX9_common 29 = .ok (.getfield 71, 3) := by decide +kernel
theorem dX9_common_32 : decode cX9_common 32 = .ok (.iconst 5, 1) := by decide +kernel
theorem dX9_common_33 : decode cX9_common 33 = .ok (.iload_n 1, 1) := by decide +kernel
theorem dX9_common_34 : decode cX9_common 34 = .ok (.imul, 1) := by decide +kernel
theorem dX9_common_35 : decode cX9_common 35 = .ok (.iload 5, 2) := by decide +kernel
theorem dX9_common_37 : decode cX9_common 37 = .ok (.iload 6, 2) := by decide +kernel
theorem dX9_common_39 : decode cX9_common 39 = .ok (.invokevirtual 181, 3) := by decide +kernel
theorem dX9_common_42 : decode cX9_common 42 = .ok (.ifCond .eq 38, 3) := by decide +kernel
theorem dX9_common_45 : decode cX9_common 45 = .ok (.aload_n 0, 1) := by decide +kernel
theorem dX9_common_46 : decode cX9_common 46 = .ok (.aload_n 0, 1) := by decide +kernel
theorem dX9_common_47 : decode cX9_common 47 = .ok (.getfield 71, 3) := by decide +kernel
theorem dX9_common_50 : decode cX9_common 50 = .ok (.iconst 5, 1) := by decide +kernel
theorem dX9_common_51 : decode cX9_common 51 = .ok (.iload_n 2, 1) := by decide +kernel
theorem dX9_common_52 : decode cX9_common 52 = .ok (.imul, 1) := by decide +kernel
theorem dX9_common_53 : decode cX9_common 53 = .ok (.iload 5, 2) := by decide +kernel
theorem dX9_common_55 : decode cX9_common 55 = .ok (.iload 6, 2) := by decide +kernel
theorem dX9_common_57 : decode cX9_common 57 = .ok (.invokevirtual 181, 3) := by decide +kernel
theorem dX9_common_60 : decode cX9_common 60 = .ok (.ifCond .eq 20, 3) := by decide +kernel
theorem dX9_common_63 : decode cX9_common 63 = .ok (.iinc 3 1, 3) := by decide +kernel
theorem dX9_common_66 : decode cX9_common 66 = .ok (.iload 4, 2) := by decide +kernel
theorem dX9_common_68 : decode cX9_common 68 = .ok (.iconst 1, 1) := by decide +kernel
theorem dX9_common_69 : decode cX9_common 69 = .ok (.iload 5, 2) := by decide +kernel
theorem dX9_common_71 : decode cX9_common 71 = .ok (.ishl, 1) := by decide +kernel
theorem dX9_common_72 : decode cX9_common 72 = .ok (.iconst 1, 1) := by decide +kernel
theorem dX9_common_73 : decode cX9_common 73 = .ok (.iload 6, 2) := by decide +kernel
theorem dX9_common_75 : decode cX9_common 75 = .ok (.ishl, 1) := by decide +kernel
theorem dX9_common_76 : decode cX9_common 76 = .ok (.ior, 1) := by decide +kernel
theorem dX9_common_77 : decode cX9_common 77 = .ok (.ior, 1) := by decide +kernel
theorem dX9_common_78 : decode cX9_common 78 = .ok (.istore 4, 2) := by decide +kernel
theorem dX9_common_80 : decode cX9_common 80 = .ok (.iinc 6 1, 3) := by decide +kernel
theorem dX9_common_83 : decode cX9_common 83 = .ok (.goto (-63), 3) := by decide +kernel
theorem dX9_common_86 : decode cX9_common 86 = .ok (.iinc 5 1, 3) := by decide +kernel
theorem dX9_common_89 : decode cX9_common 89 = .ok (.goto (-81), 3) := by decide +kernel
theorem dX9_common_92 : decode cX9_common 92 = .ok (.iload 4, 2) := by decide +kernel
theorem dX9_common_94 : decode cX9_common 94 = .ok (.iconst 1, 1) := by decide +kernel
theorem dX9_common_95 : decode cX9_common 95 = .ok (.aload_n 0, 1) := by decide +kernel
theorem dX9_common_96 : decode cX9_common 96 = .ok (.getfield 9, 3) := by decide +kernel
theorem dX9_common_99 : decode cX9_common 99 = .ok (.ishl, 1) := by decide +kernel
theorem dX9_common_100 : decode cX9_common 100 = .ok (.iconst 1, 1) := by decide +kernel
theorem dX9_common_101 : decode cX9_common 101 = .ok (.isub, 1) := by decide +kernel
theorem dX9_common_102 : decode cX9_common 102 = .ok (.if_icmp .ne 10, 3) := by decide +kernel
theorem dX9_common_105 : decode cX9_common 105 = .ok (.bipush 100, 2) := by decide +kernel
theorem dX9_common_107 : decode cX9_common 107 = .ok (.iload_n 3, 1) := by decide +kernel
theorem dX9_common_108 : decode cX9_common 108 = .ok (.iadd, 1) := by decide +kernel
theorem dX9_common_109 : decode cX9_common 109 = .ok (.goto 4, 3) := by decide +kernel
theorem dX9_common_112 : decode cX9_common 112 = .ok (.iload_n 3, 1) := by decide +kernel
theorem dX9_common_113 : decode cX9_common 113 = .ok (.ireturn, 1) := by decide +kernel
set_option maxRecDepth 20000 in
theorem ggX9_hasAll_X9_isTight : GoodIn wsX9_hasAll wsX9_isTight := goodIn_r _ [7, 8, 9, 10, 6, 11, 12, 13, 14, 15, 16, 17, 18, 19, 20, 21, 22, 23, 24, 25, 26, 27, 28, 29, 30, 31, 32, 33, 34, 35, 36, 37, 38, 39, 40, 41, 42, 43, 44, 45, 46, 47] (by decide +kernel) (by decide +kernel)
set_option maxRecDepth 20000 in
theorem gX9_hasAll_X9_isTight : GoodIn wsX9_hasAll (wsV RX9 181 RX9 yX9_isTight wsX9_isTight) := goodIn_app (goodIn_of _ (by decide +kernel)) ggX9_hasAll_X9_isTight
theorem dX9_hasAll_0 : decode cX9_hasAll 0 = .ok (.iconst 0, 1) := by decide +kernel
theorem dX9_hasAll_1 : decode cX9_hasAll 1 = .ok (.istore 4, 2) := by decide +kernel
theorem dX9_hasAll_3 : decode cX9_hasAll 3 = .ok (.iload 4, 2) := by decide +kernel
theorem dX9_hasAll_5 : decode cX9_hasAll 5 = .ok (.aload_n 0, 1) := by decide +kernel
theorem dX9_hasAll_6 : decode cX9_hasAll 6 = .ok (.getfield 9, 3) := by decide +kernel
theorem dX9_hasAll_9 : decode cX9_hasAll 9 = .ok (.if_icmp .ge 81, 3) := by decide +kernel
theorem dX9_hasAll_12 : decode cX9_hasAll 12 = .ok (.iconst 0, 1) := by decide +kernel
theorem dX9_hasAll_13 : decode cX9_hasAll 13 = .ok (.istore 5, 2) := by decide +kernel
theorem dX9_hasAll_15 : decode cX9_hasAll 15 = .ok (.iload 5, 2) := by decide +kernel
theorem dX9_hasAll_17 : decode cX9_hasAll 17 = .ok (.iload 4, 2) := by decide +kernel
theorem dX9_hasAll_19 : decode cX9_hasAll 19 = .ok (.if_icmp .gt 65, 3) := by decide +kernel
theorem dX9_hasAll_22 : decode cX9_hasAll 22 = .ok (.aload_n 0, 1) := by decide +kernel
theorem dX9_hasAll_23 : decode cX9_hasAll 23 = .ok (.aload_n 0, 1) := by decide +kernel
theorem dX9_hasAll_24 : decode cX9_hasAll 24 = .ok (.getfield 71, 3) := by decide +kernel
theorem dX9_hasAll_27 : decode cX9_hasAll 27 = .ok (.iconst 5, 1) := by decide +kernel
theorem dX9_hasAll_28 : decode cX9_hasAll 28 = .ok (.iload_n 2, 1) := by decide +kernel
theorem dX9_hasAll_29 : decode cX9_hasAll 29 = .ok (.imul, 1) := by decide +kernel
theorem dX9_hasAll_30 : decode cX9_hasAll 30 = .ok (.iload 4, 2) := by decide +kernel
theorem dX9_hasAll_32 : decode cX9_hasAll 32 = .ok (.iload 5, 2) := by decide +kernel
theorem dX9_hasAll_34 : decode cX9_hasAll 34 = .ok (.invokevirtual 181, 3) := by decide +kernel
theorem dX9_hasAll_37 : decode cX9_hasAll 37 = .ok (.ifCond .eq 41, 3) := by decide +kernel
theorem dX9_hasAll_40 : decode cX9_hasAll 40 = .ok (.aload_n 0, 1) := by decide +kernel
theorem dX9_hasAll_41 : decode cX9_hasAll 41 = .ok (.aload_n 0, 1) := by decide +kernel
theorem dX9_hasAll_42 : decode cX9_hasAll 42 = .ok (.getfield 71, 3) := by decide +kernel
theorem dX9_hasAll_45 : decode cX9_hasAll 45 = .ok (.iconst 5, 1) := by decide +kernel
theorem dX9_hasAll_46 : decode cX9_hasAll 46 = .ok (.iload_n 3, 1) := by decide +kernel
theorem dX9_hasAll_47 : decode cX9_hasAll 47 = .ok (.imul, 1) := by decide +kernel
theorem dX9_hasAll_48 : decode cX9_hasAll 48 = .ok (.iload 4, 2) := by decide +kernel
theorem dX9_hasAll_50 : decode cX9_hasAll 50 = .ok (.iload 5, 2) := by decide +kernel
theorem dX9_hasAll_52 : decode cX9_hasAll 52 = .ok (.invokevirtual 181, 3) := by decide +kernel
theorem dX9_hasAll_55 : decode cX9_hasAll 55 = .ok (.ifCond .eq 23, 3) := by decide +kernel
theorem dX9_hasAll_58 : decode cX9_hasAll 58 = .ok (.aload_n 0, 1) := by decide +kernel
theorem dX9_hasAll_59 : decode cX9_hasAll 59 = .ok (.aload_n 0, 1) := by decide +kernel
theorem dX9_hasAll_60 : decode cX9_hasAll 60 = .ok (.getfield 71, 3) := by decide +kernel
theorem dX9_hasAll_63 : decode cX9_hasAll 63 = .ok (.iconst 5, 1) := by decide +kernel
theorem dX9_hasAll_64 : decode cX9_hasAll 64 = .ok (.iload_n 1, 1) := by decide +kernel
theorem dX9_hasAll_65 : decode cX9_hasAll 65 = .ok (.imul, 1) := by decide +kernel
theorem dX9_hasAll_66 : decode cX9_hasAll 66 = .ok (.iload 4, 2) := by decide +kernel
theorem dX9_hasAll_68 : decode cX9_hasAll 68 = .ok (.iload 5, 2) := by decide +kernel
theorem dX9_hasAll_70 : decode cX9_hasAll 70 = .ok (.invokevirtual 181, 3) := by decide +kernel
theorem dX9_hasAll_73 : decode cX9_hasAll 73 = .ok (.ifCond .ne 5, 3) := by decide +kernel
theorem dX9_hasAll_76 : decode cX9_hasAll 76 = .ok (.iconst 0, 1) := by decide +kernel
theorem dX9_hasAll_77 : decode cX9_hasAll 77 = .ok (.ireturn, 1) := by decide +kernel
theorem dX9_hasAll_78 : decode cX9_hasAll 78 = .ok (.iinc 5 1, 3) := by decide +kernel
theorem dX9_hasAll_81 : decode cX9_hasAll 81 = .ok (.goto (-66), 3) := by decide +kernel
theorem dX9_hasAll_84 : decode cX9_hasAll 84 = .ok (.iinc 4 1, 3) := by decide +kernel
theorem dX9_hasAll_87 : decode cX9_hasAll 87 = .ok (.goto (-84), 3) := by decide +kernel
theorem dX9_hasAll_90 : decode cX9_hasAll 90 = .ok (.iconst 1, 1) := by decide +kernel
theorem dX9_hasAll_91 : decode cX9_hasAll 91 = .ok (.ireturn, 1) := by decide +kernel
set_option maxRecDepth 20000 in
theorem ggX9_areBeside_X9_common : GoodIn wsX9_areBeside wsX9_common := goodIn_r _ [6, 7, 8, 9, 10, 11, 5, 12, 13, 14, 15, 16, 17, 22, 23, 24, 25, 26, 27, 28, 29, 30, 31, 32, 33, 34, 35, 36, 37, 38, 39, 40, 41, 42, 43, 44, 45, 46, 47, 48, 49, 50, 51, 52, 53, 54, 55, 56] (by decide +kernel) (by decide +kernel)
set_option maxRecDepth 20000 in
theorem gX9_areBeside_X9_common : GoodIn wsX9_areBeside (wsV RX9 215 RX9 yX9_common wsX9_common) := goodIn_app (goodIn_of _ (by decide +kernel)) ggX9_areBeside_X9_common
set_option maxRecDepth 20000 in
theorem ggX9_areBeside_X9_hasAll : GoodIn wsX9_areBeside wsX9_hasAll := goodIn_r _ [21, 7, 8, 9, 10, 11, 5, 12, 13, 14, 15, 16, 17, 22, 23, 24, 25, 26, 27, 28, 29, 30, 31, 32, 33, 34, 35, 36, 37, 38, 39, 40, 41, 42, 43, 44, 45, 46, 47, 48, 49, 50, 51, 52, 53, 54, 55, 56] (by decide +kernel) (by decide +kernel)
set_option maxRecDepth 20000 in
theorem gX9_areBeside_X9_hasAll : GoodIn wsX9_areBeside (wsV RX9 218 RX9 yX9_hasAll wsX9_hasAll) := goodIn_app (goodIn_of _ (by decide +kernel)) ggX9_areBeside_X9_hasAll
theorem dX9_areBeside_0 : decode cX9_areBeside 0 = .ok (.iload_n 1, 1) := by decide +kernel
theorem dX9_areBeside_1 : decode cX9_areBeside 1 = .ok (.iload_n 2, 1) := by decide +kernel
theorem dX9_areBeside_2 : decode cX9_areBeside 2 = .ok (.if_icmp .eq 14, 3) := by decide +kernel
theorem dX9_areBeside_5 : decode cX9_areBeside 5 = .ok (.aload_n 0, 1) := by decide +kernel
theorem dX9_areBeside_6 : decode cX9_areBeside 6 = .ok (.iload_n 1, 1) := by decide +kernel
theorem dX9_areBeside_7 : decode cX9_areBeside 7 = .ok (.iload_n 2, 1) := by decide +kernel
theorem dX9_areBeside_8 : decode cX9_areBeside 8 = .ok (.invokevirtual 215, 3) := by decide +kernel
theorem dX9_areBeside_11 : decode cX9_areBeside 11 = .ok (.bipush 100, 2) := by decide +kernel
theorem dX9_areBeside_13 : decode cX9_areBeside 13 = .ok (.if_icmp .ge 5, 3) := by decide +kernel
theorem dX9_areBeside_16 : decode cX9_areBeside 16 = .ok (.iconst 0, 1) := by decide +kernel
theorem dX9_areBeside_17 : decode cX9_areBeside 17 = .ok (.ireturn, 1) := by decide +kernel
theorem dX9_areBeside_18 : decode cX9_areBeside 18 = .ok (.iconst 0, 1) := by decide +kernel
theorem dX9_areBeside_19 : decode cX9_areBeside 19 = .ok (.istore_n 3, 1) := by decide +kernel
theorem dX9_areBeside_20 : decode cX9_areBeside 20 = .ok (.iload_n 3, 1) := by decide +kernel
theorem dX9_areBeside_21 : decode cX9_areBeside 21 = .ok (.aload_n 0, 1) := by decide +kernel
theorem dX9_areBeside_22 : decode cX9_areBeside 22 = .ok (.getfield 130, 3) := by decide +kernel
theorem dX9_areBeside_25 : decode cX9_areBeside 25 = .ok (.if_icmp .ge 31, 3) := by decide +kernel
theorem dX9_areBeside_28 : decode cX9_areBeside 28 = .ok (.iload_n 3, 1) := by decide +kernel
theorem dX9_areBeside_29 : decode cX9_areBeside 29 = .ok (.iload_n 1, 1) := by decide +kernel
theorem dX9_areBeside_30 : decode cX9_areBeside 30 = .ok (.if_icmp .eq 20, 3) := by decide +kernel
theorem dX9_areBeside_33 : decode cX9_areBeside 33 = .ok (.iload_n 3, 1) := by decide +kernel
theorem dX9_areBeside_34 : decode cX9_areBeside 34 = .ok (.iload_n 2, 1) := by decide +kernel
theorem dX9_areBeside_35 : decode cX9_areBeside 35 = .ok (.if_icmp .eq 15, 3) := by decide +kernel
theorem dX9_areBeside_38 : decode cX9_areBeside 38 = .ok (.aload_n 0, 1) := by decide +kernel
theorem dX9_areBeside_39 : decode cX9_areBeside 39 = .ok (.iload_n 3, 1) := by decide +kernel
theorem dX9_areBeside_40 : decode cX9_areBeside 40 = .ok (.iload_n 1, 1) := by decide +kernel
theorem dX9_areBeside_41 : decode cX9_areBeside 41 = .ok (.iload_n 2, 1) := by decide +kernel
theorem dX9_areBeside_42 : decode cX9_areBeside 42 = .ok (.invokevirtual 218, 3) := by decide +kernel
theorem dX9_areBeside_45 : decode cX9_areBeside 45 = .ok (.ifCond .eq 5, 3) := by decide +kernel
theorem dX9_areBeside_48 : decode cX9_areBeside 48 = .ok (.iconst 0, 1) := by decide +kernel
theorem dX9_areBeside_49 : decode cX9_areBeside 49 = .ok (.ireturn, 1) := by decide +kernel
theorem dX9_areBeside_50 : decode cX9_areBeside 50 = .ok (.iinc 3 1, 3) := by decide +kernel
theorem dX9_areBeside_53 : decode cX9_areBeside 53 = .ok (.goto (-33), 3) := by decide +kernel
theorem dX9_areBeside_56 : decode cX9_areBeside 56 = .ok (.iconst 1, 1) := by decide +kernel
theorem dX9_areBeside_57 : decode cX9_areBeside 57 = .ok (.ireturn, 1) := by decide +kernel
set_option maxRecDepth 20000 in
theorem ggX9_eyeOf_X9_d : GoodIn wsX9_eyeOf wsX9_d := goodIn_r _ [7, 8, 9, 10, 11, 12, 13, 14, 15, 16, 17, 18, 19, 20, 21, 22, 23, 24, 25, 26, 27, 28, 29, 30, 31, 32, 33, 34, 35, 36, 37, 38, 39, 40, 41, 42, 43] (by decide +kernel) (by decide +kernel)
set_option maxRecDepth 20000 in
theorem gX9_eyeOf_X9_d : GoodIn wsX9_eyeOf (wsV RX9 111 RX9 yX9_d wsX9_d) := goodIn_app (goodIn_of _ (by decide +kernel)) ggX9_eyeOf_X9_d
theorem dX9_eyeOf_0 : decode cX9_eyeOf 0 = .ok (.iconst 0, 1) := by decide +kernel
theorem dX9_eyeOf_1 : decode cX9_eyeOf 1 = .ok (.istore_n 2, 1) := by decide +kernel
theorem dX9_eyeOf_2 : decode cX9_eyeOf 2 = .ok (.iload_n 2, 1) := by decide +kernel
theorem dX9_eyeOf_3 : decode cX9_eyeOf 3 = .ok (.aload_n 0, 1) := by decide +kernel
theorem dX9_eyeOf_4 : decode cX9_eyeOf 4 = .ok (.getfield 9, 3) := by decide +kernel
theorem dX9_eyeOf_7 : decode cX9_eyeOf 7 = .ok (.if_icmp .ge 68, 3) := by decide +kernel
theorem dX9_eyeOf_10 : decode cX9_eyeOf 10 = .ok (.iconst 1, 1) := by decide +kernel
theorem dX9_eyeOf_11 : decode cX9_eyeOf 11 = .ok (.istore_n 3, 1) := by decide +kernel
theorem dX9_eyeOf_12 : decode cX9_eyeOf 12 = .ok (.iconst 0, 1) := by decide +kernel
theorem dX9_eyeOf_13 : decode cX9_eyeOf 13 = .ok (.istore 4, 2) := by decide +kernel
theorem dX9_eyeOf_15 : decode cX9_eyeOf 15 = .ok (.iload 4, 2) := by decide +kernel
theorem dX9_eyeOf_17 : decode cX9_eyeOf 17 = .ok (.aload_n 0, 1) := by decide +kernel
theorem dX9_eyeOf_18 : decode cX9_eyeOf 18 = .ok (.getfield 9, 3) := by decide +kernel
theorem dX9_eyeOf_21 : decode cX9_eyeOf 21 = .ok (.if_icmp .ge 42, 3) := by decide +kernel
theorem dX9_eyeOf_24 : decode cX9_eyeOf 24 = .ok (.iload_n 3, 1) := by decide +kernel
theorem dX9_eyeOf_25 : decode cX9_eyeOf 25 = .ok (.ifCond .eq 30, 3) := by decide +kernel
theorem dX9_eyeOf_28 : decode cX9_eyeOf 28 = .ok (.aload_n 0, 1) := by decide +kernel
theorem dX9_eyeOf_29 : decode cX9_eyeOf 29 = .ok (.getfield 71, 3) := by decide +kernel
theorem dX9_eyeOf_32 : decode cX9_eyeOf 32 = .ok (.iconst 5, 1) := by decide +kernel
theorem dX9_eyeOf_33 : decode cX9_eyeOf 33 = .ok (.iload_n 1, 1) := by decide +kernel
theorem dX9_eyeOf_34 : decode cX9_eyeOf 34 = .ok (.imul, 1) := by decide +kernel
theorem dX9_eyeOf_35 : decode cX9_eyeOf 35 = .ok (.iload 4, 2) := by decide +kernel
theorem dX9_eyeOf_37 : decode cX9_eyeOf 37 = .ok (.iadd, 1) := by decide +kernel
theorem dX9_eyeOf_38 : decode cX9_eyeOf 38 = .ok (.iaload, 1) := by decide +kernel
theorem dX9_eyeOf_39 : decode cX9_eyeOf 39 = .ok (.iconst 2, 1) := by decide +kernel
theorem dX9_eyeOf_40 : decode cX9_eyeOf 40 = .ok (.aload_n 0, 1) := by decide +kernel
theorem dX9_eyeOf_41 : decode cX9_eyeOf 41 = .ok (.iload_n 2, 1) := by decide +kernel
theorem dX9_eyeOf_42 : decode cX9_eyeOf 42 = .ok (.iload 4, 2) := by decide +kernel
theorem dX9_eyeOf_44 : decode cX9_eyeOf 44 = .ok (.invokevirtual 111, 3) := by decide +kernel
theorem dX9_eyeOf_47 : decode cX9_eyeOf 47 = .ok (.imul, 1) := by decide +kernel
theorem dX9_eyeOf_48 : decode cX9_eyeOf 48 = .ok (.if_icmp .ne 7, 3) := by decide +kernel
theorem dX9_eyeOf_51 : decode cX9_eyeOf 51 = .ok (.iconst 1, 1) := by decide +kernel
theorem dX9_eyeOf_52 : decode cX9_eyeOf 52 = .ok (.goto 4, 3) := by decide +kernel
theorem dX9_eyeOf_55 : decode cX9_eyeOf 55 = .ok (.iconst 0, 1) := by decide +kernel
theorem dX9_eyeOf_56 : decode cX9_eyeOf 56 = .ok (.istore_n 3, 1) := by decide +kernel
theorem dX9_eyeOf_57 : decode cX9_eyeOf 57 = .ok (.iinc 4 1, 3) := by decide +kernel
theorem dX9_eyeOf_60 : decode cX9_eyeOf 60 = .ok (.goto (-45), 3) := by decide +kernel
theorem dX9_eyeOf_63 : decode cX9_eyeOf 63 = .ok (.iload_n 3, 1) := by decide +kernel
theorem dX9_eyeOf_64 : decode cX9_eyeOf 64 = .ok (.ifCond .eq 5, 3) := by decide +kernel
theorem dX9_eyeOf_67 : decode cX9_eyeOf 67 = .ok (.iload_n 2, 1) := by decide +kernel
theorem dX9_eyeOf_68 : decode cX9_eyeOf 68 = .ok (.ireturn, 1) := by decide +kernel
theorem dX9_eyeOf_69 : decode cX9_eyeOf 69 = .ok (.iinc 2 1, 3) := by decide +kernel
theorem dX9_eyeOf_72 : decode cX9_eyeOf 72 = .ok (.goto (-70), 3) := by decide +kernel
theorem dX9_eyeOf_75 : decode cX9_eyeOf 75 = .ok (.bipush (-5), 2) := by decide +kernel
theorem dX9_eyeOf_77 : decode cX9_eyeOf 77 = .ok (.ireturn, 1) := by decide +kernel
set_option maxRecDepth 20000 in
theorem ggX9_corner_X9_isTable : GoodIn wsX9_corner wsX9_isTable := goodIn_r _ [6, 7, 8, 9, 5, 10, 11, 12, 13, 14, 15, 16, 17, 18, 19, 20, 1, 21, 22, 23, 24, 25, 26, 27, 28, 29, 30, 31, 32, 33, 34, 35, 36, 37, 38, 39, 40, 41, 42, 43, 71, 72, 73, 74, 75, 76, 77, 78, 79, 80, 81, 82, 83, 84, 85, 86, 87, 88, 89, 90, 91, 92, 93, 94, 95, 96, 97, 98, 99, 100, 101, 102, 103, 104, 105] (by decide +kernel) (by decide +kernel)
set_option maxRecDepth 20000 in
theorem gX9_corner_X9_isTable : GoodIn wsX9_corner (wsV RX9 209 RX9 yX9_isTable wsX9_isTable) := goodIn_app (goodIn_of _ (by decide +kernel)) ggX9_corner_X9_isTable
set_option maxRecDepth 20000 in
theorem ggX9_corner_X9_isCorner : GoodIn wsX9_corner wsX9_isCorner := goodIn_r _ [47, 1, 48, 49, 5, 50, 71, 72, 73, 74, 75, 76, 77, 78, 79, 80, 81, 82, 83, 84, 85, 86, 87, 88, 89, 90, 91, 92, 93, 94, 95, 96, 97, 98, 99, 100, 101, 102, 103, 104, 105] (by decide +kernel) (by decide +kernel)
set_option maxRecDepth 20000 in
theorem gX9_corner_X9_isCorner : GoodIn wsX9_corner (wsV RX9 212 RX9 yX9_isCorner wsX9_isCorner) := goodIn_app (goodIn_of _ (by decide +kernel)) ggX9_corner_X9_isCorner
set_option maxRecDepth 20000 in
theorem ggX9_corner_X9_in : GoodIn wsX9_corner wsX9_in := goodIn_r _ [50] (by decide +kernel) (by decide +kernel)
set_option maxRecDepth 20000 in
theorem gX9_corner_X9_in : GoodIn wsX9_corner (va_wsS RX9 95 yX9_in wsX9_in) := goodIn_app (goodIn_of _ (by decide +kernel)) ggX9_corner_X9_in
set_option maxRecDepth 20000 in
theorem ggX9_corner_X9_common : GoodIn wsX9_corner wsX9_common := goodIn_r _ [54, 11, 39, 55, 56, 57, 5, 58, 12, 13, 14, 15, 16, 71, 72, 73, 74, 75, 76, 77, 78, 79, 80, 81, 82, 83, 84, 85, 86, 87, 88, 89, 90, 91, 92, 93, 94, 95, 96, 97, 98, 99, 100, 101, 102, 103, 104, 105] (by decide +kernel) (by decide +kernel)
set_option maxRecDepth 20000 in
theorem gX9_corner_X9_common : GoodIn wsX9_corner (wsV RX9 215 RX9 yX9_common wsX9_common) := goodIn_app (goodIn_of _ (by decide +kernel)) ggX9_corner_X9_common
set_option maxRecDepth 20000 in
theorem ggX9_corner_X9_eyeOf : GoodIn wsX9_corner wsX9_eyeOf := goodIn_r _ [62, 11, 39, 12, 13, 14, 5, 15, 16, 71, 72, 73, 74, 75, 76, 77, 78, 79, 80, 81, 82, 83, 84, 85, 86, 87, 88, 89, 90, 91, 92, 93, 94, 95, 96, 97, 98, 99, 100, 101, 102, 103, 104, 105] (by decide +kernel) (by decide +kernel)
set_option maxRecDepth 20000 in
theorem gX9_corner_X9_eyeOf : GoodIn wsX9_corner (wsV RX9 221 RX9 yX9_eyeOf wsX9_eyeOf) := goodIn_app (goodIn_of _ (by decide +kernel)) ggX9_corner_X9_eyeOf
set_option maxRecDepth 20000 in
theorem ggX9_corner_X9_areBeside : GoodIn wsX9_corner wsX9_areBeside := goodIn_r _ [66, 1, 51, 52, 53, 5, 54, 11, 39, 55, 56, 57, 58, 12, 13, 14, 15, 16, 67, 68, 69, 70, 71, 72, 73, 74, 75, 76, 77, 78, 79, 80, 81, 82, 83, 84, 85, 86, 87, 88, 89, 90, 91, 92, 93, 94, 95, 96, 97, 98, 99, 100, 101, 102, 103, 104, 105] (by decide +kernel) (by decide +kernel)
set_option maxRecDepth 20000 in
theorem gX9_corner_X9_areBeside : GoodIn wsX9_corner (wsV RX9 224 RX9 yX9_areBeside wsX9_areBeside) := goodIn_app (goodIn_of _ (by decide +kernel)) ggX9_corner_X9_areBeside
theorem dX9_corner_0 : decode cX9_corner 0 = .ok (.aload_n 0, 1) := by decide +kernel
theorem dX9_corner_1 : decode cX9_corner 1 = .ok (.invokevirtual 209, 3) := by decide +kernel
theorem dX9_corner_4 : decode cX9_corner 4 = .ok (.ifCond .ne 6, 3) := by decide +kernel
theorem dX9_corner_7 : decode cX9_corner 7 = .ok (.bipush (-3), 2) := by decide +kernel
theorem dX9_corner_9 : decode cX9_corner 9 = .ok (.ireturn, 1) := by decide +kernel
theorem dX9_corner_10 : decode cX9_corner 10 = .ok (.aload_n 0, 1) := by decide +kernel
theorem dX9_corner_11 : decode cX9_corner 11 = .ok (.iload_n 1, 1) := by decide +kernel
theorem dX9_corner_12 : decode cX9_corner 12 = .ok (.invokevirtual 212, 3) := by decide +kernel
theorem dX9_corner_15 : decode cX9_corner 15 = .ok (.ifCond .eq 12, 3) := by decide +kernel
theorem dX9_corner_18 : decode cX9_corner 18 = .ok (.iload_n 2, 1) := by decide +kernel
theorem dX9_corner_19 : decode cX9_corner 19 = .ok (.iconst 0, 1) := by decide +kernel
theorem dX9_corner_20 : decode cX9_corner 20 = .ok (.iconst 2, 1) := by decide +kernel
theorem dX9_corner_21 : decode cX9_corner 21 = .ok (.invokestatic 95, 3) := by decide +kernel
theorem dX9_corner_24 : decode cX9_corner 24 = .ok (.ifCond .ne 5, 3) := by decide +kernel
theorem dX9_corner_27 : decode cX9_corner 27 = .ok (.iconst (-1), 1) := by decide +kernel
theorem dX9_corner_28 : decode cX9_corner 28 = .ok (.ireturn, 1) := by decide +kernel
theorem dX9_corner_29 : decode cX9_corner 29 = .ok (.iload_n 2, 1) := by decide +kernel
theorem dX9_corner_30 : decode cX9_corner 30 = .ok (.iconst 1, 1) := by decide +kernel
theorem dX9_corner_31 : decode cX9_corner 31 = .ok (.if_icmp .eq 25, 3) := by decide +kernel
theorem dX9_corner_34 : decode cX9_corner 34 = .ok (.iload_n 2, 1) := by decide +kernel
theorem dX9_corner_35 : decode cX9_corner 35 = .ok (.ifCond .ne 15, 3) := by decide +kernel
theorem dX9_corner_38 : decode cX9_corner 38 = .ok (.aload_n 0, 1) := by decide +kernel
theorem dX9_corner_39 : decode cX9_corner 39 = .ok (.iload_n 1, 1) := by decide +kernel
theorem dX9_corner_40 : decode cX9_corner 40 = .ok (.iload_n 1, 1) := by decide +kernel
theorem dX9_corner_41 : decode cX9_corner 41 = .ok (.invokevirtual 215, 3) := by decide +kernel
theorem dX9_corner_44 : decode cX9_corner 44 = .ok (.bipush 100, 2) := by decide +kernel
theorem dX9_corner_46 : decode cX9_corner 46 = .ok (.irem, 1) := by decide +kernel
theorem dX9_corner_47 : decode cX9_corner 47 = .ok (.goto 8, 3) := by decide +kernel
theorem dX9_corner_50 : decode cX9_corner 50 = .ok (.aload_n 0, 1) := by decide +kernel
theorem dX9_corner_51 : decode cX9_corner 51 = .ok (.iload_n 1, 1) := by decide +kernel
theorem dX9_corner_52 : decode cX9_corner 52 = .ok (.invokevirtual 221, 3) := by decide +kernel
theorem dX9_corner_55 : decode cX9_corner 55 = .ok (.ireturn, 1) := by decide +kernel
theorem dX9_corner_56 : decode cX9_corner 56 = .ok (.iconst 0, 1) := by decide +kernel
theorem dX9_corner_57 : decode cX9_corner 57 = .ok (.istore_n 3, 1) := by decide +kernel
theorem dX9_corner_58 : decode cX9_corner 58 = .ok (.iconst 0, 1) := by decide +kernel
theorem dX9_corner_59 : decode cX9_corner 59 = .ok (.istore 4, 2) := by decide +kernel
theorem dX9_corner_61 : decode cX9_corner 61 = .ok (.iload 4, 2) := by decide +kernel
theorem dX9_corner_63 : decode cX9_corner 63 = .ok (.aload_n 0, 1) := by decide +kernel
theorem dX9_corner_64 : decode cX9_corner 64 = .ok (.getfield 130, 3) := by decide +kernel
theorem dX9_corner_67 : decode cX9_corner 67 = .ok (.if_icmp .ge 27, 3) := by decide +kernel
theorem dX9_corner_70 : decode cX9_corner 70 = .ok (.iload_n 3, 1) := by decide +kernel
theorem dX9_corner_71 : decode cX9_corner 71 = .ok (.aload_n 0, 1) := by decide +kernel
theorem dX9_corner_72 : decode cX9_corner 72 = .ok (.iload_n 1, 1) := by decide +kernel
theorem dX9_corner_73 : decode cX9_corner 73 = .ok (.iload 4, 2) := by decide +kernel
theorem dX9_corner_75 : decode cX9_corner 75 = .ok (.invokevirtual 224, 3) := by decide +kernel
theorem dX9_corner_78 : decode cX9_corner 78 = .ok (.ifCond .eq 7, 3) := by decide +kernel
theorem dX9_corner_81 : decode cX9_corner 81 = .ok (.iconst 1, 1) := by decide +kernel
theorem dX9_corner_82 : decode cX9_corner 82 = .ok (.goto 4, 3) := by decide +kernel
theorem dX9_corner_85 : decode cX9_corner 85 = .ok (.iconst 0, 1) := by decide +kernel
theorem dX9_corner_86 : decode cX9_corner 86 = .ok (.iadd, 1) := by decide +kernel
theorem dX9_corner_87 : decode cX9_corner 87 = .ok (.istore_n 3, 1) := by decide +kernel
theorem dX9_corner_88 : decode cX9_corner 88 = .ok (.iinc 4 1, 3) := by decide +kernel
theorem dX9_corner_91 : decode cX9_corner 91 = .ok (.goto (-30), 3) := by decide +kernel
theorem dX9_corner_94 : decode cX9_corner 94 = .ok (.iload_n 3, 1) := by decide +kernel
theorem dX9_corner_95 : decode cX9_corner 95 = .ok (.ireturn, 1) := by decide +kernel
set_option maxRecDepth 20000 in
theorem ggX9_tight_X9_isTable : GoodIn wsX9_tight wsX9_isTable := goodIn_r _ [6, 7, 8, 9, 5, 10, 11, 12, 13, 14, 15, 16, 17, 18, 19, 20, 21, 22, 23, 24, 25, 26, 27, 28, 29, 30, 31, 32, 33, 34, 35, 36, 37, 38, 39, 1, 40, 41, 42, 43, 59, 60, 61, 62, 63, 64, 65, 66, 67, 68, 69, 70, 71, 72, 73, 74, 75, 76, 77, 78, 79, 80, 81, 82, 83, 84, 85, 86, 87, 88, 89, 90, 91, 92, 93] (by decide +kernel) (by decide +kernel)
set_option maxRecDepth 20000 in
theorem gX9_tight_X9_isTable : GoodIn wsX9_tight (wsV RX9 209 RX9 yX9_isTable wsX9_isTable) := goodIn_app (goodIn_of _ (by decide +kernel)) ggX9_tight_X9_isTable
set_option maxRecDepth 20000 in
theorem ggX9_tight_X9_isCorner : GoodIn wsX9_tight wsX9_isCorner := goodIn_r _ [47, 21, 48, 49, 5, 50, 59, 60, 61, 62, 63, 64, 65, 66, 67, 68, 69, 70, 71, 72, 73, 74, 75, 76, 77, 78, 79, 80, 81, 82, 83, 84, 85, 86, 87, 88, 89, 90, 91, 92, 93] (by decide +kernel) (by decide +kernel)
set_option maxRecDepth 20000 in
theorem gX9_tight_X9_isCorner : GoodIn wsX9_tight (wsV RX9 212 RX9 yX9_isCorner wsX9_isCorner) := goodIn_app (goodIn_of _ (by decide +kernel)) ggX9_tight_X9_isCorner
set_option maxRecDepth 20000 in
theorem ggX9_tight_X9_isPoint : GoodIn wsX9_tight wsX9_isPoint := goodIn_r _ [54, 11, 48, 49, 5, 50, 59, 60, 61, 62, 63, 64, 65, 66, 67, 68, 69, 70, 71, 72, 73, 74, 75, 76, 77, 78, 79, 80, 81, 82, 83, 84, 85, 86, 87, 88, 89, 90, 91, 92, 93] (by decide +kernel) (by decide +kernel)
set_option maxRecDepth 20000 in
theorem gX9_tight_X9_isPoint : GoodIn wsX9_tight (wsV RX9 99 RX9 yX9_isPoint wsX9_isPoint) := goodIn_app (goodIn_of _ (by decide +kernel)) ggX9_tight_X9_isPoint
set_option maxRecDepth 20000 in
theorem ggX9_tight_X9_isTight : GoodIn wsX9_tight wsX9_isTight := goodIn_r _ [58, 12, 13, 14, 5, 15, 16, 59, 60, 61, 62, 63, 64, 65, 66, 67, 68, 69, 70, 71, 72, 73, 74, 75, 76, 77, 78, 79, 80, 81, 82, 83, 84, 85, 86, 87, 88, 89, 90, 91, 92, 93] (by decide +kernel) (by decide +kernel)
set_option maxRecDepth 20000 in
theorem gX9_tight_X9_isTight : GoodIn wsX9_tight (wsV RX9 181 RX9 yX9_isTight wsX9_isTight) := goodIn_app (goodIn_of _ (by decide +kernel)) ggX9_tight_X9_isTight
theorem dX9_tight_0 : decode cX9_tight 0 = .ok (.aload_n 0, 1) := by decide +kernel
theorem dX9_tight_1 : decode cX9_tight 1 = .ok (.invokevirtual 209, 3) := by decide +kernel
theorem dX9_tight_4 : decode cX9_tight 4 = .ok (.ifCond .ne 6, 3) := by decide +kernel
theorem dX9_tight_7 : decode cX9_tight 7 = .ok (.bipush (-3), 2) := by decide +kernel
theorem dX9_tight_9 : decode cX9_tight 9 = .ok (.ireturn, 1) := by decide +kernel
theorem dX9_tight_10 : decode cX9_tight 10 = .ok (.aload_n 0, 1) := by decide +kernel
theorem dX9_tight_11 : decode cX9_tight 11 = .ok (.iload_n 1, 1) := by decide +kernel
theorem dX9_tight_12 : decode cX9_tight 12 = .ok (.invokevirtual 212, 3) := by decide +kernel
theorem dX9_tight_15 : decode cX9_tight 15 = .ok (.ifCond .eq 19, 3) := by decide +kernel
theorem dX9_tight_18 : decode cX9_tight 18 = .ok (.aload_n 0, 1) := by decide +kernel
theorem dX9_tight_19 : decode cX9_tight 19 = .ok (.iload_n 2, 1) := by decide +kernel
theorem dX9_tight_20 : decode cX9_tight 20 = .ok (.invokevirtual 99, 3) := by decide +kernel
theorem dX9_tight_23 : decode cX9_tight 23 = .ok (.ifCond .eq 11, 3) := by decide +kernel
theorem dX9_tight_26 : decode cX9_tight 26 = .ok (.aload_n 0, 1) := by decide +kernel
theorem dX9_tight_27 : decode cX9_tight 27 = .ok (.iload_n 3, 1) := by decide +kernel
theorem dX9_tight_28 : decode cX9_tight 28 = .ok (.invokevirtual 99, 3) := by decide +kernel
theorem dX9_tight_31 : decode cX9_tight 31 = .ok (.ifCond .ne 5, 3) := by decide +kernel
theorem dX9_tight_34 : decode cX9_tight 34 = .ok (.iconst (-1), 1) := by decide +kernel
theorem dX9_tight_35 : decode cX9_tight 35 = .ok (.ireturn, 1) := by decide +kernel
theorem dX9_tight_36 : decode cX9_tight 36 = .ok (.aload_n 0, 1) := by decide +kernel
theorem dX9_tight_37 : decode cX9_tight 37 = .ok (.aload_n 0, 1) := by decide +kernel
theorem dX9_tight_38 : decode cX9_tight 38 = .ok (.getfield 71, 3) := by decide +kernel
theorem dX9_tight_41 : decode cX9_tight 41 = .ok (.iconst 5, 1) := by decide +kernel
theorem dX9_tight_42 : decode cX9_tight 42 = .ok (.iload_n 1, 1) := by decide +kernel
theorem dX9_tight_43 : decode cX9_tight 43 = .ok (.imul, 1) := by decide +kernel
theorem dX9_tight_44 : decode cX9_tight 44 = .ok (.iload_n 2, 1) := by decide +kernel
theorem dX9_tight_45 : decode cX9_tight 45 = .ok (.iload_n 3, 1) := by decide +kernel
theorem dX9_tight_46 : decode cX9_tight 46 = .ok (.invokevirtual 181, 3) := by decide +kernel
theorem dX9_tight_49 : decode cX9_tight 49 = .ok (.ifCond .eq 7, 3) := by decide +kernel
theorem dX9_tight_52 : decode cX9_tight 52 = .ok (.iconst 1, 1) := by decide +kernel
theorem dX9_tight_53 : decode cX9_tight 53 = .ok (.goto 4, 3) := by decide +kernel
theorem dX9_tight_56 : decode cX9_tight 56 = .ok (.iconst 0, 1) := by decide +kernel
theorem dX9_tight_57 : decode cX9_tight 57 = .ok (.ireturn, 1) := by decide +kernel
set_option maxRecDepth 20000 in
theorem ggX9_two_X9_isTable : GoodIn wsX9_two wsX9_isTable := goodIn_r _ [11, 12, 13, 14, 10, 15, 1, 16, 17, 18, 19, 20, 21, 22, 23, 24, 25, 26, 27, 28, 29, 30, 31, 32, 33, 34, 35, 36, 37, 38, 39, 40, 41, 42, 43, 2, 44, 45, 46, 47, 71, 72, 73, 74, 75, 76, 77, 78, 79, 80, 81, 82, 83, 84, 85, 86, 87, 88, 89, 90, 91, 92, 93, 94, 95, 96, 97, 98, 99, 100, 101, 102, 103, 104, 105] (by decide +kernel) (by decide +kernel)
set_option maxRecDepth 20000 in
theorem gX9_two_X9_isTable : GoodIn wsX9_two (wsV RX9 209 RX9 yX9_isTable wsX9_isTable) := goodIn_app (goodIn_of _ (by decide +kernel)) ggX9_two_X9_isTable
set_option maxRecDepth 20000 in
theorem ggX9_two_X9_isCorner : GoodIn wsX9_two wsX9_isCorner := goodIn_r _ [51, 25, 52, 53, 10, 54, 71, 72, 73, 74, 75, 76, 77, 78, 79, 80, 81, 82, 83, 84, 85, 86, 87, 88, 89, 90, 91, 92, 93, 94, 95, 96, 97, 98, 99, 100, 101, 102, 103, 104, 105] (by decide +kernel) (by decide +kernel)
set_option maxRecDepth 20000 in
theorem gX9_two_X9_isCorner : GoodIn wsX9_two (wsV RX9 212 RX9 yX9_isCorner wsX9_isCorner) := goodIn_app (goodIn_of _ (by decide +kernel)) ggX9_two_X9_isCorner
set_option maxRecDepth 20000 in
theorem ggX9_two_X9_in : GoodIn wsX9_two wsX9_in := goodIn_r _ [54] (by decide +kernel) (by decide +kernel)
set_option maxRecDepth 20000 in
theorem gX9_two_X9_in : GoodIn wsX9_two (va_wsS RX9 95 yX9_in wsX9_in) := goodIn_app (goodIn_of _ (by decide +kernel)) ggX9_two_X9_in
set_option maxRecDepth 20000 in
theorem ggX9_two_X9_common : GoodIn wsX9_two wsX9_common := goodIn_r _ [58, 1, 2, 59, 60, 61, 10, 62, 16, 17, 18, 19, 20, 71, 72, 73, 74, 75, 76, 77, 78, 79, 80, 81, 82, 83, 84, 85, 86, 87, 88, 89, 90, 91, 92, 93, 94, 95, 96, 97, 98, 99, 100, 101, 102, 103, 104, 105] (by decide +kernel) (by decide +kernel)
set_option maxRecDepth 20000 in
theorem gX9_two_X9_common : GoodIn wsX9_two (wsV RX9 215 RX9 yX9_common wsX9_common) := goodIn_app (goodIn_of _ (by decide +kernel)) ggX9_two_X9_common
set_option maxRecDepth 20000 in
theorem ggX9_two_X9_areBeside : GoodIn wsX9_two wsX9_areBeside := goodIn_r _ [66, 25, 55, 56, 57, 10, 58, 1, 2, 59, 60, 61, 62, 16, 17, 18, 19, 20, 67, 68, 69, 70, 71, 72, 73, 74, 75, 76, 77, 78, 79, 80, 81, 82, 83, 84, 85, 86, 87, 88, 89, 90, 91, 92, 93, 94, 95, 96, 97, 98, 99, 100, 101, 102, 103, 104, 105] (by decide +kernel) (by decide +kernel)
set_option maxRecDepth 20000 in
theorem gX9_two_X9_areBeside : GoodIn wsX9_two (wsV RX9 224 RX9 yX9_areBeside wsX9_areBeside) := goodIn_app (goodIn_of _ (by decide +kernel)) ggX9_two_X9_areBeside
theorem dX9_two_0 : decode cX9_two 0 = .ok (.aload_n 0, 1) := by decide +kernel
theorem dX9_two_1 : decode cX9_two 1 = .ok (.invokevirtual 209, 3) := by decide +kernel
theorem dX9_two_4 : decode cX9_two 4 = .ok (.ifCond .ne 6, 3) := by decide +kernel
theorem dX9_two_7 : decode cX9_two 7 = .ok (.bipush (-3), 2) := by decide +kernel
theorem dX9_two_9 : decode cX9_two 9 = .ok (.ireturn, 1) := by decide +kernel
theorem dX9_two_10 : decode cX9_two 10 = .ok (.aload_n 0, 1) := by decide +kernel
theorem dX9_two_11 : decode cX9_two 11 = .ok (.iload_n 1, 1) := by decide +kernel
theorem dX9_two_12 : decode cX9_two 12 = .ok (.invokevirtual 212, 3) := by decide +kernel
theorem dX9_two_15 : decode cX9_two 15 = .ok (.ifCond .eq 20, 3) := by decide +kernel
theorem dX9_two_18 : decode cX9_two 18 = .ok (.aload_n 0, 1) := by decide +kernel
theorem dX9_two_19 : decode cX9_two 19 = .ok (.iload_n 2, 1) := by decide +kernel
theorem dX9_two_20 : decode cX9_two 20 = .ok (.invokevirtual 212, 3) := by decide +kernel
theorem dX9_two_23 : decode cX9_two 23 = .ok (.ifCond .eq 12, 3) := by decide +kernel
theorem dX9_two_26 : decode cX9_two 26 = .ok (.iload_n 3, 1) := by decide +kernel
theorem dX9_two_27 : decode cX9_two 27 = .ok (.iconst 0, 1) := by decide +kernel
theorem dX9_two_28 : decode cX9_two 28 = .ok (.iconst 2, 1) := by decide +kernel
theorem dX9_two_29 : decode cX9_two 29 = .ok (.invokestatic 95, 3) := by decide +kernel
theorem dX9_two_32 : decode cX9_two 32 = .ok (.ifCond .ne 5, 3) := by decide +kernel
theorem dX9_two_35 : decode cX9_two 35 = .ok (.iconst (-1), 1) := by decide +kernel
theorem dX9_two_36 : decode cX9_two 36 = .ok (.ireturn, 1) := by decide +kernel
theorem dX9_two_37 : decode cX9_two 37 = .ok (.iload_n 3, 1) := by decide +kernel
theorem dX9_two_38 : decode cX9_two 38 = .ok (.ifCond .le 35, 3) := by decide +kernel
theorem dX9_two_41 : decode cX9_two 41 = .ok (.iload_n 3, 1) := by decide +kernel
theorem dX9_two_42 : decode cX9_two 42 = .ok (.iconst 2, 1) := by decide +kernel
theorem dX9_two_43 : decode cX9_two 43 = .ok (.if_icmp .ne 15, 3) := by decide +kernel
theorem dX9_two_46 : decode cX9_two 46 = .ok (.aload_n 0, 1) := by decide +kernel
theorem dX9_two_47 : decode cX9_two 47 = .ok (.iload_n 1, 1) := by decide +kernel
theorem dX9_two_48 : decode cX9_two 48 = .ok (.iload_n 2, 1) := by decide +kernel
theorem dX9_two_49 : decode cX9_two 49 = .ok (.invokevirtual 215, 3) := by decide +kernel
theorem dX9_two_52 : decode cX9_two 52 = .ok (.bipush 100, 2) := by decide +kernel
theorem dX9_two_54 : decode cX9_two 54 = .ok (.irem, 1) := by decide +kernel
theorem dX9_two_55 : decode cX9_two 55 = .ok (.goto 17, 3) := by decide +kernel
theorem dX9_two_58 : decode cX9_two 58 = .ok (.aload_n 0, 1) := by decide +kernel
theorem dX9_two_59 : decode cX9_two 59 = .ok (.iload_n 1, 1) := by decide +kernel
theorem dX9_two_60 : decode cX9_two 60 = .ok (.iload_n 2, 1) := by decide +kernel
theorem dX9_two_61 : decode cX9_two 61 = .ok (.invokevirtual 224, 3) := by decide +kernel
theorem dX9_two_64 : decode cX9_two 64 = .ok (.ifCond .eq 7, 3) := by decide +kernel
theorem dX9_two_67 : decode cX9_two 67 = .ok (.iconst 1, 1) := by decide +kernel
theorem dX9_two_68 : decode cX9_two 68 = .ok (.goto 4, 3) := by decide +kernel
theorem dX9_two_71 : decode cX9_two 71 = .ok (.iconst 0, 1) := by decide +kernel
theorem dX9_two_72 : decode cX9_two 72 = .ok (.ireturn, 1) := by decide +kernel
theorem dX9_two_73 : decode cX9_two 73 = .ok (.iconst 0, 1) := by decide +kernel
theorem dX9_two_74 : decode cX9_two 74 = .ok (.istore 4, 2) := by decide +kernel
theorem dX9_two_76 : decode cX9_two 76 = .ok (.iconst 0, 1) := by decide +kernel
theorem dX9_two_77 : decode cX9_two 77 = .ok (.istore 5, 2) := by decide +kernel
theorem dX9_two_79 : decode cX9_two 79 = .ok (.iload 5, 2) := by decide +kernel
theorem dX9_two_81 : decode cX9_two 81 = .ok (.aload_n 0, 1) := by decide +kernel
theorem dX9_two_82 : decode cX9_two 82 = .ok (.getfield 9, 3) := by decide +kernel
theorem dX9_two_85 : decode cX9_two 85 = .ok (.if_icmp .ge 49, 3) := by decide +kernel
theorem dX9_two_88 : decode cX9_two 88 = .ok (.aload_n 0, 1) := by decide +kernel
theorem dX9_two_89 : decode cX9_two 89 = .ok (.getfield 71, 3) := by decide +kernel
theorem dX9_two_92 : decode cX9_two 92 = .ok (.iconst 5, 1) := by decide +kernel
theorem dX9_two_93 : decode cX9_two 93 = .ok (.iload_n 1, 1) := by decide +kernel
theorem dX9_two_94 : decode cX9_two 94 = .ok (.imul, 1) := by decide +kernel
theorem dX9_two_95 : decode cX9_two 95 = .ok (.iload 5, 2) := by decide +kernel
theorem dX9_two_97 : decode cX9_two 97 = .ok (.iadd, 1) := by decide +kernel
theorem dX9_two_98 : decode cX9_two 98 = .ok (.iaload, 1) := by decide +kernel
theorem dX9_two_99 : decode cX9_two 99 = .ok (.aload_n 0, 1) := by decide +kernel
theorem dX9_two_100 : decode cX9_two 100 = .ok (.getfield 71, 3) := by decide +kernel
theorem dX9_two_103 : decode cX9_two 103 = .ok (.iconst 5, 1) := by decide +kernel
theorem dX9_two_104 : decode cX9_two 104 = .ok (.iload_n 2, 1) := by decide +kernel
theorem dX9_two_105 : decode cX9_two 105 = .ok (.imul, 1) := by decide +kernel
theorem dX9_two_106 : decode cX9_two 106 = .ok (.iload 5, 2) := by decide +kernel
theorem dX9_two_108 : decode cX9_two 108 = .ok (.iadd, 1) := by decide +kernel
theorem dX9_two_109 : decode cX9_two 109 = .ok (.iaload, 1) := by decide +kernel
theorem dX9_two_110 : decode cX9_two 110 = .ok (.isub, 1) := by decide +kernel
theorem dX9_two_111 : decode cX9_two 111 = .ok (.istore 6, 2) := by decide +kernel
theorem dX9_two_113 : decode cX9_two 113 = .ok (.iload 4, 2) := by decide +kernel
theorem dX9_two_115 : decode cX9_two 115 = .ok (.iload 6, 2) := by decide +kernel
theorem dX9_two_117 : decode cX9_two 117 = .ok (.iload 6, 2) := by decide +kernel
theorem dX9_two_119 : decode cX9_two 119 = .ok (.ineg, 1) := by decide +kernel
theorem dX9_two_120 : decode cX9_two 120 = .ok (.invokestatic 133, 3) := by decide +kernel
theorem dX9_two_123 : decode cX9_two 123 = .ok (.invokestatic 133, 3) := by decide +kernel
theorem dX9_two_126 : decode cX9_two 126 = .ok (.istore 4, 2) := by decide +kernel
theorem dX9_two_128 : decode cX9_two 128 = .ok (.iinc 5 1, 3) := by decide +kernel
theorem dX9_two_131 : decode cX9_two 131 = .ok (.goto (-52), 3) := by decide +kernel
theorem dX9_two_134 : decode cX9_two 134 = .ok (.iload 4, 2) := by decide +kernel
theorem dX9_two_136 : decode cX9_two 136 = .ok (.ireturn, 1) := by decide +kernel
set_option maxRecDepth 20000 in
theorem ggX9_eye_X9_isTable : GoodIn wsX9_eye wsX9_isTable := goodIn_r _ [7, 8, 9, 10, 6, 11, 1, 12, 13, 14, 15, 16, 17, 18, 19, 20, 21, 22, 23, 24, 25, 26, 27, 28, 29, 30, 2, 31, 32, 33, 34, 35, 36, 37, 38, 39, 40, 41, 42, 43, 51, 52, 53, 54, 55, 56, 57, 58, 59, 60, 61, 62, 63, 64, 65, 66, 67, 68, 69, 70, 71, 72, 73, 74, 75, 76, 77, 78, 79, 80, 81, 82, 83, 84, 85] (by decide +kernel) (by decide +kernel)
set_option maxRecDepth 20000 in
theorem gX9_eye_X9_isTable : GoodIn wsX9_eye (wsV RX9 209 RX9 yX9_isTable wsX9_isTable) := goodIn_app (goodIn_of _ (by decide +kernel)) ggX9_eye_X9_isTable
set_option maxRecDepth 20000 in
theorem ggX9_eye_X9_isPoint : GoodIn wsX9_eye wsX9_isPoint := goodIn_r _ [47, 1, 48, 49, 6, 50, 51, 52, 53, 54, 55, 56, 57, 58, 59, 60, 61, 62, 63, 64, 65, 66, 67, 68, 69, 70, 71, 72, 73, 74, 75, 76, 77, 78, 79, 80, 81, 82, 83, 84, 85] (by decide +kernel) (by decide +kernel)
set_option maxRecDepth 20000 in
theorem gX9_eye_X9_isPoint : GoodIn wsX9_eye (wsV RX9 99 RX9 yX9_isPoint wsX9_isPoint) := goodIn_app (goodIn_of _ (by decide +kernel)) ggX9_eye_X9_isPoint
set_option maxRecDepth 20000 in
theorem ggX9_eye_X9_d : GoodIn wsX9_eye wsX9_d := goodIn_r _ [15, 16, 51, 52, 53, 54, 55, 56, 57, 58, 59, 60, 61, 62, 63, 64, 65, 66, 67, 68, 69, 70, 71, 72, 73, 74, 75, 76, 77, 78, 79, 80, 81, 82, 83, 84, 85] (by decide +kernel) (by decide +kernel)
set_option maxRecDepth 20000 in
theorem gX9_eye_X9_d : GoodIn wsX9_eye (wsV RX9 111 RX9 yX9_d wsX9_d) := goodIn_app (goodIn_of _ (by decide +kernel)) ggX9_eye_X9_d
set_option maxRecDepth 20000 in
theorem ggX9_eye_X9_compared : GoodIn wsX9_eye wsX9_compared := goodIn_r _ [43, 1, 39, 2, 51, 52, 53, 54, 55, 56, 57, 58, 59, 60, 61, 62, 63, 64, 65, 66, 67, 68, 69, 70, 71, 72, 73, 74, 75, 76, 77, 78, 79, 80, 81, 82, 83, 84, 85] (by decide +kernel) (by decide +kernel)
set_option maxRecDepth 20000 in
theorem gX9_eye_X9_compared : GoodIn wsX9_eye (wsV RX9 200 RX9 yX9_compared wsX9_compared) := goodIn_app (goodIn_of _ (by decide +kernel)) ggX9_eye_X9_compared
theorem dX9_eye_0 : decode cX9_eye 0 = .ok (.aload_n 0, 1) := by decide +kernel
theorem dX9_eye_1 : decode cX9_eye 1 = .ok (.invokevirtual 209, 3) := by decide +kernel
theorem dX9_eye_4 : decode cX9_eye 4 = .ok (.ifCond .ne 6, 3) := by decide +kernel
theorem dX9_eye_7 : decode cX9_eye 7 = .ok (.bipush (-3), 2) := by decide +kernel
theorem dX9_eye_9 : decode cX9_eye 9 = .ok (.ireturn, 1) := by decide +kernel
theorem dX9_eye_10 : decode cX9_eye 10 = .ok (.aload_n 0, 1) := by decide +kernel
theorem dX9_eye_11 : decode cX9_eye 11 = .ok (.iload_n 1, 1) := by decide +kernel
theorem dX9_eye_12 : decode cX9_eye 12 = .ok (.invokevirtual 99, 3) := by decide +kernel
theorem dX9_eye_15 : decode cX9_eye 15 = .ok (.ifCond .ne 5, 3) := by decide +kernel
theorem dX9_eye_18 : decode cX9_eye 18 = .ok (.iconst (-1), 1) := by decide +kernel
theorem dX9_eye_19 : decode cX9_eye 19 = .ok (.ireturn, 1) := by decide +kernel
theorem dX9_eye_20 : decode cX9_eye 20 = .ok (.iconst 0, 1) := by decide +kernel
theorem dX9_eye_21 : decode cX9_eye 21 = .ok (.istore_n 2, 1) := by decide +kernel
theorem dX9_eye_22 : decode cX9_eye 22 = .ok (.iload_n 2, 1) := by decide +kernel
theorem dX9_eye_23 : decode cX9_eye 23 = .ok (.aload_n 0, 1) := by decide +kernel
theorem dX9_eye_24 : decode cX9_eye 24 = .ok (.getfield 9, 3) := by decide +kernel
theorem dX9_eye_27 : decode cX9_eye 27 = .ok (.if_icmp .ge 23, 3) := by decide +kernel
theorem dX9_eye_30 : decode cX9_eye 30 = .ok (.aload_n 0, 1) := by decide +kernel
theorem dX9_eye_31 : decode cX9_eye 31 = .ok (.getfield 77, 3) := by decide +kernel
theorem dX9_eye_34 : decode cX9_eye 34 = .ok (.iload_n 2, 1) := by decide +kernel
theorem dX9_eye_35 : decode cX9_eye 35 = .ok (.iconst 2, 1) := by decide +kernel
theorem dX9_eye_36 : decode cX9_eye 36 = .ok (.aload_n 0, 1) := by decide +kernel
theorem dX9_eye_37 : decode cX9_eye 37 = .ok (.iload_n 1, 1) := by decide +kernel
theorem dX9_eye_38 : decode cX9_eye 38 = .ok (.iload_n 2, 1) := by decide +kernel
theorem dX9_eye_39 : decode cX9_eye 39 = .ok (.invokevirtual 111, 3) := by decide +kernel
theorem dX9_eye_42 : decode cX9_eye 42 = .ok (.imul, 1) := by decide +kernel
theorem dX9_eye_43 : decode cX9_eye 43 = .ok (.iastore, 1) := by decide +kernel
theorem dX9_eye_44 : decode cX9_eye 44 = .ok (.iinc 2 1, 3) := by decide +kernel
theorem dX9_eye_47 : decode cX9_eye 47 = .ok (.goto (-25), 3) := by decide +kernel
theorem dX9_eye_50 : decode cX9_eye 50 = .ok (.iconst 0, 1) := by decide +kernel
theorem dX9_eye_51 : decode cX9_eye 51 = .ok (.istore_n 2, 1) := by decide +kernel
theorem dX9_eye_52 : decode cX9_eye 52 = .ok (.aload_n 0, 1) := by decide +kernel
theorem dX9_eye_53 : decode cX9_eye 53 = .ok (.iload_n 2, 1) := by decide +kernel
theorem dX9_eye_54 : decode cX9_eye 54 = .ok (.invokevirtual 200, 3) := by decide +kernel
theorem dX9_eye_57 : decode cX9_eye 57 = .ok (.ifCond .eq 9, 3) := by decide +kernel
theorem dX9_eye_60 : decode cX9_eye 60 = .ok (.iinc 2 1, 3) := by decide +kernel
theorem dX9_eye_63 : decode cX9_eye 63 = .ok (.goto (-11), 3) := by decide +kernel
theorem dX9_eye_66 : decode cX9_eye 66 = .ok (.iload_n 2, 1) := by decide +kernel
theorem dX9_eye_67 : decode cX9_eye 67 = .ok (.ireturn, 1) := by decide +kernel
set_option maxRecDepth 20000 in
theorem ggX9_isSplit_X9_in : GoodIn wsX9_isSplit wsX9_in := goodIn_r _ [5] (by decide +kernel) (by decide +kernel)
set_option maxRecDepth 20000 in
theorem gX9_isSplit_X9_in : GoodIn wsX9_isSplit (va_wsS RX9 95 yX9_in wsX9_in) := goodIn_app (goodIn_of _ (by decide +kernel)) ggX9_isSplit_X9_in
theorem dX9_isSplit_0 : decode cX9_isSplit 0 = .ok (.iload_n 1, 1) := by decide +kernel
theorem dX9_isSplit_1 : decode cX9_isSplit 1 = .ok (.iconst 2, 1) := by decide +kernel
theorem dX9_isSplit_2 : decode cX9_isSplit 2 = .ok (.iconst 1, 1) := by decide +kernel
theorem dX9_isSplit_3 : decode cX9_isSplit 3 = .ok (.aload_n 0, 1) := by decide +kernel
theorem dX9_isSplit_4 : decode cX9_isSplit 4 = .ok (.getfield 9, 3) := by decide +kernel
theorem dX9_isSplit_7 : decode cX9_isSplit 7 = .ok (.ishl, 1) := by decide +kernel
theorem dX9_isSplit_8 : decode cX9_isSplit 8 = .ok (.iconst 2, 1) := by decide +kernel
theorem dX9_isSplit_9 : decode cX9_isSplit 9 = .ok (.isub, 1) := by decide +kernel
theorem dX9_isSplit_10 : decode cX9_isSplit 10 = .ok (.invokestatic 95, 3) := by decide +kernel
theorem dX9_isSplit_13 : decode cX9_isSplit 13 = .ok (.ifCond .eq 13, 3) := by decide +kernel
theorem dX9_isSplit_16 : decode cX9_isSplit 16 = .ok (.iload_n 1, 1) := by decide +kernel
theorem dX9_isSplit_17 : decode cX9_isSplit 17 = .ok (.iconst 2, 1) := by decide +kernel
theorem dX9_isSplit_18 : decode cX9_isSplit 18 = .ok (.irem, 1) := by decide +kernel
theorem dX9_isSplit_19 : decode cX9_isSplit 19 = .ok (.ifCond .ne 7, 3) := by decide +kernel
theorem dX9_isSplit_22 : decode cX9_isSplit 22 = .ok (.iconst 1, 1) := by decide +kernel
theorem dX9_isSplit_23 : decode cX9_isSplit 23 = .ok (.goto 4, 3) := by decide +kernel
theorem dX9_isSplit_26 : decode cX9_isSplit 26 = .ok (.iconst 0, 1) := by decide +kernel
theorem dX9_isSplit_27 : decode cX9_isSplit 27 = .ok (.ireturn, 1) := by decide +kernel
theorem dX9_isIn_0 : decode cX9_isIn 0 = .ok (.iload_n 1, 1) := by decide +kernel
theorem dX9_isIn_1 : decode cX9_isIn 1 = .ok (.iload_n 2, 1) := by decide +kernel
theorem dX9_isIn_2 : decode cX9_isIn 2 = .ok (.ishr, 1) := by decide +kernel
theorem dX9_isIn_3 : decode cX9_isIn 3 = .ok (.iconst 1, 1) := by decide +kernel
theorem dX9_isIn_4 : decode cX9_isIn 4 = .ok (.iand, 1) := by decide +kernel
theorem dX9_isIn_5 : decode cX9_isIn 5 = .ok (.iload_n 3, 1) := by decide +kernel
theorem dX9_isIn_6 : decode cX9_isIn 6 = .ok (.if_icmp .ne 7, 3) := by decide +kernel
theorem dX9_isIn_9 : decode cX9_isIn 9 = .ok (.iconst 1, 1) := by decide +kernel
theorem dX9_isIn_10 : decode cX9_isIn 10 = .ok (.goto 4, 3) := by decide +kernel
theorem dX9_isIn_13 : decode cX9_isIn 13 = .ok (.iconst 0, 1) := by decide +kernel
theorem dX9_isIn_14 : decode cX9_isIn 14 = .ok (.ireturn, 1) := by decide +kernel
set_option maxRecDepth 20000 in
theorem ggX9_weightOf_X9_isIn : GoodIn wsX9_weightOf wsX9_isIn := goodIn_r _ [13] (by decide +kernel) (by decide +kernel)
set_option maxRecDepth 20000 in
theorem gX9_weightOf_X9_isIn : GoodIn wsX9_weightOf (wsV RX9 227 RX9 yX9_isIn wsX9_isIn) := goodIn_app (goodIn_of _ (by decide +kernel)) ggX9_weightOf_X9_isIn
set_option maxRecDepth 20000 in
theorem ggX9_weightOf_X9_d : GoodIn wsX9_weightOf wsX9_d := goodIn_r _ [17, 18, 19, 20, 21, 22, 23, 24, 25, 26, 27, 28, 29, 30, 31, 32, 33, 34, 35, 36, 37, 38, 39, 40, 41, 42, 43, 44, 45, 46, 47, 48, 49, 50, 51, 52, 53] (by decide +kernel) (by decide +kernel)
set_option maxRecDepth 20000 in
theorem gX9_weightOf_X9_d : GoodIn wsX9_weightOf (wsV RX9 111 RX9 yX9_d wsX9_d) := goodIn_app (goodIn_of _ (by decide +kernel)) ggX9_weightOf_X9_d
theorem dX9_weightOf_0 : decode cX9_weightOf 0 = .ok (.sipush 160, 3) := by decide +kernel
theorem dX9_weightOf_3 : decode cX9_weightOf 3 = .ok (.istore_n 2, 1) := by decide +kernel
theorem dX9_weightOf_4 : decode cX9_weightOf 4 = .ok (.iconst 0, 1) := by decide +kernel
theorem dX9_weightOf_5 : decode cX9_weightOf 5 = .ok (.istore_n 3, 1) := by decide +kernel
theorem dX9_weightOf_6 : decode cX9_weightOf 6 = .ok (.iload_n 3, 1) := by decide +kernel
theorem dX9_weightOf_7 : decode cX9_weightOf 7 = .ok (.aload_n 0, 1) := by decide +kernel
theorem dX9_weightOf_8 : decode cX9_weightOf 8 = .ok (.getfield 9, 3) := by decide +kernel
theorem dX9_weightOf_11 : decode cX9_weightOf 11 = .ok (.if_icmp .ge 171, 3) := by decide +kernel
theorem dX9_weightOf_14 : decode cX9_weightOf 14 = .ok (.iconst 0, 1) := by decide +kernel
theorem dX9_weightOf_15 : decode cX9_weightOf 15 = .ok (.istore 4, 2) := by decide +kernel
theorem dX9_weightOf_17 : decode cX9_weightOf 17 = .ok (.iload 4, 2) := by decide +kernel
theorem dX9_weightOf_19 : decode cX9_weightOf 19 = .ok (.iload_n 3, 1) := by decide +kernel
theorem dX9_weightOf_20 : decode cX9_weightOf 20 = .ok (.if_icmp .gt 156, 3) := by decide +kernel
theorem dX9_weightOf_23 : decode cX9_weightOf 23 = .ok (.iconst 0, 1) := by decide +kernel
theorem dX9_weightOf_24 : decode cX9_weightOf 24 = .ok (.istore 5, 2) := by decide +kernel
theorem dX9_weightOf_26 : decode cX9_weightOf 26 = .ok (.iload 5, 2) := by decide +kernel
theorem dX9_weightOf_28 : decode cX9_weightOf 28 = .ok (.aload_n 0, 1) := by decide +kernel
theorem dX9_weightOf_29 : decode cX9_weightOf 29 = .ok (.getfield 9, 3) := by decide +kernel
theorem dX9_weightOf_32 : decode cX9_weightOf 32 = .ok (.if_icmp .ge 138, 3) := by decide +kernel
theorem dX9_weightOf_35 : decode cX9_weightOf 35 = .ok (.iconst 0, 1) := by decide +kernel
theorem dX9_weightOf_36 : decode cX9_weightOf 36 = .ok (.istore 6, 2) := by decide +kernel
theorem dX9_weightOf_38 : decode cX9_weightOf 38 = .ok (.iload 6, 2) := by decide +kernel
theorem dX9_weightOf_40 : decode cX9_weightOf 40 = .ok (.iload 5, 2) := by decide +kernel
theorem dX9_weightOf_42 : decode cX9_weightOf 42 = .ok (.if_icmp .gt 122, 3) := by decide +kernel
theorem dX9_weightOf_45 : decode cX9_weightOf 45 = .ok (.aload_n 0, 1) := by decide +kernel
theorem dX9_weightOf_46 : decode cX9_weightOf 46 = .ok (.iload_n 1, 1) := by decide +kernel
theorem dX9_weightOf_47 : decode cX9_weightOf 47 = .ok (.iload_n 3, 1) := by decide +kernel
theorem dX9_weightOf_48 : decode cX9_weightOf 48 = .ok (.iconst 0, 1) := by decide +kernel
theorem dX9_weightOf_49 : decode cX9_weightOf 49 = .ok (.invokevirtual 227, 3) := by decide +kernel
theorem dX9_weightOf_52 : decode cX9_weightOf 52 = .ok (.ifCond .eq 106, 3) := by decide +kernel
theorem dX9_weightOf_55 : decode cX9_weightOf 55 = .ok (.aload_n 0, 1) := by decide +kernel
theorem dX9_weightOf_56 : decode cX9_weightOf 56 = .ok (.iload_n 1, 1) := by decide +kernel
theorem dX9_weightOf_57 : decode cX9_weightOf 57 = .ok (.iload 4, 2) := by decide +kernel
theorem dX9_weightOf_59 : decode cX9_weightOf 59 = .ok (.iconst 0, 1) := by decide +kernel
theorem dX9_weightOf_60 : decode cX9_weightOf 60 = .ok (.invokevirtual 227, 3) := by decide +kernel
theorem dX9_weightOf_63 : decode cX9_weightOf 63 = .ok (.ifCond .eq 95, 3) := by decide +kernel
theorem dX9_weightOf_66 : decode cX9_weightOf 66 = .ok (.aload_n 0, 1) := by decide +kernel
theorem dX9_weightOf_67 : decode cX9_weightOf 67 = .ok (.iload_n 1, 1) := by decide +kernel
theorem dX9_weightOf_68 : decode cX9_weightOf 68 = .ok (.iload 5, 2) := by decide +kernel
theorem dX9_weightOf_70 : decode cX9_weightOf 70 = .ok (.iconst 1, 1) := by decide +kernel
theorem dX9_weightOf_71 : decode cX9_weightOf 71 = .ok (.invokevirtual 227, 3) := by decide +kernel
theorem dX9_weightOf_74 : decode cX9_weightOf 74 = .ok (.ifCond .eq 84, 3) := by decide +kernel
theorem dX9_weightOf_77 : decode cX9_weightOf 77 = .ok (.aload_n 0, 1) := by decide +kernel
theorem dX9_weightOf_78 : decode cX9_weightOf 78 = .ok (.iload_n 1, 1) := by decide +kernel
theorem dX9_weightOf_79 : decode cX9_weightOf 79 = .ok (.iload 6, 2) := by decide +kernel
theorem dX9_weightOf_81 : decode cX9_weightOf 81 = .ok (.iconst 1, 1) := by decide +kernel
theorem dX9_weightOf_82 : decode cX9_weightOf 82 = .ok (.invokevirtual 227, 3) := by decide +kernel
theorem dX9_weightOf_85 : decode cX9_weightOf 85 = .ok (.ifCond .eq 73, 3) := by decide +kernel
theorem dX9_weightOf_88 : decode cX9_weightOf 88 = .ok (.aload_n 0, 1) := by decide +kernel
theorem dX9_weightOf_89 : decode cX9_weightOf 89 = .ok (.iload_n 3, 1) := by decide +kernel
theorem dX9_weightOf_90 : decode cX9_weightOf 90 = .ok (.iload 4, 2) := by decide +kernel
theorem dX9_weightOf_92 : decode cX9_weightOf 92 = .ok (.invokevirtual 111, 3) := by decide +kernel
theorem dX9_weightOf_95 : decode cX9_weightOf 95 = .ok (.aload_n 0, 1) := by decide +kernel
theorem dX9_weightOf_96 : decode cX9_weightOf 96 = .ok (.iload 5, 2) := by decide +kernel
theorem dX9_weightOf_98 : decode cX9_weightOf 98 = .ok (.iload 6, 2) := by decide +kernel
theorem dX9_weightOf_100 : decode cX9_weightOf 100 = .ok (.invokevirtual 111, 3) := by decide +kernel
theorem dX9_weightOf_103 : decode cX9_weightOf 103 = .ok (.iadd, 1) := by decide +kernel
theorem dX9_weightOf_104 : decode cX9_weightOf 104 = .ok (.istore 7, 2) := by decide +kernel
theorem dX9_weightOf_106 : decode cX9_weightOf 106 = .ok (.iload 7, 2) := by decide +kernel
theorem dX9_weightOf_108 : decode cX9_weightOf 108 = .ok (.aload_n 0, 1) := by decide +kernel
theorem dX9_weightOf_109 : decode cX9_weightOf 109 = .ok (.iload_n 3, 1) := by decide +kernel
theorem dX9_weightOf_110 : decode cX9_weightOf 110 = .ok (.iload 5, 2) := by decide +kernel
theorem dX9_weightOf_112 : decode cX9_weightOf 112 = .ok (.invokevirtual 111, 3) := by decide +kernel
theorem dX9_weightOf_115 : decode cX9_weightOf 115 = .ok (.aload_n 0, 1) := by decide +kernel
theorem dX9_weightOf_116 : decode cX9_weightOf 116 = .ok (.iload 4, 2) := by decide +kernel
theorem dX9_weightOf_118 : decode cX9_weightOf 118 = .ok (.iload 6, 2) := by decide +kernel
theorem dX9_weightOf_120 : decode cX9_weightOf 120 = .ok (.invokevirtual 111, 3) := by decide +kernel
theorem dX9_weightOf_123 : decode cX9_weightOf 123 = .ok (.iadd, 1) := by decide +kernel
theorem dX9_weightOf_124 : decode cX9_weightOf 124 = .ok (.aload_n 0, 1) := by decide +kernel
theorem dX9_weightOf_125 : decode cX9_weightOf 125 = .ok (.iload_n 3, 1) := by decide +kernel
theorem dX9_weightOf_126 : decode cX9_weightOf 126 = .ok (.iload 6, 2) := by decide +kernel
theorem dX9_weightOf_128 : decode cX9_weightOf 128 = .ok (.invokevirtual 111, 3) := by decide +kernel
theorem dX9_weightOf_131 : decode cX9_weightOf 131 = .ok (.aload_n 0, 1) := by decide +kernel
theorem dX9_weightOf_132 : decode cX9_weightOf 132 = .ok (.iload 4, 2) := by decide +kernel
theorem dX9_weightOf_134 : decode cX9_weightOf 134 = .ok (.iload 5, 2) := by decide +kernel
theorem dX9_weightOf_136 : decode cX9_weightOf 136 = .ok (.invokevirtual 111, 3) := by decide +kernel
theorem dX9_weightOf_139 : decode cX9_weightOf 139 = .ok (.iadd, 1) := by decide +kernel
theorem dX9_weightOf_140 : decode cX9_weightOf 140 = .ok (.invokestatic 133, 3) := by decide +kernel
theorem dX9_weightOf_143 : decode cX9_weightOf 143 = .ok (.invokestatic 133, 3) := by decide +kernel
theorem dX9_weightOf_146 : decode cX9_weightOf 146 = .ok (.istore 8, 2) := by decide +kernel
theorem dX9_weightOf_148 : decode cX9_weightOf 148 = .ok (.iload_n 2, 1) := by decide +kernel
theorem dX9_weightOf_149 : decode cX9_weightOf 149 = .ok (.iload 8, 2) := by decide +kernel
theorem dX9_weightOf_151 : decode cX9_weightOf 151 = .ok (.iload 7, 2) := by decide +kernel
theorem dX9_weightOf_153 : decode cX9_weightOf 153 = .ok (.isub, 1) := by decide +kernel
theorem dX9_weightOf_154 : decode cX9_weightOf 154 = .ok (.invokestatic 115, 3) := by decide +kernel
theorem dX9_weightOf_157 : decode cX9_weightOf 157 = .ok (.istore_n 2, 1) := by decide +kernel
theorem dX9_weightOf_158 : decode cX9_weightOf 158 = .ok (.iinc 6 1, 3) := by decide +kernel
theorem dX9_weightOf_161 : decode cX9_weightOf 161 = .ok (.goto (-123), 3) := by decide +kernel
theorem dX9_weightOf_164 : decode cX9_weightOf 164 = .ok (.iinc 5 1, 3) := by decide +kernel
theorem dX9_weightOf_167 : decode cX9_weightOf 167 = .ok (.goto (-141), 3) := by decide +kernel
theorem dX9_weightOf_170 : decode cX9_weightOf 170 = .ok (.iinc 4 1, 3) := by decide +kernel
theorem dX9_weightOf_173 : decode cX9_weightOf 173 = .ok (.goto (-156), 3) := by decide +kernel
theorem dX9_weightOf_176 : decode cX9_weightOf 176 = .ok (.iinc 3 1, 3) := by decide +kernel
theorem dX9_weightOf_179 : decode cX9_weightOf 179 = .ok (.goto (-173), 3) := by decide +kernel
theorem dX9_weightOf_182 : decode cX9_weightOf 182 = .ok (.iload_n 2, 1) := by decide +kernel
theorem dX9_weightOf_183 : decode cX9_weightOf 183 = .ok (.ireturn, 1) := by decide +kernel
set_option maxRecDepth 20000 in
theorem ggX9_counting_X9_isSplit : GoodIn wsX9_counting wsX9_isSplit := goodIn_r _ [5, 6, 7, 8, 4, 9, 30, 31, 32, 33, 34, 35, 36, 37, 38, 39, 40, 41, 42, 43, 44, 45, 46, 47, 48, 49, 50, 51, 52, 53, 54, 55, 56, 57, 58, 59, 60, 61, 62, 63, 64] (by decide +kernel) (by decide +kernel)
set_option maxRecDepth 20000 in
theorem gX9_counting_X9_isSplit : GoodIn wsX9_counting (wsV RX9 230 RX9 yX9_isSplit wsX9_isSplit) := goodIn_app (goodIn_of _ (by decide +kernel)) ggX9_counting_X9_isSplit
set_option maxRecDepth 20000 in
theorem ggX9_counting_X9_weightOf : GoodIn wsX9_counting wsX9_weightOf := goodIn_r _ [13, 6, 14, 15, 16, 17, 18, 19, 20, 21, 22, 23, 4, 24, 25, 26, 27, 28, 29, 30, 31, 32, 33, 34, 35, 36, 37, 38, 39, 40, 41, 42, 43, 44, 45, 46, 47, 48, 49, 50, 51, 52, 53, 54, 55, 56, 57, 58, 59, 60, 61, 62, 63, 64] (by decide +kernel) (by decide +kernel)
set_option maxRecDepth 20000 in
theorem gX9_counting_X9_weightOf : GoodIn wsX9_counting (wsV RX9 233 RX9 yX9_weightOf wsX9_weightOf) := goodIn_app (goodIn_of _ (by decide +kernel)) ggX9_counting_X9_weightOf
theorem dX9_counting_0 : decode cX9_counting 0 = .ok (.iconst 0, 1) := by decide +kernel
theorem dX9_counting_1 : decode cX9_counting 1 = .ok (.istore_n 1, 1) := by decide +kernel
theorem dX9_counting_2 : decode cX9_counting 2 = .ok (.iconst 2, 1) := by decide +kernel
theorem dX9_counting_3 : decode cX9_counting 3 = .ok (.istore_n 2, 1) := by decide +kernel
theorem dX9_counting_4 : decode cX9_counting 4 = .ok (.aload_n 0, 1) := by decide +kernel
theorem dX9_counting_5 : decode cX9_counting 5 = .ok (.iload_n 2, 1) := by decide +kernel
theorem dX9_counting_6 : decode cX9_counting 6 = .ok (.invokevirtual 230, 3) := by decide +kernel
theorem dX9_counting_9 : decode cX9_counting 9 = .ok (.ifCond .eq 25, 3) := by decide +kernel
theorem dX9_counting_12 : decode cX9_counting 12 = .ok (.iload_n 1, 1) := by decide +kernel
theorem dX9_counting_13 : decode cX9_counting 13 = .ok (.aload_n 0, 1) := by decide +kernel
theorem dX9_counting_14 : decode cX9_counting 14 = .ok (.iload_n 2, 1) := by decide +kernel
theorem dX9_counting_15 : decode cX9_counting 15 = .ok (.invokevirtual 233, 3) := by decide +kernel
theorem dX9_counting_18 : decode cX9_counting 18 = .ok (.ifCond .le 7, 3) := by decide +kernel
theorem dX9_counting_21 : decode cX9_counting 21 = .ok (.iconst 1, 1) := by decide +kernel
theorem dX9_counting_22 : decode cX9_counting 22 = .ok (.goto 4, 3) := by decide +kernel
theorem dX9_counting_25 : decode cX9_counting 25 = .ok (.iconst 0, 1) := by decide +kernel
theorem dX9_counting_26 : decode cX9_counting 26 = .ok (.iadd, 1) := by decide +kernel
theorem dX9_counting_27 : decode cX9_counting 27 = .ok (.istore_n 1, 1) := by decide +kernel
theorem dX9_counting_28 : decode cX9_counting 28 = .ok (.iinc 2 2, 3) := by decide +kernel
theorem dX9_counting_31 : decode cX9_counting 31 = .ok (.goto (-27), 3) := by decide +kernel
theorem dX9_counting_34 : decode cX9_counting 34 = .ok (.iload_n 1, 1) := by decide +kernel
theorem dX9_counting_35 : decode cX9_counting 35 = .ok (.ireturn, 1) := by decide +kernel
set_option maxRecDepth 20000 in
theorem ggX9_restOf_X9_d : GoodIn wsX9_restOf wsX9_d := goodIn_r _ [5, 6, 30, 31, 32, 33, 34, 35, 36, 37, 38, 39, 40, 41, 42, 43, 44, 45, 46, 47, 48, 49, 50, 51, 52, 53, 54, 55, 56, 57, 58, 59, 60, 61, 62, 63, 64] (by decide +kernel) (by decide +kernel)
set_option maxRecDepth 20000 in
theorem gX9_restOf_X9_d : GoodIn wsX9_restOf (wsV RX9 111 RX9 yX9_d wsX9_d) := goodIn_app (goodIn_of _ (by decide +kernel)) ggX9_restOf_X9_d
set_option maxRecDepth 20000 in
theorem ggX9_restOf_X9_isSplit : GoodIn wsX9_restOf wsX9_isSplit := goodIn_r _ [10, 11, 12, 13, 4, 14, 30, 31, 32, 33, 34, 35, 36, 37, 38, 39, 40, 41, 42, 43, 44, 45, 46, 47, 48, 49, 50, 51, 52, 53, 54, 55, 56, 57, 58, 59, 60, 61, 62, 63, 64] (by decide +kernel) (by decide +kernel)
set_option maxRecDepth 20000 in
theorem gX9_restOf_X9_isSplit : GoodIn wsX9_restOf (wsV RX9 230 RX9 yX9_isSplit wsX9_isSplit) := goodIn_app (goodIn_of _ (by decide +kernel)) ggX9_restOf_X9_isSplit
set_option maxRecDepth 20000 in
theorem ggX9_restOf_X9_weightOf : GoodIn wsX9_restOf wsX9_weightOf := goodIn_r _ [18, 11, 19, 20, 21, 22, 23, 24, 25, 26, 27, 28, 4, 29, 1, 2, 3, 5, 6, 30, 31, 32, 33, 34, 35, 36, 37, 38, 39, 40, 41, 42, 43, 44, 45, 46, 47, 48, 49, 50, 51, 52, 53, 54, 55, 56, 57, 58, 59, 60, 61, 62, 63, 64] (by decide +kernel) (by decide +kernel)
set_option maxRecDepth 20000 in
theorem gX9_restOf_X9_weightOf : GoodIn wsX9_restOf (wsV RX9 233 RX9 yX9_weightOf wsX9_weightOf) := goodIn_app (goodIn_of _ (by decide +kernel)) ggX9_restOf_X9_weightOf
theorem dX9_restOf_0 : decode cX9_restOf 0 = .ok (.iconst 2, 1) := by decide +kernel
theorem dX9_restOf_1 : decode cX9_restOf 1 = .ok (.aload_n 0, 1) := by decide +kernel
theorem dX9_restOf_2 : decode cX9_restOf 2 = .ok (.iload_n 1, 1) := by decide +kernel
theorem dX9_restOf_3 : decode cX9_restOf 3 = .ok (.iload_n 2, 1) := by decide +kernel
theorem dX9_restOf_4 : decode cX9_restOf 4 = .ok (.invokevirtual 111, 3) := by decide +kernel
theorem dX9_restOf_7 : decode cX9_restOf 7 = .ok (.imul, 1) := by decide +kernel
theorem dX9_restOf_8 : decode cX9_restOf 8 = .ok (.istore_n 3, 1) := by decide +kernel
theorem dX9_restOf_9 : decode cX9_restOf 9 = .ok (.iconst 2, 1) := by decide +kernel
theorem dX9_restOf_10 : decode cX9_restOf 10 = .ok (.istore 4, 2) := by decide +kernel
theorem dX9_restOf_12 : decode cX9_restOf 12 = .ok (.aload_n 0, 1) := by decide +kernel
theorem dX9_restOf_13 : decode cX9_restOf 13 = .ok (.iload 4, 2) := by decide +kernel
theorem dX9_restOf_15 : decode cX9_restOf 15 = .ok (.invokevirtual 230, 3) := by decide +kernel
theorem dX9_restOf_18 : decode cX9_restOf 18 = .ok (.ifCond .eq 37, 3) := by decide +kernel
theorem dX9_restOf_21 : decode cX9_restOf 21 = .ok (.iload_n 3, 1) := by decide +kernel
theorem dX9_restOf_22 : decode cX9_restOf 22 = .ok (.iload 4, 2) := by decide +kernel
theorem dX9_restOf_24 : decode cX9_restOf 24 = .ok (.iload_n 1, 1) := by decide +kernel
theorem dX9_restOf_25 : decode cX9_restOf 25 = .ok (.ishr, 1) := by decide +kernel
theorem dX9_restOf_26 : decode cX9_restOf 26 = .ok (.iconst 1, 1) := by decide +kernel
theorem dX9_restOf_27 : decode cX9_restOf 27 = .ok (.iand, 1) := by decide +kernel
theorem dX9_restOf_28 : decode cX9_restOf 28 = .ok (.iload 4, 2) := by decide +kernel
theorem dX9_restOf_30 : decode cX9_restOf 30 = .ok (.iload_n 2, 1) := by decide +kernel
theorem dX9_restOf_31 : decode cX9_restOf 31 = .ok (.ishr, 1) := by decide +kernel
theorem dX9_restOf_32 : decode cX9_restOf 32 = .ok (.iconst 1, 1) := by decide +kernel
theorem dX9_restOf_33 : decode cX9_restOf 33 = .ok (.iand, 1) := by decide +kernel
theorem dX9_restOf_34 : decode cX9_restOf 34 = .ok (.if_icmp .eq 12, 3) := by decide +kernel
theorem dX9_restOf_37 : decode cX9_restOf 37 = .ok (.aload_n 0, 1) := by decide +kernel
theorem dX9_restOf_38 : decode cX9_restOf 38 = .ok (.iload 4, 2) := by decide +kernel
theorem dX9_restOf_40 : decode cX9_restOf 40 = .ok (.invokevirtual 233, 3) := by decide +kernel
theorem dX9_restOf_43 : decode cX9_restOf 43 = .ok (.goto 4, 3) := by decide +kernel
theorem dX9_restOf_46 : decode cX9_restOf 46 = .ok (.iconst 0, 1) := by decide +kernel
theorem dX9_restOf_47 : decode cX9_restOf 47 = .ok (.isub, 1) := by decide +kernel
theorem dX9_restOf_48 : decode cX9_restOf 48 = .ok (.istore_n 3, 1) := by decide +kernel
theorem dX9_restOf_49 : decode cX9_restOf 49 = .ok (.iinc 4 2, 3) := by decide +kernel
theorem dX9_restOf_52 : decode cX9_restOf 52 = .ok (.goto (-40), 3) := by decide +kernel
theorem dX9_restOf_55 : decode cX9_restOf 55 = .ok (.iload_n 3, 1) := by decide +kernel
theorem dX9_restOf_56 : decode cX9_restOf 56 = .ok (.ireturn, 1) := by decide +kernel
set_option maxRecDepth 20000 in
theorem ggX9_weight_X9_isSplit : GoodIn wsX9_weight wsX9_isSplit := goodIn_r _ [5, 6, 7, 8, 4, 9, 30, 31, 32, 33, 34, 35, 36, 37, 38, 39, 40, 41, 42, 43, 44, 45, 46, 47, 48, 49, 50, 51, 52, 53, 54, 55, 56, 57, 58, 59, 60, 61, 62, 63, 64] (by decide +kernel) (by decide +kernel)
set_option maxRecDepth 20000 in
theorem gX9_weight_X9_isSplit : GoodIn wsX9_weight (wsV RX9 230 RX9 yX9_isSplit wsX9_isSplit) := goodIn_app (goodIn_of _ (by decide +kernel)) ggX9_weight_X9_isSplit
set_option maxRecDepth 20000 in
theorem ggX9_weight_X9_weightOf : GoodIn wsX9_weight wsX9_weightOf := goodIn_r _ [13, 6, 14, 15, 16, 17, 18, 19, 20, 21, 22, 23, 4, 24, 25, 26, 27, 28, 29, 30, 31, 32, 33, 34, 35, 36, 37, 38, 39, 40, 41, 42, 43, 44, 45, 46, 47, 48, 49, 50, 51, 52, 53, 54, 55, 56, 57, 58, 59, 60, 61, 62, 63, 64] (by decide +kernel) (by decide +kernel)
set_option maxRecDepth 20000 in
theorem gX9_weight_X9_weightOf : GoodIn wsX9_weight (wsV RX9 233 RX9 yX9_weightOf wsX9_weightOf) := goodIn_app (goodIn_of _ (by decide +kernel)) ggX9_weight_X9_weightOf
theorem dX9_weight_0 : decode cX9_weight 0 = .ok (.aload_n 0, 1) := by decide +kernel
theorem dX9_weight_1 : decode cX9_weight 1 = .ok (.iload_n 1, 1) := by decide +kernel
theorem dX9_weight_2 : decode cX9_weight 2 = .ok (.invokevirtual 230, 3) := by decide +kernel
theorem dX9_weight_5 : decode cX9_weight 5 = .ok (.ifCond .eq 11, 3) := by decide +kernel
theorem dX9_weight_8 : decode cX9_weight 8 = .ok (.aload_n 0, 1) := by decide +kernel
theorem dX9_weight_9 : decode cX9_weight 9 = .ok (.iload_n 1, 1) := by decide +kernel
theorem dX9_weight_10 : decode cX9_weight 10 = .ok (.invokevirtual 233, 3) := by decide +kernel
theorem dX9_weight_13 : decode cX9_weight 13 = .ok (.goto 4, 3) := by decide +kernel
theorem dX9_weight_16 : decode cX9_weight 16 = .ok (.iconst (-1), 1) := by decide +kernel
theorem dX9_weight_17 : decode cX9_weight 17 = .ok (.ireturn, 1) := by decide +kernel
set_option maxRecDepth 20000 in
theorem ggX9_aheadOf_X9_weightOf : GoodIn wsX9_aheadOf wsX9_weightOf := goodIn_r _ [5, 6, 7, 8, 9, 10, 11, 12, 13, 14, 15, 16, 4, 17, 18, 19, 20, 21, 22, 30, 31, 32, 33, 34, 35, 36, 37, 38, 39, 40, 41, 42, 43, 44, 45, 46, 47, 48, 49, 50, 51, 52, 53, 54, 55, 56, 57, 58, 59, 60, 61, 62, 63, 64] (by decide +kernel) (by decide +kernel)
set_option maxRecDepth 20000 in
theorem gX9_aheadOf_X9_weightOf : GoodIn wsX9_aheadOf (wsV RX9 233 RX9 yX9_weightOf wsX9_weightOf) := goodIn_app (goodIn_of _ (by decide +kernel)) ggX9_aheadOf_X9_weightOf
set_option maxRecDepth 20000 in
theorem ggX9_aheadOf_X9_isSplit : GoodIn wsX9_aheadOf wsX9_isSplit := goodIn_r _ [26, 6, 27, 28, 4, 29, 30, 31, 32, 33, 34, 35, 36, 37, 38, 39, 40, 41, 42, 43, 44, 45, 46, 47, 48, 49, 50, 51, 52, 53, 54, 55, 56, 57, 58, 59, 60, 61, 62, 63, 64] (by decide +kernel) (by decide +kernel)
set_option maxRecDepth 20000 in
theorem gX9_aheadOf_X9_isSplit : GoodIn wsX9_aheadOf (wsV RX9 230 RX9 yX9_isSplit wsX9_isSplit) := goodIn_app (goodIn_of _ (by decide +kernel)) ggX9_aheadOf_X9_isSplit
theorem dX9_aheadOf_0 : decode cX9_aheadOf 0 = .ok (.iconst 0, 1) := by decide +kernel
theorem dX9_aheadOf_1 : decode cX9_aheadOf 1 = .ok (.istore_n 2, 1) := by decide +kernel
theorem dX9_aheadOf_2 : decode cX9_aheadOf 2 = .ok (.aload_n 0, 1) := by decide +kernel
theorem dX9_aheadOf_3 : decode cX9_aheadOf 3 = .ok (.iload_n 1, 1) := by decide +kernel
theorem dX9_aheadOf_4 : decode cX9_aheadOf 4 = .ok (.invokevirtual 233, 3) := by decide +kernel
theorem dX9_aheadOf_7 : decode cX9_aheadOf 7 = .ok (.istore_n 3, 1) := by decide +kernel
theorem dX9_aheadOf_8 : decode cX9_aheadOf 8 = .ok (.iconst 2, 1) := by decide +kernel
theorem dX9_aheadOf_9 : decode cX9_aheadOf 9 = .ok (.istore 4, 2) := by decide +kernel
theorem dX9_aheadOf_11 : decode cX9_aheadOf 11 = .ok (.aload_n 0, 1) := by decide +kernel
theorem dX9_aheadOf_12 : decode cX9_aheadOf 12 = .ok (.iload 4, 2) := by decide +kernel
theorem dX9_aheadOf_14 : decode cX9_aheadOf 14 = .ok (.invokevirtual 230, 3) := by decide +kernel
theorem dX9_aheadOf_17 : decode cX9_aheadOf 17 = .ok (.ifCond .eq 43, 3) := by decide +kernel
theorem dX9_aheadOf_20 : decode cX9_aheadOf 20 = .ok (.iload_n 2, 1) := by decide +kernel
theorem dX9_aheadOf_21 : decode cX9_aheadOf 21 = .ok (.aload_n 0, 1) := by decide +kernel
theorem dX9_aheadOf_22 : decode cX9_aheadOf 22 = .ok (.iload 4, 2) := by decide +kernel
theorem dX9_aheadOf_24 : decode cX9_aheadOf 24 = .ok (.invokevirtual 233, 3) := by decide +kernel
theorem dX9_aheadOf_27 : decode cX9_aheadOf 27 = .ok (.iload_n 3, 1) := by decide +kernel
theorem dX9_aheadOf_28 : decode cX9_aheadOf 28 = .ok (.if_icmp .gt 19, 3) := by decide +kernel
theorem dX9_aheadOf_31 : decode cX9_aheadOf 31 = .ok (.aload_n 0, 1) := by decide +kernel
theorem dX9_aheadOf_32 : decode cX9_aheadOf 32 = .ok (.iload 4, 2) := by decide +kernel
theorem dX9_aheadOf_34 : decode cX9_aheadOf 34 = .ok (.invokevirtual 233, 3) := by decide +kernel
theorem dX9_aheadOf_37 : decode cX9_aheadOf 37 = .ok (.iload_n 3, 1) := by decide +kernel
theorem dX9_aheadOf_38 : decode cX9_aheadOf 38 = .ok (.if_icmp .ne 13, 3) := by decide +kernel
theorem dX9_aheadOf_41 : decode cX9_aheadOf 41 = .ok (.iload 4, 2) := by decide +kernel
theorem dX9_aheadOf_43 : decode cX9_aheadOf 43 = .ok (.iload_n 1, 1) := by decide +kernel
theorem dX9_aheadOf_44 : decode cX9_aheadOf 44 = .ok (.if_icmp .ge 7, 3) := by decide +kernel
theorem dX9_aheadOf_47 : decode cX9_aheadOf 47 = .ok (.iconst 1, 1) := by decide +kernel
theorem dX9_aheadOf_48 : decode cX9_aheadOf 48 = .ok (.goto 4, 3) := by decide +kernel
theorem dX9_aheadOf_51 : decode cX9_aheadOf 51 = .ok (.iconst 0, 1) := by decide +kernel
theorem dX9_aheadOf_52 : decode cX9_aheadOf 52 = .ok (.iadd, 1) := by decide +kernel
theorem dX9_aheadOf_53 : decode cX9_aheadOf 53 = .ok (.istore_n 2, 1) := by decide +kernel
theorem dX9_aheadOf_54 : decode cX9_aheadOf 54 = .ok (.iinc 4 2, 3) := by decide +kernel
theorem dX9_aheadOf_57 : decode cX9_aheadOf 57 = .ok (.goto (-46), 3) := by decide +kernel
theorem dX9_aheadOf_60 : decode cX9_aheadOf 60 = .ok (.iload_n 2, 1) := by decide +kernel
theorem dX9_aheadOf_61 : decode cX9_aheadOf 61 = .ok (.ireturn, 1) := by decide +kernel
set_option maxRecDepth 20000 in
theorem ggX9_split_X9_in : GoodIn wsX9_split wsX9_in := goodIn_r _ [4] (by decide +kernel) (by decide +kernel)
set_option maxRecDepth 20000 in
theorem gX9_split_X9_in : GoodIn wsX9_split (va_wsS RX9 95 yX9_in wsX9_in) := goodIn_app (goodIn_of _ (by decide +kernel)) ggX9_split_X9_in
set_option maxRecDepth 20000 in
theorem ggX9_split_X9_isSplit : GoodIn wsX9_split wsX9_isSplit := goodIn_r _ [8, 9, 1, 2, 3, 4, 34, 35, 36, 37, 38, 39, 40, 41, 42, 43, 44, 45, 46, 47, 48, 49, 50, 51, 52, 53, 54, 55, 56, 57, 58, 59, 60, 61, 62, 63, 64, 65, 66, 67, 68] (by decide +kernel) (by decide +kernel)
set_option maxRecDepth 20000 in
theorem gX9_split_X9_isSplit : GoodIn wsX9_split (wsV RX9 230 RX9 yX9_isSplit wsX9_isSplit) := goodIn_app (goodIn_of _ (by decide +kernel)) ggX9_split_X9_isSplit
set_option maxRecDepth 20000 in
theorem ggX9_split_X9_weightOf : GoodIn wsX9_split wsX9_weightOf := goodIn_r _ [13, 9, 14, 15, 16, 17, 18, 19, 20, 21, 22, 23, 3, 24, 25, 26, 27, 28, 29, 34, 35, 36, 37, 38, 39, 40, 41, 42, 43, 44, 45, 46, 47, 48, 49, 50, 51, 52, 53, 54, 55, 56, 57, 58, 59, 60, 61, 62, 63, 64, 65, 66, 67, 68] (by decide +kernel) (by decide +kernel)
set_option maxRecDepth 20000 in
theorem gX9_split_X9_weightOf : GoodIn wsX9_split (wsV RX9 233 RX9 yX9_weightOf wsX9_weightOf) := goodIn_app (goodIn_of _ (by decide +kernel)) ggX9_split_X9_weightOf
set_option maxRecDepth 20000 in
theorem ggX9_split_X9_aheadOf : GoodIn wsX9_split wsX9_aheadOf := goodIn_r _ [33, 10, 11, 12, 3, 13, 9, 14, 15, 16, 17, 18, 19, 20, 21, 22, 23, 24, 25, 26, 27, 28, 29, 5, 6, 7, 8, 1, 2, 4, 34, 35, 36, 37, 38, 39, 40, 41, 42, 43, 44, 45, 46, 47, 48, 49, 50, 51, 52, 53, 54, 55, 56, 57, 58, 59, 60, 61, 62, 63, 64, 65, 66, 67, 68] (by decide +kernel) (by decide +kernel)
set_option maxRecDepth 20000 in
theorem gX9_split_X9_aheadOf : GoodIn wsX9_split (wsV RX9 236 RX9 yX9_aheadOf wsX9_aheadOf) := goodIn_app (goodIn_of _ (by decide +kernel)) ggX9_split_X9_aheadOf
theorem dX9_split_0 : decode cX9_split 0 = .ok (.iload_n 1, 1) := by decide +kernel
theorem dX9_split_1 : decode cX9_split 1 = .ok (.ifCond .lt 12, 3) := by decide +kernel
theorem dX9_split_4 : decode cX9_split 4 = .ok (.iload_n 2, 1) := by decide +kernel
theorem dX9_split_5 : decode cX9_split 5 = .ok (.iconst 0, 1) := by decide +kernel
theorem dX9_split_6 : decode cX9_split 6 = .ok (.iconst 1, 1) := by decide +kernel
theorem dX9_split_7 : decode cX9_split 7 = .ok (.invokestatic 95, 3) := by decide +kernel
theorem dX9_split_10 : decode cX9_split 10 = .ok (.ifCond .ne 5, 3) := by decide +kernel
theorem dX9_split_13 : decode cX9_split 13 = .ok (.iconst (-1), 1) := by decide +kernel
theorem dX9_split_14 : decode cX9_split 14 = .ok (.ireturn, 1) := by decide +kernel
theorem dX9_split_15 : decode cX9_split 15 = .ok (.iconst 2, 1) := by decide +kernel
theorem dX9_split_16 : decode cX9_split 16 = .ok (.istore_n 3, 1) := by decide +kernel
theorem dX9_split_17 : decode cX9_split 17 = .ok (.aload_n 0, 1) := by decide +kernel
theorem dX9_split_18 : decode cX9_split 18 = .ok (.iload_n 3, 1) := by decide +kernel
theorem dX9_split_19 : decode cX9_split 19 = .ok (.invokevirtual 230, 3) := by decide +kernel
theorem dX9_split_22 : decode cX9_split 22 = .ok (.ifCond .eq 40, 3) := by decide +kernel
theorem dX9_split_25 : decode cX9_split 25 = .ok (.aload_n 0, 1) := by decide +kernel
theorem dX9_split_26 : decode cX9_split 26 = .ok (.iload_n 3, 1) := by decide +kernel
theorem dX9_split_27 : decode cX9_split 27 = .ok (.invokevirtual 233, 3) := by decide +kernel
theorem dX9_split_30 : decode cX9_split 30 = .ok (.ifCond .le 26, 3) := by decide +kernel
theorem dX9_split_33 : decode cX9_split 33 = .ok (.aload_n 0, 1) := by decide +kernel
theorem dX9_split_34 : decode cX9_split 34 = .ok (.iload_n 3, 1) := by decide +kernel
theorem dX9_split_35 : decode cX9_split 35 = .ok (.invokevirtual 236, 3) := by decide +kernel
theorem dX9_split_38 : decode cX9_split 38 = .ok (.iload_n 1, 1) := by decide +kernel
theorem dX9_split_39 : decode cX9_split 39 = .ok (.if_icmp .ne 17, 3) := by decide +kernel
theorem dX9_split_42 : decode cX9_split 42 = .ok (.iload_n 2, 1) := by decide +kernel
theorem dX9_split_43 : decode cX9_split 43 = .ok (.ifCond .ne 7, 3) := by decide +kernel
theorem dX9_split_46 : decode cX9_split 46 = .ok (.iload_n 3, 1) := by decide +kernel
theorem dX9_split_47 : decode cX9_split 47 = .ok (.goto 8, 3) := by decide +kernel
theorem dX9_split_50 : decode cX9_split 50 = .ok (.aload_n 0, 1) := by decide +kernel
theorem dX9_split_51 : decode cX9_split 51 = .ok (.iload_n 3, 1) := by decide +kernel
theorem dX9_split_52 : decode cX9_split 52 = .ok (.invokevirtual 233, 3) := by decide +kernel
theorem dX9_split_55 : decode cX9_split 55 = .ok (.ireturn, 1) := by decide +kernel
theorem dX9_split_56 : decode cX9_split 56 = .ok (.iinc 3 2, 3) := by decide +kernel
theorem dX9_split_59 : decode cX9_split 59 = .ok (.goto (-42), 3) := by decide +kernel
theorem dX9_split_62 : decode cX9_split 62 = .ok (.bipush (-5), 2) := by decide +kernel
theorem dX9_split_64 : decode cX9_split 64 = .ok (.ireturn, 1) := by decide +kernel
set_option maxRecDepth 20000 in
theorem ggX9_see_X9_isSplit : GoodIn wsX9_see wsX9_isSplit := goodIn_r _ [8, 9, 10, 11, 7, 12, 13, 14, 15, 16, 17, 18, 19, 20, 21, 22, 23, 24, 25, 26, 27, 28, 29, 30, 31, 32, 33, 34, 35, 36, 37, 38, 39, 40, 41, 42, 43, 44, 45, 46, 47] (by decide +kernel) (by decide +kernel)
set_option maxRecDepth 20000 in
theorem gX9_see_X9_isSplit : GoodIn wsX9_see (wsV RX9 230 RX9 yX9_isSplit wsX9_isSplit) := goodIn_app (goodIn_of _ (by decide +kernel)) ggX9_see_X9_isSplit
set_option maxRecDepth 20000 in
theorem ggX9_see_X9_in : GoodIn wsX9_see wsX9_in := goodIn_r _ [12] (by decide +kernel) (by decide +kernel)
set_option maxRecDepth 20000 in
theorem gX9_see_X9_in : GoodIn wsX9_see (va_wsS RX9 95 yX9_in wsX9_in) := goodIn_app (goodIn_of _ (by decide +kernel)) ggX9_see_X9_in
theorem dX9_see_0 : decode cX9_see 0 = .ok (.iload_n 1, 1) := by decide +kernel
theorem dX9_see_1 : decode cX9_see 1 = .ok (.iconst (-1), 1) := by decide +kernel
theorem dX9_see_2 : decode cX9_see 2 = .ok (.if_icmp .ne 10, 3) := by decide +kernel
theorem dX9_see_5 : decode cX9_see 5 = .ok (.aload_n 0, 1) := by decide +kernel
theorem dX9_see_6 : decode cX9_see 6 = .ok (.iconst 0, 1) := by decide +kernel
theorem dX9_see_7 : decode cX9_see 7 = .ok (.putfield 239, 3) := by decide +kernel
theorem dX9_see_10 : decode cX9_see 10 = .ok (.iconst 0, 1) := by decide +kernel
theorem dX9_see_11 : decode cX9_see 11 = .ok (.ireturn, 1) := by decide +kernel
theorem dX9_see_12 : decode cX9_see 12 = .ok (.aload_n 0, 1) := by decide +kernel
theorem dX9_see_13 : decode cX9_see 13 = .ok (.iload_n 1, 1) := by decide +kernel
theorem dX9_see_14 : decode cX9_see 14 = .ok (.invokevirtual 230, 3) := by decide +kernel
theorem dX9_see_17 : decode cX9_see 17 = .ok (.ifCond .ne 5, 3) := by decide +kernel
theorem dX9_see_20 : decode cX9_see 20 = .ok (.iconst (-1), 1) := by decide +kernel
theorem dX9_see_21 : decode cX9_see 21 = .ok (.ireturn, 1) := by decide +kernel
theorem dX9_see_22 : decode cX9_see 22 = .ok (.iload_n 2, 1) := by decide +kernel
theorem dX9_see_23 : decode cX9_see 23 = .ok (.iconst 0, 1) := by decide +kernel
theorem dX9_see_24 : decode cX9_see 24 = .ok (.bipush 99, 2) := by decide +kernel
theorem dX9_see_26 : decode cX9_see 26 = .ok (.invokestatic 95, 3) := by decide +kernel
theorem dX9_see_29 : decode cX9_see 29 = .ok (.ifCond .ne 6, 3) := by decide +kernel
theorem dX9_see_32 : decode cX9_see 32 = .ok (.bipush (-2), 2) := by decide +kernel
theorem dX9_see_34 : decode cX9_see 34 = .ok (.ireturn, 1) := by decide +kernel
theorem dX9_see_35 : decode cX9_see 35 = .ok (.aload_n 0, 1) := by decide +kernel
theorem dX9_see_36 : decode cX9_see 36 = .ok (.getfield 239, 3) := by decide +kernel
theorem dX9_see_39 : decode cX9_see 39 = .ok (.iconst 4, 1) := by decide +kernel
theorem dX9_see_40 : decode cX9_see 40 = .ok (.if_icmp .ne 6, 3) := by decide +kernel
theorem dX9_see_43 : decode cX9_see 43 = .ok (.bipush (-4), 2) := by decide +kernel
theorem dX9_see_45 : decode cX9_see 45 = .ok (.ireturn, 1) := by decide +kernel
theorem dX9_see_46 : decode cX9_see 46 = .ok (.aload_n 0, 1) := by decide +kernel
theorem dX9_see_47 : decode cX9_see 47 = .ok (.getfield 25, 3) := by decide +kernel
theorem dX9_see_50 : decode cX9_see 50 = .ok (.aload_n 0, 1) := by decide +kernel
theorem dX9_see_51 : decode cX9_see 51 = .ok (.getfield 239, 3) := by decide +kernel
theorem dX9_see_54 : decode cX9_see 54 = .ok (.iload_n 1, 1) := by decide +kernel
theorem dX9_see_55 : decode cX9_see 55 = .ok (.iastore, 1) := by decide +kernel
theorem dX9_see_56 : decode cX9_see 56 = .ok (.aload_n 0, 1) := by decide +kernel
theorem dX9_see_57 : decode cX9_see 57 = .ok (.getfield 28, 3) := by decide +kernel
theorem dX9_see_60 : decode cX9_see 60 = .ok (.aload_n 0, 1) := by decide +kernel
theorem dX9_see_61 : decode cX9_see 61 = .ok (.getfield 239, 3) := by decide +kernel
theorem dX9_see_64 : decode cX9_see 64 = .ok (.iload_n 2, 1) := by decide +kernel
theorem dX9_see_65 : decode cX9_see 65 = .ok (.iastore, 1) := by decide +kernel
theorem dX9_see_66 : decode cX9_see 66 = .ok (.aload_n 0, 1) := by decide +kernel
theorem dX9_see_67 : decode cX9_see 67 = .ok (.dup, 1) := by decide +kernel
theorem dX9_see_68 : decode cX9_see 68 = .ok (.getfield 239, 3) := by decide +kernel
theorem dX9_see_71 : decode cX9_see 71 = .ok (.iconst 1, 1) := by decide +kernel
theorem dX9_see_72 : decode cX9_see 72 = .ok (.iadd, 1) := by decide +kernel
theorem dX9_see_73 : decode cX9_see 73 = .ok (.putfield 239, 3) := by decide +kernel
theorem dX9_see_76 : decode cX9_see 76 = .ok (.aload_n 0, 1) := by decide +kernel
theorem dX9_see_77 : decode cX9_see 77 = .ok (.getfield 239, 3) := by decide +kernel
theorem dX9_see_80 : decode cX9_see 80 = .ok (.ireturn, 1) := by decide +kernel
set_option maxRecDepth 20000 in
theorem ggX9_isAsSeen_X9_isSplit : GoodIn wsX9_isAsSeen wsX9_isSplit := goodIn_r _ [8, 9, 10, 11, 7, 12, 37, 38, 39, 40, 41, 42, 43, 44, 45, 46, 47, 48, 49, 50, 51, 52, 53, 54, 55, 56, 57, 58, 59, 60, 61, 62, 63, 64, 65, 66, 67, 68, 69, 70, 71] (by decide +kernel) (by decide +kernel)
set_option maxRecDepth 20000 in
theorem gX9_isAsSeen_X9_isSplit : GoodIn wsX9_isAsSeen (wsV RX9 230 RX9 yX9_isSplit wsX9_isSplit) := goodIn_app (goodIn_of _ (by decide +kernel)) ggX9_isAsSeen_X9_isSplit
set_option maxRecDepth 20000 in
theorem ggX9_isAsSeen_X9_weightOf : GoodIn wsX9_isAsSeen wsX9_weightOf := goodIn_r _ [16, 9, 17, 18, 19, 20, 21, 22, 23, 24, 25, 26, 7, 27, 28, 29, 30, 31, 32, 37, 38, 39, 40, 41, 42, 43, 44, 45, 46, 47, 48, 49, 50, 51, 52, 53, 54, 55, 56, 57, 58, 59, 60, 61, 62, 63, 64, 65, 66, 67, 68, 69, 70, 71] (by decide +kernel) (by decide +kernel)
set_option maxRecDepth 20000 in
theorem gX9_isAsSeen_X9_weightOf : GoodIn wsX9_isAsSeen (wsV RX9 233 RX9 yX9_weightOf wsX9_weightOf) := goodIn_app (goodIn_of _ (by decide +kernel)) ggX9_isAsSeen_X9_weightOf
set_option maxRecDepth 20000 in
theorem ggX9_isAsSeen_X9_barred : GoodIn wsX9_isAsSeen wsX9_barred := goodIn_r _ [36, 9, 28, 29, 30, 7, 31, 32, 37, 38, 39, 40, 41, 42, 43, 44, 45, 46, 47, 48, 49, 50, 51, 52, 53, 54, 55, 56, 57, 58, 59, 60, 61, 62, 63, 64, 65, 66, 67, 68, 69, 70, 71] (by decide +kernel) (by decide +kernel)
set_option maxRecDepth 20000 in
theorem gX9_isAsSeen_X9_barred : GoodIn wsX9_isAsSeen (wsV RX9 124 RX9 yX9_barred wsX9_barred) := goodIn_app (goodIn_of _ (by decide +kernel)) ggX9_isAsSeen_X9_barred
theorem dX9_isAsSeen_0 : decode cX9_isAsSeen 0 = .ok (.iconst 0, 1) := by decide +kernel
theorem dX9_isAsSeen_1 : decode cX9_isAsSeen 1 = .ok (.istore_n 1, 1) := by decide +kernel
theorem dX9_isAsSeen_2 : decode cX9_isAsSeen 2 = .ok (.iload_n 1, 1) := by decide +kernel
theorem dX9_isAsSeen_3 : decode cX9_isAsSeen 3 = .ok (.aload_n 0, 1) := by decide +kernel
theorem dX9_isAsSeen_4 : decode cX9_isAsSeen 4 = .ok (.getfield 239, 3) := by decide +kernel
theorem dX9_isAsSeen_7 : decode cX9_isAsSeen 7 = .ok (.if_icmp .ge 43, 3) := by decide +kernel
theorem dX9_isAsSeen_10 : decode cX9_isAsSeen 10 = .ok (.aload_n 0, 1) := by decide +kernel
theorem dX9_isAsSeen_11 : decode cX9_isAsSeen 11 = .ok (.aload_n 0, 1) := by decide +kernel
theorem dX9_isAsSeen_12 : decode cX9_isAsSeen 12 = .ok (.getfield 25, 3) := by decide +kernel
theorem dX9_isAsSeen_15 : decode cX9_isAsSeen 15 = .ok (.iload_n 1, 1) := by decide +kernel
theorem dX9_isAsSeen_16 : decode cX9_isAsSeen 16 = .ok (.iaload, 1) := by decide +kernel
theorem dX9_isAsSeen_17 : decode cX9_isAsSeen 17 = .ok (.invokevirtual 230, 3) := by decide +kernel
theorem dX9_isAsSeen_20 : decode cX9_isAsSeen 20 = .ok (.ifCond .eq 22, 3) := by decide +kernel
theorem dX9_isAsSeen_23 : decode cX9_isAsSeen 23 = .ok (.aload_n 0, 1) := by decide +kernel
theorem dX9_isAsSeen_24 : decode cX9_isAsSeen 24 = .ok (.aload_n 0, 1) := by decide +kernel
theorem dX9_isAsSeen_25 : decode cX9_isAsSeen 25 = .ok (.getfield 25, 3) := by decide +kernel
theorem dX9_isAsSeen_28 : decode cX9_isAsSeen 28 = .ok (.iload_n 1, 1) := by decide +kernel
theorem dX9_isAsSeen_29 : decode cX9_isAsSeen 29 = .ok (.iaload, 1) := by decide +kernel
theorem dX9_isAsSeen_30 : decode cX9_isAsSeen 30 = .ok (.invokevirtual 233, 3) := by decide +kernel
theorem dX9_isAsSeen_33 : decode cX9_isAsSeen 33 = .ok (.aload_n 0, 1) := by decide +kernel
theorem dX9_isAsSeen_34 : decode cX9_isAsSeen 34 = .ok (.getfield 28, 3) := by decide +kernel
theorem dX9_isAsSeen_37 : decode cX9_isAsSeen 37 = .ok (.iload_n 1, 1) := by decide +kernel
theorem dX9_isAsSeen_38 : decode cX9_isAsSeen 38 = .ok (.iaload, 1) := by decide +kernel
theorem dX9_isAsSeen_39 : decode cX9_isAsSeen 39 = .ok (.if_icmp .eq 5, 3) := by decide +kernel
theorem dX9_isAsSeen_42 : decode cX9_isAsSeen 42 = .ok (.iconst 0, 1) := by decide +kernel
theorem dX9_isAsSeen_43 : decode cX9_isAsSeen 43 = .ok (.ireturn, 1) := by decide +kernel
theorem dX9_isAsSeen_44 : decode cX9_isAsSeen 44 = .ok (.iinc 1 1, 3) := by decide +kernel
theorem dX9_isAsSeen_47 : decode cX9_isAsSeen 47 = .ok (.goto (-45), 3) := by decide +kernel
theorem dX9_isAsSeen_50 : decode cX9_isAsSeen 50 = .ok (.aload_n 0, 1) := by decide +kernel
theorem dX9_isAsSeen_51 : decode cX9_isAsSeen 51 = .ok (.invokevirtual 124, 3) := by decide +kernel
theorem dX9_isAsSeen_54 : decode cX9_isAsSeen 54 = .ok (.ifCond .ge 7, 3) := by decide +kernel
theorem dX9_isAsSeen_57 : decode cX9_isAsSeen 57 = .ok (.iconst 1, 1) := by decide +kernel
theorem dX9_isAsSeen_58 : decode cX9_isAsSeen 58 = .ok (.goto 4, 3) := by decide +kernel
theorem dX9_isAsSeen_61 : decode cX9_isAsSeen 61 = .ok (.iconst 0, 1) := by decide +kernel
theorem dX9_isAsSeen_62 : decode cX9_isAsSeen 62 = .ok (.ireturn, 1) := by decide +kernel
set_option maxRecDepth 20000 in
theorem ggX9_fits_X9_areTwo : GoodIn wsX9_fits wsX9_areTwo := goodIn_r _ [5, 6, 7, 8, 4, 9, 10, 11, 12, 13, 53, 54, 55, 56, 57, 58, 59, 60, 61, 62, 63, 64, 65, 66, 67, 68, 69, 70, 71, 72, 73, 74, 75, 76, 77, 78, 79, 80, 81, 82, 83, 84, 85, 86, 87] (by decide +kernel) (by decide +kernel)
set_option maxRecDepth 20000 in
theorem gX9_fits_X9_areTwo : GoodIn wsX9_fits (wsV RX9 107 RX9 yX9_areTwo wsX9_areTwo) := goodIn_app (goodIn_of _ (by decide +kernel)) ggX9_fits_X9_areTwo
set_option maxRecDepth 20000 in
theorem ggX9_fits_X9_in : GoodIn wsX9_fits wsX9_in := goodIn_r _ [13] (by decide +kernel) (by decide +kernel)
set_option maxRecDepth 20000 in
theorem gX9_fits_X9_in : GoodIn wsX9_fits (va_wsS RX9 95 yX9_in wsX9_in) := goodIn_app (goodIn_of _ (by decide +kernel)) ggX9_fits_X9_in
set_option maxRecDepth 20000 in
theorem ggX9_fits_X9_d : GoodIn wsX9_fits wsX9_d := goodIn_r _ [17, 18, 53, 54, 55, 56, 57, 58, 59, 60, 61, 62, 63, 64, 65, 66, 67, 68, 69, 70, 71, 72, 73, 74, 75, 76, 77, 78, 79, 80, 81, 82, 83, 84, 85, 86, 87] (by decide +kernel) (by decide +kernel)
set_option maxRecDepth 20000 in
theorem gX9_fits_X9_d : GoodIn wsX9_fits (wsV RX9 111 RX9 yX9_d wsX9_d) := goodIn_app (goodIn_of _ (by decide +kernel)) ggX9_fits_X9_d
set_option maxRecDepth 20000 in
theorem ggX9_fits_X9_lays : GoodIn wsX9_fits wsX9_lays := goodIn_r _ [22, 18, 53, 54, 55, 56, 57, 58, 59, 60, 61, 62, 63, 64, 65, 66, 67, 68, 69, 70, 71, 72, 73, 74, 75, 76, 77, 78, 79, 80, 81, 82, 83, 84, 85, 86, 87] (by decide +kernel) (by decide +kernel)
set_option maxRecDepth 20000 in
theorem gX9_fits_X9_lays : GoodIn wsX9_fits (wsV RX9 103 RX9 yX9_lays wsX9_lays) := goodIn_app (goodIn_of _ (by decide +kernel)) ggX9_fits_X9_lays
set_option maxRecDepth 20000 in
theorem ggX9_fits_X9_isAsSeen : GoodIn wsX9_fits wsX9_isAsSeen := goodIn_r _ [26, 27, 28, 29, 30, 31, 32, 4, 33, 10, 11, 12, 13, 34, 35, 36, 37, 38, 39, 40, 41, 42, 43, 44, 45, 46, 47, 48, 14, 15, 16, 17, 18, 49, 50, 51, 52, 53, 54, 55, 56, 57, 58, 59, 60, 61, 62, 63, 64, 65, 66, 67, 68, 69, 70, 71, 72, 73, 74, 75, 76, 77, 78, 79, 80, 81, 82, 83, 84, 85, 86, 87] (by decide +kernel) (by decide +kernel)
set_option maxRecDepth 20000 in
theorem gX9_fits_X9_isAsSeen : GoodIn wsX9_fits (wsV RX9 242 RX9 yX9_isAsSeen wsX9_isAsSeen) := goodIn_app (goodIn_of _ (by decide +kernel)) ggX9_fits_X9_isAsSeen
theorem dX9_fits_0 : decode cX9_fits 0 = .ok (.aload_n 0, 1) := by decide +kernel
theorem dX9_fits_1 : decode cX9_fits 1 = .ok (.iload_n 1, 1) := by decide +kernel
theorem dX9_fits_2 : decode cX9_fits 2 = .ok (.iload_n 2, 1) := by decide +kernel
theorem dX9_fits_3 : decode cX9_fits 3 = .ok (.invokevirtual 107, 3) := by decide +kernel
theorem dX9_fits_6 : decode cX9_fits 6 = .ok (.ifCond .eq 12, 3) := by decide +kernel
theorem dX9_fits_9 : decode cX9_fits 9 = .ok (.iload_n 3, 1) := by decide +kernel
theorem dX9_fits_10 : decode cX9_fits 10 = .ok (.iconst 0, 1) := by decide +kernel
theorem dX9_fits_11 : decode cX9_fits 11 = .ok (.iconst 1, 1) := by decide +kernel
theorem dX9_fits_12 : decode cX9_fits 12 = .ok (.invokestatic 95, 3) := by decide +kernel
theorem dX9_fits_15 : decode cX9_fits 15 = .ok (.ifCond .ne 5, 3) := by decide +kernel
theorem dX9_fits_18 : decode cX9_fits 18 = .ok (.iconst (-1), 1) := by decide +kernel
theorem dX9_fits_19 : decode cX9_fits 19 = .ok (.ireturn, 1) := by decide +kernel
theorem dX9_fits_20 : decode cX9_fits 20 = .ok (.aload_n 0, 1) := by decide +kernel
theorem dX9_fits_21 : decode cX9_fits 21 = .ok (.iload_n 1, 1) := by decide +kernel
theorem dX9_fits_22 : decode cX9_fits 22 = .ok (.iload_n 2, 1) := by decide +kernel
theorem dX9_fits_23 : decode cX9_fits 23 = .ok (.invokevirtual 111, 3) := by decide +kernel
theorem dX9_fits_26 : decode cX9_fits 26 = .ok (.istore 4, 2) := by decide +kernel
theorem dX9_fits_28 : decode cX9_fits 28 = .ok (.iconst 0, 1) := by decide +kernel
theorem dX9_fits_29 : decode cX9_fits 29 = .ok (.istore 5, 2) := by decide +kernel
theorem dX9_fits_31 : decode cX9_fits 31 = .ok (.bipush (-5), 2) := by decide +kernel
theorem dX9_fits_33 : decode cX9_fits 33 = .ok (.istore 6, 2) := by decide +kernel
theorem dX9_fits_35 : decode cX9_fits 35 = .ok (.bipush 40, 2) := by decide +kernel
theorem dX9_fits_37 : decode cX9_fits 37 = .ok (.istore 7, 2) := by decide +kernel
theorem dX9_fits_39 : decode cX9_fits 39 = .ok (.iload 7, 2) := by decide +kernel
theorem dX9_fits_41 : decode cX9_fits 41 = .ok (.ifCond .lt 31, 3) := by decide +kernel
theorem dX9_fits_44 : decode cX9_fits 44 = .ok (.aload_n 0, 1) := by decide +kernel
theorem dX9_fits_45 : decode cX9_fits 45 = .ok (.iload_n 1, 1) := by decide +kernel
theorem dX9_fits_46 : decode cX9_fits 46 = .ok (.iload_n 2, 1) := by decide +kernel
theorem dX9_fits_47 : decode cX9_fits 47 = .ok (.iload 7, 2) := by decide +kernel
theorem dX9_fits_49 : decode cX9_fits 49 = .ok (.invokevirtual 103, 3) := by decide +kernel
theorem dX9_fits_52 : decode cX9_fits 52 = .ok (.aload_n 0, 1) := by decide +kernel
theorem dX9_fits_53 : decode cX9_fits 53 = .ok (.invokevirtual 242, 3) := by decide +kernel
theorem dX9_fits_56 : decode cX9_fits 56 = .ok (.ifCond .eq 10, 3) := by decide +kernel
theorem dX9_fits_59 : decode cX9_fits 59 = .ok (.iinc 5 1, 3) := by decide +kernel
theorem dX9_fits_62 : decode cX9_fits 62 = .ok (.iload 7, 2) := by decide +kernel
theorem dX9_fits_64 : decode cX9_fits 64 = .ok (.istore 6, 2) := by decide +kernel
theorem dX9_fits_66 : decode cX9_fits 66 = .ok (.iinc 7 (-1), 3) := by decide +kernel
theorem dX9_fits_69 : decode cX9_fits 69 = .ok (.goto (-30), 3) := by decide +kernel
theorem dX9_fits_72 : decode cX9_fits 72 = .ok (.aload_n 0, 1) := by decide +kernel
theorem dX9_fits_73 : decode cX9_fits 73 = .ok (.iload_n 1, 1) := by decide +kernel
theorem dX9_fits_74 : decode cX9_fits 74 = .ok (.iload_n 2, 1) := by decide +kernel
theorem dX9_fits_75 : decode cX9_fits 75 = .ok (.iload 4, 2) := by decide +kernel
theorem dX9_fits_77 : decode cX9_fits 77 = .ok (.invokevirtual 103, 3) := by decide +kernel
theorem dX9_fits_80 : decode cX9_fits 80 = .ok (.iload_n 3, 1) := by decide +kernel
theorem dX9_fits_81 : decode cX9_fits 81 = .ok (.ifCond .ne 8, 3) := by decide +kernel
theorem dX9_fits_84 : decode cX9_fits 84 = .ok (.iload 5, 2) := by decide +kernel
theorem dX9_fits_86 : decode cX9_fits 86 = .ok (.goto 5, 3) := by decide +kernel
theorem dX9_fits_89 : decode cX9_fits 89 = .ok (.iload 6, 2) := by decide +kernel
theorem dX9_fits_91 : decode cX9_fits 91 = .ok (.ireturn, 1) := by decide +kernel
theorem dX9_asPart_0 : decode cX9_asPart 0 = .ok (.iload_n 0, 1) := by decide +kernel
theorem dX9_asPart_1 : decode cX9_asPart 1 = .ok (.istore_n 3, 1) := by decide +kernel
theorem dX9_asPart_2 : decode cX9_asPart 2 = .ok (.iload_n 1, 1) := by decide +kernel
theorem dX9_asPart_3 : decode cX9_asPart 3 = .ok (.istore 4, 2) := by decide +kernel
theorem dX9_asPart_5 : decode cX9_asPart 5 = .ok (.iload 4, 2) := by decide +kernel
theorem dX9_asPart_7 : decode cX9_asPart 7 = .ok (.ifCond .eq 19, 3) := by decide +kernel
theorem dX9_asPart_10 : decode cX9_asPart 10 = .ok (.iload_n 3, 1) := by decide +kernel
theorem dX9_asPart_11 : decode cX9_asPart 11 = .ok (.iload 4, 2) := by decide +kernel
theorem dX9_asPart_13 : decode cX9_asPart 13 = .ok (.irem, 1) := by decide +kernel
theorem dX9_asPart_14 : decode cX9_asPart 14 = .ok (.istore 5, 2) := by decide +kernel
theorem dX9_asPart_16 : decode cX9_asPart 16 = .ok (.iload 4, 2) := by decide +kernel
theorem dX9_asPart_18 : decode cX9_asPart 18 = .ok (.istore_n 3, 1) := by decide +kernel
theorem dX9_asPart_19 : decode cX9_asPart 19 = .ok (.iload 5, 2) := by decide +kernel
theorem dX9_asPart_21 : decode cX9_asPart 21 = .ok (.istore 4, 2) := by decide +kernel
theorem dX9_asPart_23 : decode cX9_asPart 23 = .ok (.goto (-18), 3) := by decide +kernel
theorem dX9_asPart_26 : decode cX9_asPart 26 = .ok (.iload_n 2, 1) := by decide +kernel
theorem dX9_asPart_27 : decode cX9_asPart 27 = .ok (.ifCond .ne 10, 3) := by decide +kernel
theorem dX9_asPart_30 : decode cX9_asPart 30 = .ok (.iload_n 0, 1) := by decide +kernel
theorem dX9_asPart_31 : decode cX9_asPart 31 = .ok (.iload_n 3, 1) := by decide +kernel
theorem dX9_asPart_32 : decode cX9_asPart 32 = .ok (.idiv, 1) := by decide +kernel
theorem dX9_asPart_33 : decode cX9_asPart 33 = .ok (.i2l, 1) := by decide +kernel
theorem dX9_asPart_34 : decode cX9_asPart 34 = .ok (.goto 7, 3) := by decide +kernel
theorem dX9_asPart_37 : decode cX9_asPart 37 = .ok (.iload_n 1, 1) := by decide +kernel
theorem dX9_asPart_38 : decode cX9_asPart 38 = .ok (.iload_n 3, 1) := by decide +kernel
theorem dX9_asPart_39 : decode cX9_asPart 39 = .ok (.idiv, 1) := by decide +kernel
theorem dX9_asPart_40 : decode cX9_asPart 40 = .ok (.i2l, 1) := by decide +kernel
theorem dX9_asPart_41 : decode cX9_asPart 41 = .ok (.lreturn, 1) := by decide +kernel
set_option maxRecDepth 20000 in
theorem ggX9_odds_X9_areTwo : GoodIn wsX9_odds wsX9_areTwo := goodIn_r _ [6, 7, 8, 9, 5, 10, 11, 12, 13, 14, 46, 47, 48, 49, 50, 51, 52, 53, 54, 55, 56, 57, 58, 59, 60, 61, 62, 63, 64, 65, 66, 67, 68, 69, 70, 71, 72, 73, 74, 75, 76, 77, 78, 79, 80] (by decide +kernel) (by decide +kernel)
set_option maxRecDepth 20000 in
theorem gX9_odds_X9_areTwo : GoodIn wsX9_odds (wsV RX9 107 RX9 yX9_areTwo wsX9_areTwo) := goodIn_app (goodIn_of _ (by decide +kernel)) ggX9_odds_X9_areTwo
set_option maxRecDepth 20000 in
theorem ggX9_odds_X9_in : GoodIn wsX9_odds wsX9_in := goodIn_r _ [14] (by decide +kernel) (by decide +kernel)
set_option maxRecDepth 20000 in
theorem gX9_odds_X9_in : GoodIn wsX9_odds (va_wsS RX9 95 yX9_in wsX9_in) := goodIn_app (goodIn_of _ (by decide +kernel)) ggX9_odds_X9_in
set_option maxRecDepth 20000 in
theorem ggX9_odds_X9_counting : GoodIn wsX9_odds wsX9_counting := goodIn_r _ [18, 19, 20, 21, 5, 22, 11, 12, 13, 14, 23, 24, 25, 26, 27, 28, 29, 30, 31, 32, 33, 34, 35, 36, 37, 38, 39, 40, 41, 42, 46, 47, 48, 49, 50, 51, 52, 53, 54, 55, 56, 57, 58, 59, 60, 61, 62, 63, 64, 65, 66, 67, 68, 69, 70, 71, 72, 73, 74, 75, 76, 77, 78, 79, 80] (by decide +kernel) (by decide +kernel)
set_option maxRecDepth 20000 in
theorem gX9_odds_X9_counting : GoodIn wsX9_odds (wsV RX9 159 RX9 yX9_counting wsX9_counting) := goodIn_app (goodIn_of _ (by decide +kernel)) ggX9_odds_X9_counting
set_option maxRecDepth 20000 in
theorem ggX9_odds_X9_isSplit : GoodIn wsX9_odds wsX9_isSplit := goodIn_r _ [22, 11, 12, 13, 5, 14, 46, 47, 48, 49, 50, 51, 52, 53, 54, 55, 56, 57, 58, 59, 60, 61, 62, 63, 64, 65, 66, 67, 68, 69, 70, 71, 72, 73, 74, 75, 76, 77, 78, 79, 80] (by decide +kernel) (by decide +kernel)
set_option maxRecDepth 20000 in
theorem gX9_odds_X9_isSplit : GoodIn wsX9_odds (wsV RX9 230 RX9 yX9_isSplit wsX9_isSplit) := goodIn_app (goodIn_of _ (by decide +kernel)) ggX9_odds_X9_isSplit
set_option maxRecDepth 20000 in
theorem ggX9_odds_X9_weightOf : GoodIn wsX9_odds wsX9_weightOf := goodIn_r _ [26, 11, 27, 28, 29, 30, 31, 32, 33, 34, 35, 36, 5, 37, 38, 39, 40, 41, 42, 46, 47, 48, 49, 50, 51, 52, 53, 54, 55, 56, 57, 58, 59, 60, 61, 62, 63, 64, 65, 66, 67, 68, 69, 70, 71, 72, 73, 74, 75, 76, 77, 78, 79, 80] (by decide +kernel) (by decide +kernel)
set_option maxRecDepth 20000 in
theorem gX9_odds_X9_weightOf : GoodIn wsX9_odds (wsV RX9 233 RX9 yX9_weightOf wsX9_weightOf) := goodIn_app (goodIn_of _ (by decide +kernel)) ggX9_odds_X9_weightOf
set_option maxRecDepth 20000 in
theorem ggX9_odds_X9_asPart : GoodIn wsX9_odds wsX9_asPart := goodIn_r _ [45] (by decide +kernel) (by decide +kernel)
set_option maxRecDepth 20000 in
theorem gX9_odds_X9_asPart : GoodIn wsX9_odds (va_wsS RX9 247 yX9_asPart wsX9_asPart) := goodIn_app (goodIn_of _ (by decide +kernel)) ggX9_odds_X9_asPart
theorem dX9_odds_0 : decode cX9_odds 0 = .ok (.aload_n 0, 1) := by decide +kernel
theorem dX9_odds_1 : decode cX9_odds 1 = .ok (.iload_n 1, 1) := by decide +kernel
theorem dX9_odds_2 : decode cX9_odds 2 = .ok (.iload_n 2, 1) := by decide +kernel
theorem dX9_odds_3 : decode cX9_odds 3 = .ok (.invokevirtual 107, 3) := by decide +kernel
theorem dX9_odds_6 : decode cX9_odds 6 = .ok (.ifCond .eq 19, 3) := by decide +kernel
theorem dX9_odds_9 : decode cX9_odds 9 = .ok (.iload_n 3, 1) := by decide +kernel
theorem dX9_odds_10 : decode cX9_odds 10 = .ok (.iconst 0, 1) := by decide +kernel
theorem dX9_odds_11 : decode cX9_odds 11 = .ok (.iconst 1, 1) := by decide +kernel
theorem dX9_odds_12 : decode cX9_odds 12 = .ok (.invokestatic 95, 3) := by decide +kernel
theorem dX9_odds_15 : decode cX9_odds 15 = .ok (.ifCond .eq 10, 3) := by decide +kernel
theorem dX9_odds_18 : decode cX9_odds 18 = .ok (.aload_n 0, 1) := by decide +kernel
theorem dX9_odds_19 : decode cX9_odds 19 = .ok (.invokevirtual 159, 3) := by decide +kernel
theorem dX9_odds_22 : decode cX9_odds 22 = .ok (.ifCond .ne 7, 3) := by decide +kernel
theorem dX9_odds_25 : decode cX9_odds 25 = .ok (.ldc2_w 245, 3) := by decide +kernel
theorem dX9_odds_28 : decode cX9_odds 28 = .ok (.lreturn, 1) := by decide +kernel
theorem dX9_odds_29 : decode cX9_odds 29 = .ok (.iconst 0, 1) := by decide +kernel
theorem dX9_odds_30 : decode cX9_odds 30 = .ok (.istore 4, 2) := by decide +kernel
theorem dX9_odds_32 : decode cX9_odds 32 = .ok (.iconst 2, 1) := by decide +kernel
theorem dX9_odds_33 : decode cX9_odds 33 = .ok (.istore 5, 2) := by decide +kernel
theorem dX9_odds_35 : decode cX9_odds 35 = .ok (.aload_n 0, 1) := by decide +kernel
theorem dX9_odds_36 : decode cX9_odds 36 = .ok (.iload 5, 2) := by decide +kernel
theorem dX9_odds_38 : decode cX9_odds 38 = .ok (.invokevirtual 230, 3) := by decide +kernel
theorem dX9_odds_41 : decode cX9_odds 41 = .ok (.ifCond .eq 43, 3) := by decide +kernel
theorem dX9_odds_44 : decode cX9_odds 44 = .ok (.iload 4, 2) := by decide +kernel
theorem dX9_odds_46 : decode cX9_odds 46 = .ok (.aload_n 0, 1) := by decide +kernel
theorem dX9_odds_47 : decode cX9_odds 47 = .ok (.iload 5, 2) := by decide +kernel
theorem dX9_odds_49 : decode cX9_odds 49 = .ok (.invokevirtual 233, 3) := by decide +kernel
theorem dX9_odds_52 : decode cX9_odds 52 = .ok (.ifCond .le 22, 3) := by decide +kernel
theorem dX9_odds_55 : decode cX9_odds 55 = .ok (.iload 5, 2) := by decide +kernel
theorem dX9_odds_57 : decode cX9_odds 57 = .ok (.iload_n 1, 1) := by decide +kernel
theorem dX9_odds_58 : decode cX9_odds 58 = .ok (.ishr, 1) := by decide +kernel
theorem dX9_odds_59 : decode cX9_odds 59 = .ok (.iconst 1, 1) := by decide +kernel
theorem dX9_odds_60 : decode cX9_odds 60 = .ok (.iand, 1) := by decide +kernel
theorem dX9_odds_61 : decode cX9_odds 61 = .ok (.iload 5, 2) := by decide +kernel
theorem dX9_odds_63 : decode cX9_odds 63 = .ok (.iload_n 2, 1) := by decide +kernel
theorem dX9_odds_64 : decode cX9_odds 64 = .ok (.ishr, 1) := by decide +kernel
theorem dX9_odds_65 : decode cX9_odds 65 = .ok (.iconst 1, 1) := by decide +kernel
theorem dX9_odds_66 : decode cX9_odds 66 = .ok (.iand, 1) := by decide +kernel
theorem dX9_odds_67 : decode cX9_odds 67 = .ok (.if_icmp .eq 7, 3) := by decide +kernel
theorem dX9_odds_70 : decode cX9_odds 70 = .ok (.iconst 1, 1) := by decide +kernel
theorem dX9_odds_71 : decode cX9_odds 71 = .ok (.goto 4, 3) := by decide +kernel
theorem dX9_odds_74 : decode cX9_odds 74 = .ok (.iconst 0, 1) := by decide +kernel
theorem dX9_odds_75 : decode cX9_odds 75 = .ok (.iadd, 1) := by decide +kernel
theorem dX9_odds_76 : decode cX9_odds 76 = .ok (.istore 4, 2) := by decide +kernel
theorem dX9_odds_78 : decode cX9_odds 78 = .ok (.iinc 5 2, 3) := by decide +kernel
theorem dX9_odds_81 : decode cX9_odds 81 = .ok (.goto (-46), 3) := by decide +kernel
theorem dX9_odds_84 : decode cX9_odds 84 = .ok (.iload 4, 2) := by decide +kernel
theorem dX9_odds_86 : decode cX9_odds 86 = .ok (.aload_n 0, 1) := by decide +kernel
theorem dX9_odds_87 : decode cX9_odds 87 = .ok (.invokevirtual 159, 3) := by decide +kernel
theorem dX9_odds_90 : decode cX9_odds 90 = .ok (.iload_n 3, 1) := by decide +kernel
theorem dX9_odds_91 : decode cX9_odds 91 = .ok (.invokestatic 247, 3) := by decide +kernel
theorem dX9_odds_94 : decode cX9_odds 94 = .ok (.lreturn, 1) := by decide +kernel
set_option maxRecDepth 20000 in
theorem ggX9_mean_X9_in : GoodIn wsX9_mean wsX9_in := goodIn_r _ [6] (by decide +kernel) (by decide +kernel)
set_option maxRecDepth 20000 in
theorem gX9_mean_X9_in : GoodIn wsX9_mean (va_wsS RX9 95 yX9_in wsX9_in) := goodIn_app (goodIn_of _ (by decide +kernel)) ggX9_mean_X9_in
set_option maxRecDepth 20000 in
theorem ggX9_mean_X9_girth : GoodIn wsX9_mean wsX9_girth := goodIn_r _ [10, 1, 11, 12, 13, 5, 14, 15, 19, 20, 21, 22, 23, 24, 25, 26, 27, 28, 29, 30, 31, 32, 33, 34, 35, 36, 37, 38, 39, 40, 41, 42, 43, 44, 45, 46, 47, 48, 49, 50, 51, 52, 53] (by decide +kernel) (by decide +kernel)
set_option maxRecDepth 20000 in
theorem gX9_mean_X9_girth : GoodIn wsX9_mean (wsV RX9 169 RX9 yX9_girth wsX9_girth) := goodIn_app (goodIn_of _ (by decide +kernel)) ggX9_mean_X9_girth
set_option maxRecDepth 20000 in
theorem ggX9_mean_X9_asPart : GoodIn wsX9_mean wsX9_asPart := goodIn_r _ [18] (by decide +kernel) (by decide +kernel)
set_option maxRecDepth 20000 in
theorem gX9_mean_X9_asPart : GoodIn wsX9_mean (va_wsS RX9 247 yX9_asPart wsX9_asPart) := goodIn_app (goodIn_of _ (by decide +kernel)) ggX9_mean_X9_asPart
theorem dX9_mean_0 : decode cX9_mean 0 = .ok (.iload_n 1, 1) := by decide +kernel
theorem dX9_mean_1 : decode cX9_mean 1 = .ok (.iconst 0, 1) := by decide +kernel
theorem dX9_mean_2 : decode cX9_mean 2 = .ok (.iconst 1, 1) := by decide +kernel
theorem dX9_mean_3 : decode cX9_mean 3 = .ok (.invokestatic 95, 3) := by decide +kernel
theorem dX9_mean_6 : decode cX9_mean 6 = .ok (.ifCond .eq 27, 3) := by decide +kernel
theorem dX9_mean_9 : decode cX9_mean 9 = .ok (.aload_n 0, 1) := by decide +kernel
theorem dX9_mean_10 : decode cX9_mean 10 = .ok (.invokevirtual 169, 3) := by decide +kernel
theorem dX9_mean_13 : decode cX9_mean 13 = .ok (.aload_n 0, 1) := by decide +kernel
theorem dX9_mean_14 : decode cX9_mean 14 = .ok (.getfield 9, 3) := by decide +kernel
theorem dX9_mean_17 : decode cX9_mean 17 = .ok (.aload_n 0, 1) := by decide +kernel
theorem dX9_mean_18 : decode cX9_mean 18 = .ok (.getfield 9, 3) := by decide +kernel
theorem dX9_mean_21 : decode cX9_mean 21 = .ok (.iconst 1, 1) := by decide +kernel
theorem dX9_mean_22 : decode cX9_mean 22 = .ok (.isub, 1) := by decide +kernel
theorem dX9_mean_23 : decode cX9_mean 23 = .ok (.imul, 1) := by decide +kernel
theorem dX9_mean_24 : decode cX9_mean 24 = .ok (.iconst 2, 1) := by decide +kernel
theorem dX9_mean_25 : decode cX9_mean 25 = .ok (.idiv, 1) := by decide +kernel
theorem dX9_mean_26 : decode cX9_mean 26 = .ok (.iload_n 1, 1) := by decide +kernel
theorem dX9_mean_27 : decode cX9_mean 27 = .ok (.invokestatic 247, 3) := by decide +kernel
theorem dX9_mean_30 : decode cX9_mean 30 = .ok (.goto 6, 3) := by decide +kernel
theorem dX9_mean_33 : decode cX9_mean 33 = .ok (.ldc2_w 245, 3) := by decide +kernel
theorem dX9_mean_36 : decode cX9_mean 36 = .ok (.lreturn, 1) := by decide +kernel
set_option maxRecDepth 20000 in
theorem ggX9_event_X9_in : GoodIn wsX9_event wsX9_in := goodIn_r _ [7] (by decide +kernel) (by decide +kernel)
set_option maxRecDepth 20000 in
theorem gX9_event_X9_in : GoodIn wsX9_event (va_wsS RX9 95 yX9_in wsX9_in) := goodIn_app (goodIn_of _ (by decide +kernel)) ggX9_event_X9_in
set_option maxRecDepth 20000 in
theorem ggX9_event_X9_isPoint : GoodIn wsX9_event wsX9_isPoint := goodIn_r _ [11, 12, 4, 5, 6, 7, 13, 14, 15, 16, 17, 18, 19, 20, 21, 22, 23, 24, 25, 26, 27, 28, 29, 30, 31, 32, 33, 34, 35, 36, 37, 38, 39, 40, 41, 42, 43, 44, 45, 46, 47] (by decide +kernel) (by decide +kernel)
set_option maxRecDepth 20000 in
theorem gX9_event_X9_isPoint : GoodIn wsX9_event (wsV RX9 99 RX9 yX9_isPoint wsX9_isPoint) := goodIn_app (goodIn_of _ (by decide +kernel)) ggX9_event_X9_isPoint
theorem dX9_event_0 : decode cX9_event 0 = .ok (.iload_n 1, 1) := by decide +kernel
theorem dX9_event_1 : decode cX9_event 1 = .ok (.iconst (-1), 1) := by decide +kernel
theorem dX9_event_2 : decode cX9_event 2 = .ok (.if_icmp .ne 10, 3) := by decide +kernel
theorem dX9_event_5 : decode cX9_event 5 = .ok (.aload_n 0, 1) := by decide +kernel
theorem dX9_event_6 : decode cX9_event 6 = .ok (.iconst 0, 1) := by decide +kernel
theorem dX9_event_7 : decode cX9_event 7 = .ok (.putfield 251, 3) := by decide +kernel
theorem dX9_event_10 : decode cX9_event 10 = .ok (.iconst 0, 1) := by decide +kernel
theorem dX9_event_11 : decode cX9_event 11 = .ok (.ireturn, 1) := by decide +kernel
theorem dX9_event_12 : decode cX9_event 12 = .ok (.iload_n 1, 1) := by decide +kernel
theorem dX9_event_13 : decode cX9_event 13 = .ok (.iconst 0, 1) := by decide +kernel
theorem dX9_event_14 : decode cX9_event 14 = .ok (.iconst 2, 1) := by decide +kernel
theorem dX9_event_15 : decode cX9_event 15 = .ok (.invokestatic 95, 3) := by decide +kernel
theorem dX9_event_18 : decode cX9_event 18 = .ok (.ifCond .eq 15, 3) := by decide +kernel
theorem dX9_event_21 : decode cX9_event 21 = .ok (.iload_n 1, 1) := by decide +kernel
theorem dX9_event_22 : decode cX9_event 22 = .ok (.ifCond .ne 13, 3) := by decide +kernel
theorem dX9_event_25 : decode cX9_event 25 = .ok (.aload_n 0, 1) := by decide +kernel
theorem dX9_event_26 : decode cX9_event 26 = .ok (.iload_n 2, 1) := by decide +kernel
theorem dX9_event_27 : decode cX9_event 27 = .ok (.invokevirtual 99, 3) := by decide +kernel
theorem dX9_event_30 : decode cX9_event 30 = .ok (.ifCond .ne 5, 3) := by decide +kernel
theorem dX9_event_33 : decode cX9_event 33 = .ok (.iconst (-1), 1) := by decide +kernel
theorem dX9_event_34 : decode cX9_event 34 = .ok (.ireturn, 1) := by decide +kernel
theorem dX9_event_35 : decode cX9_event 35 = .ok (.iload_n 1, 1) := by decide +kernel
theorem dX9_event_36 : decode cX9_event 36 = .ok (.iconst 1, 1) := by decide +kernel
theorem dX9_event_37 : decode cX9_event 37 = .ok (.if_icmp .ne 13, 3) := by decide +kernel
theorem dX9_event_40 : decode cX9_event 40 = .ok (.iload_n 2, 1) := by decide +kernel
theorem dX9_event_41 : decode cX9_event 41 = .ok (.iconst 0, 1) := by decide +kernel
theorem dX9_event_42 : decode cX9_event 42 = .ok (.bipush 9, 2) := by decide +kernel
theorem dX9_event_44 : decode cX9_event 44 = .ok (.invokestatic 95, 3) := by decide +kernel
theorem dX9_event_47 : decode cX9_event 47 = .ok (.ifCond .eq 12, 3) := by decide +kernel
theorem dX9_event_50 : decode cX9_event 50 = .ok (.iload_n 1, 1) := by decide +kernel
theorem dX9_event_51 : decode cX9_event 51 = .ok (.iconst 2, 1) := by decide +kernel
theorem dX9_event_52 : decode cX9_event 52 = .ok (.if_icmp .ne 10, 3) := by decide +kernel
theorem dX9_event_55 : decode cX9_event 55 = .ok (.iload_n 2, 1) := by decide +kernel
theorem dX9_event_56 : decode cX9_event 56 = .ok (.ifCond .eq 6, 3) := by decide +kernel
theorem dX9_event_59 : decode cX9_event 59 = .ok (.bipush (-2), 2) := by decide +kernel
theorem dX9_event_61 : decode cX9_event 61 = .ok (.ireturn, 1) := by decide +kernel
theorem dX9_event_62 : decode cX9_event 62 = .ok (.aload_n 0, 1) := by decide +kernel
theorem dX9_event_63 : decode cX9_event 63 = .ok (.getfield 251, 3) := by decide +kernel
theorem dX9_event_66 : decode cX9_event 66 = .ok (.bipush 8, 2) := by decide +kernel
theorem dX9_event_68 : decode cX9_event 68 = .ok (.if_icmp .ne 6, 3) := by decide +kernel
theorem dX9_event_71 : decode cX9_event 71 = .ok (.bipush (-4), 2) := by decide +kernel
theorem dX9_event_73 : decode cX9_event 73 = .ok (.ireturn, 1) := by decide +kernel
theorem dX9_event_74 : decode cX9_event 74 = .ok (.aload_n 0, 1) := by decide +kernel
theorem dX9_event_75 : decode cX9_event 75 = .ok (.getfield 31, 3) := by decide +kernel
theorem dX9_event_78 : decode cX9_event 78 = .ok (.aload_n 0, 1) := by decide +kernel
theorem dX9_event_79 : decode cX9_event 79 = .ok (.getfield 251, 3) := by decide +kernel
theorem dX9_event_82 : decode cX9_event 82 = .ok (.iload_n 1, 1) := by decide +kernel
theorem dX9_event_83 : decode cX9_event 83 = .ok (.iastore, 1) := by decide +kernel
theorem dX9_event_84 : decode cX9_event 84 = .ok (.aload_n 0, 1) := by decide +kernel
theorem dX9_event_85 : decode cX9_event 85 = .ok (.getfield 34, 3) := by decide +kernel
theorem dX9_event_88 : decode cX9_event 88 = .ok (.aload_n 0, 1) := by decide +kernel
theorem dX9_event_89 : decode cX9_event 89 = .ok (.getfield 251, 3) := by decide +kernel
theorem dX9_event_92 : decode cX9_event 92 = .ok (.iload_n 2, 1) := by decide +kernel
theorem dX9_event_93 : decode cX9_event 93 = .ok (.iastore, 1) := by decide +kernel
theorem dX9_event_94 : decode cX9_event 94 = .ok (.aload_n 0, 1) := by decide +kernel
theorem dX9_event_95 : decode cX9_event 95 = .ok (.dup, 1) := by decide +kernel
theorem dX9_event_96 : decode cX9_event 96 = .ok (.getfield 251, 3) := by decide +kernel
theorem dX9_event_99 : decode cX9_event 99 = .ok (.iconst 1, 1) := by decide +kernel
theorem dX9_event_100 : decode cX9_event 100 = .ok (.iadd, 1) := by decide +kernel
theorem dX9_event_101 : decode cX9_event 101 = .ok (.putfield 251, 3) := by decide +kernel
theorem dX9_event_104 : decode cX9_event 104 = .ok (.aload_n 0, 1) := by decide +kernel
theorem dX9_event_105 : decode cX9_event 105 = .ok (.getfield 251, 3) := by decide +kernel
theorem dX9_event_108 : decode cX9_event 108 = .ok (.ireturn, 1) := by decide +kernel
set_option maxRecDepth 20000 in
theorem ggX9_happens_X9_shortens : GoodIn wsX9_happens wsX9_shortens := goodIn_r _ [13, 1, 14, 6, 7, 4, 8, 15, 16, 17, 12, 18, 19, 20, 21, 22, 23, 24, 25, 26, 27, 28, 29, 30, 31, 32, 33, 34, 35, 36, 37, 38, 39, 40, 41, 42, 43, 44, 45, 46, 47, 48, 49, 50, 51, 52, 53, 54, 55, 56, 57, 58] (by decide +kernel) (by decide +kernel)
set_option maxRecDepth 20000 in
theorem gX9_happens_X9_shortens : GoodIn wsX9_happens (wsV RX9 120 RX9 yX9_shortens wsX9_shortens) := goodIn_app (goodIn_of _ (by decide +kernel)) ggX9_happens_X9_shortens
set_option maxRecDepth 20000 in
theorem ggX9_happens_X9_d : GoodIn wsX9_happens wsX9_d := goodIn_r _ [18, 19, 24, 25, 26, 27, 28, 29, 30, 31, 32, 33, 34, 35, 36, 37, 38, 39, 40, 41, 42, 43, 44, 45, 46, 47, 48, 49, 50, 51, 52, 53, 54, 55, 56, 57, 58] (by decide +kernel) (by decide +kernel)
set_option maxRecDepth 20000 in
theorem gX9_happens_X9_d : GoodIn wsX9_happens (wsV RX9 111 RX9 yX9_d wsX9_d) := goodIn_app (goodIn_of _ (by decide +kernel)) ggX9_happens_X9_d
set_option maxRecDepth 20000 in
theorem ggX9_happens_X9_lays : GoodIn wsX9_happens wsX9_lays := goodIn_r _ [23, 19, 24, 25, 26, 27, 28, 29, 30, 31, 32, 33, 34, 35, 36, 37, 38, 39, 40, 41, 42, 43, 44, 45, 46, 47, 48, 49, 50, 51, 52, 53, 54, 55, 56, 57, 58] (by decide +kernel) (by decide +kernel)
set_option maxRecDepth 20000 in
theorem gX9_happens_X9_lays : GoodIn wsX9_happens (wsV RX9 103 RX9 yX9_lays wsX9_lays) := goodIn_app (goodIn_of _ (by decide +kernel)) ggX9_happens_X9_lays
theorem dX9_happens_0 : decode cX9_happens 0 = .ok (.iload_n 1, 1) := by decide +kernel
theorem dX9_happens_1 : decode cX9_happens 1 = .ok (.iconst 2, 1) := by decide +kernel
theorem dX9_happens_2 : decode cX9_happens 2 = .ok (.if_icmp .ne 9, 3) := by decide +kernel
theorem dX9_happens_5 : decode cX9_happens 5 = .ok (.aload_n 0, 1) := by decide +kernel
theorem dX9_happens_6 : decode cX9_happens 6 = .ok (.invokevirtual 120, 3) := by decide +kernel
theorem dX9_happens_9 : decode cX9_happens 9 = .ok (.istore_n 3, 1) := by decide +kernel
theorem dX9_happens_10 : decode cX9_happens 10 = .ok (.return_, 1) := by decide +kernel
theorem dX9_happens_11 : decode cX9_happens 11 = .ok (.iconst 0, 1) := by decide +kernel
theorem dX9_happens_12 : decode cX9_happens 12 = .ok (.istore_n 3, 1) := by decide +kernel
theorem dX9_happens_13 : decode cX9_happens 13 = .ok (.iload_n 3, 1) := by decide +kernel
theorem dX9_happens_14 : decode cX9_happens 14 = .ok (.aload_n 0, 1) := by decide +kernel
theorem dX9_happens_15 : decode cX9_happens 15 = .ok (.getfield 9, 3) := by decide +kernel
theorem dX9_happens_18 : decode cX9_happens 18 = .ok (.if_icmp .ge 84, 3) := by decide +kernel
theorem dX9_happens_21 : decode cX9_happens 21 = .ok (.iconst 0, 1) := by decide +kernel
theorem dX9_happens_22 : decode cX9_happens 22 = .ok (.istore 4, 2) := by decide +kernel
theorem dX9_happens_24 : decode cX9_happens 24 = .ok (.iload 4, 2) := by decide +kernel
theorem dX9_happens_26 : decode cX9_happens 26 = .ok (.iload_n 3, 1) := by decide +kernel
theorem dX9_happens_27 : decode cX9_happens 27 = .ok (.if_icmp .ge 69, 3) := by decide +kernel
theorem dX9_happens_30 : decode cX9_happens 30 = .ok (.iload_n 1, 1) := by decide +kernel
theorem dX9_happens_31 : decode cX9_happens 31 = .ok (.iconst 1, 1) := by decide +kernel
theorem dX9_happens_32 : decode cX9_happens 32 = .ok (.if_icmp .ne 26, 3) := by decide +kernel
theorem dX9_happens_35 : decode cX9_happens 35 = .ok (.aload_n 0, 1) := by decide +kernel
theorem dX9_happens_36 : decode cX9_happens 36 = .ok (.iload_n 3, 1) := by decide +kernel
theorem dX9_happens_37 : decode cX9_happens 37 = .ok (.iload 4, 2) := by decide +kernel
theorem dX9_happens_39 : decode cX9_happens 39 = .ok (.iconst 0, 1) := by decide +kernel
theorem dX9_happens_40 : decode cX9_happens 40 = .ok (.aload_n 0, 1) := by decide +kernel
theorem dX9_happens_41 : decode cX9_happens 41 = .ok (.iload_n 3, 1) := by decide +kernel
theorem dX9_happens_42 : decode cX9_happens 42 = .ok (.iload 4, 2) := by decide +kernel
theorem dX9_happens_44 : decode cX9_happens 44 = .ok (.invokevirtual 111, 3) := by decide +kernel
theorem dX9_happens_47 : decode cX9_happens 47 = .ok (.iload_n 2, 1) := by decide +kernel
theorem dX9_happens_48 : decode cX9_happens 48 = .ok (.isub, 1) := by decide +kernel
theorem dX9_happens_49 : decode cX9_happens 49 = .ok (.invokestatic 133, 3) := by decide +kernel
theorem dX9_happens_52 : decode cX9_happens 52 = .ok (.invokevirtual 103, 3) := by decide +kernel
theorem dX9_happens_55 : decode cX9_happens 55 = .ok (.goto 35, 3) := by decide +kernel
theorem dX9_happens_58 : decode cX9_happens 58 = .ok (.iload_n 3, 1) := by decide +kernel
theorem dX9_happens_59 : decode cX9_happens 59 = .ok (.iload_n 2, 1) := by decide +kernel
theorem dX9_happens_60 : decode cX9_happens 60 = .ok (.if_icmp .eq 9, 3) := by decide +kernel
theorem dX9_happens_63 : decode cX9_happens 63 = .ok (.iload 4, 2) := by decide +kernel
theorem dX9_happens_65 : decode cX9_happens 65 = .ok (.iload_n 2, 1) := by decide +kernel
theorem dX9_happens_66 : decode cX9_happens 66 = .ok (.if_icmp .ne 24, 3) := by decide +kernel
theorem dX9_happens_69 : decode cX9_happens 69 = .ok (.aload_n 0, 1) := by decide +kernel
theorem dX9_happens_70 : decode cX9_happens 70 = .ok (.iload_n 3, 1) := by decide +kernel
theorem dX9_happens_71 : decode cX9_happens 71 = .ok (.iload 4, 2) := by decide +kernel
theorem dX9_happens_73 : decode cX9_happens 73 = .ok (.bipush 40, 2) := by decide +kernel
theorem dX9_happens_75 : decode cX9_happens 75 = .ok (.aload_n 0, 1) := by decide +kernel
theorem dX9_happens_76 : decode cX9_happens 76 = .ok (.iload_n 3, 1) := by decide +kernel
theorem dX9_happens_77 : decode cX9_happens 77 = .ok (.iload 4, 2) := by decide +kernel
theorem dX9_happens_79 : decode cX9_happens 79 = .ok (.invokevirtual 111, 3) := by decide +kernel
theorem dX9_happens_82 : decode cX9_happens 82 = .ok (.iconst 1, 1) := by decide +kernel
theorem dX9_happens_83 : decode cX9_happens 83 = .ok (.iadd, 1) := by decide +kernel
theorem dX9_happens_84 : decode cX9_happens 84 = .ok (.invokestatic 115, 3) := by decide +kernel
theorem dX9_happens_87 : decode cX9_happens 87 = .ok (.invokevirtual 103, 3) := by decide +kernel
theorem dX9_happens_90 : decode cX9_happens 90 = .ok (.iinc 4 1, 3) := by decide +kernel
theorem dX9_happens_93 : decode cX9_happens 93 = .ok (.goto (-69), 3) := by decide +kernel
theorem dX9_happens_96 : decode cX9_happens 96 = .ok (.iinc 3 1, 3) := by decide +kernel
theorem dX9_happens_99 : decode cX9_happens 99 = .ok (.goto (-86), 3) := by decide +kernel
theorem dX9_happens_102 : decode cX9_happens 102 = .ok (.return_, 1) := by decide +kernel
set_option maxRecDepth 20000 in
theorem ggX9_after_X9_in : GoodIn wsX9_after wsX9_in := goodIn_r _ [7] (by decide +kernel) (by decide +kernel)
set_option maxRecDepth 20000 in
theorem gX9_after_X9_in : GoodIn wsX9_after (va_wsS RX9 95 yX9_in wsX9_in) := goodIn_app (goodIn_of _ (by decide +kernel)) ggX9_after_X9_in
set_option maxRecDepth 20000 in
theorem ggX9_after_X9_laysAside : GoodIn wsX9_after wsX9_laysAside := goodIn_r _ [11, 12, 13, 71, 72, 73, 74, 75, 76, 77, 78, 79, 80, 81, 82, 83, 84, 85, 86, 87, 88, 89, 90, 91, 92, 93, 94, 95, 96, 97, 98, 99, 100, 101, 102, 103, 104, 105] (by decide +kernel) (by decide +kernel)
set_option maxRecDepth 20000 in
theorem gX9_after_X9_laysAside : GoodIn wsX9_after (wsV RX9 150 RX9 yX9_laysAside wsX9_laysAside) := goodIn_app (goodIn_of _ (by decide +kernel)) ggX9_after_X9_laysAside
set_option maxRecDepth 20000 in
theorem ggX9_after_X9_happens : GoodIn wsX9_after wsX9_happens := goodIn_r _ [17, 18, 19, 20, 21, 22, 23, 24, 25, 26, 27, 28, 6, 29, 30, 31, 32, 33, 34, 13, 35, 36, 37, 38, 71, 72, 73, 74, 75, 76, 77, 78, 79, 80, 81, 82, 83, 84, 85, 86, 87, 88, 89, 90, 91, 92, 93, 94, 95, 96, 97, 98, 99, 100, 101, 102, 103, 104, 105] (by decide +kernel) (by decide +kernel)
set_option maxRecDepth 20000 in
theorem gX9_after_X9_happens : GoodIn wsX9_after (wsV RX9 254 RX9 yX9_happens wsX9_happens) := goodIn_app (goodIn_of _ (by decide +kernel)) ggX9_after_X9_happens
set_option maxRecDepth 20000 in
theorem ggX9_after_X9_barred : GoodIn wsX9_after wsX9_barred := goodIn_r _ [42, 18, 31, 32, 33, 6, 34, 13, 71, 72, 73, 74, 75, 76, 77, 78, 79, 80, 81, 82, 83, 84, 85, 86, 87, 88, 89, 90, 91, 92, 93, 94, 95, 96, 97, 98, 99, 100, 101, 102, 103, 104, 105] (by decide +kernel) (by decide +kernel)
set_option maxRecDepth 20000 in
theorem gX9_after_X9_barred : GoodIn wsX9_after (wsV RX9 124 RX9 yX9_barred wsX9_barred) := goodIn_app (goodIn_of _ (by decide +kernel)) ggX9_after_X9_barred
set_option maxRecDepth 20000 in
theorem ggX9_after_X9_counting : GoodIn wsX9_after wsX9_counting := goodIn_r _ [46, 47, 48, 49, 6, 50, 18, 4, 5, 7, 51, 52, 53, 54, 19, 20, 21, 22, 23, 24, 25, 55, 56, 57, 58, 31, 32, 33, 34, 13, 71, 72, 73, 74, 75, 76, 77, 78, 79, 80, 81, 82, 83, 84, 85, 86, 87, 88, 89, 90, 91, 92, 93, 94, 95, 96, 97, 98, 99, 100, 101, 102, 103, 104, 105] (by decide +kernel) (by decide +kernel)
set_option maxRecDepth 20000 in
theorem gX9_after_X9_counting : GoodIn wsX9_after (wsV RX9 159 RX9 yX9_counting wsX9_counting) := goodIn_app (goodIn_of _ (by decide +kernel)) ggX9_after_X9_counting
set_option maxRecDepth 20000 in
theorem ggX9_after_X9_isTree : GoodIn wsX9_after wsX9_isTree := goodIn_r _ [62, 18, 63, 64, 65, 6, 66, 19, 20, 21, 22, 31, 32, 33, 34, 13, 39, 40, 41, 42, 71, 72, 73, 74, 75, 76, 77, 78, 79, 80, 81, 82, 83, 84, 85, 86, 87, 88, 89, 90, 91, 92, 93, 94, 95, 96, 97, 98, 99, 100, 101, 102, 103, 104, 105] (by decide +kernel) (by decide +kernel)
set_option maxRecDepth 20000 in
theorem gX9_after_X9_isTree : GoodIn wsX9_after (wsV RX9 162 RX9 yX9_isTree wsX9_isTree) := goodIn_app (goodIn_of _ (by decide +kernel)) ggX9_after_X9_isTree
set_option maxRecDepth 20000 in
theorem ggX9_after_X9_laysBack : GoodIn wsX9_after wsX9_laysBack := goodIn_r _ [70, 13, 12, 71, 72, 73, 74, 75, 76, 77, 78, 79, 80, 81, 82, 83, 84, 85, 86, 87, 88, 89, 90, 91, 92, 93, 94, 95, 96, 97, 98, 99, 100, 101, 102, 103, 104, 105] (by decide +kernel) (by decide +kernel)
set_option maxRecDepth 20000 in
theorem gX9_after_X9_laysBack : GoodIn wsX9_after (wsV RX9 153 RX9 yX9_laysBack wsX9_laysBack) := goodIn_app (goodIn_of _ (by decide +kernel)) ggX9_after_X9_laysBack
theorem dX9_after_0 : decode cX9_after 0 = .ok (.iload_n 1, 1) := by decide +kernel
theorem dX9_after_1 : decode cX9_after 1 = .ok (.iconst 0, 1) := by decide +kernel
theorem dX9_after_2 : decode cX9_after 2 = .ok (.iconst 2, 1) := by decide +kernel
theorem dX9_after_3 : decode cX9_after 3 = .ok (.invokestatic 95, 3) := by decide +kernel
theorem dX9_after_6 : decode cX9_after 6 = .ok (.ifCond .ne 5, 3) := by decide +kernel
theorem dX9_after_9 : decode cX9_after 9 = .ok (.iconst (-1), 1) := by decide +kernel
theorem dX9_after_10 : decode cX9_after 10 = .ok (.ireturn, 1) := by decide +kernel
theorem dX9_after_11 : decode cX9_after 11 = .ok (.aload_n 0, 1) := by decide +kernel
theorem dX9_after_12 : decode cX9_after 12 = .ok (.invokevirtual 150, 3) := by decide +kernel
theorem dX9_after_15 : decode cX9_after 15 = .ok (.iconst 0, 1) := by decide +kernel
theorem dX9_after_16 : decode cX9_after 16 = .ok (.istore_n 2, 1) := by decide +kernel
theorem dX9_after_17 : decode cX9_after 17 = .ok (.iload_n 2, 1) := by decide +kernel
theorem dX9_after_18 : decode cX9_after 18 = .ok (.aload_n 0, 1) := by decide +kernel
theorem dX9_after_19 : decode cX9_after 19 = .ok (.getfield 251, 3) := by decide +kernel
theorem dX9_after_22 : decode cX9_after 22 = .ok (.if_icmp .ge 25, 3) := by decide +kernel
theorem dX9_after_25 : decode cX9_after 25 = .ok (.aload_n 0, 1) := by decide +kernel
theorem dX9_after_26 : decode cX9_after 26 = .ok (.aload_n 0, 1) := by decide +kernel
theorem dX9_after_27 : decode cX9_after 27 = .ok (.getfield 31, 3) := by decide +kernel
theorem dX9_after_30 : decode cX9_after 30 = .ok (.iload_n 2, 1) := by decide +kernel
theorem dX9_after_31 : decode cX9_after 31 = .ok (.iaload, 1) := by decide +kernel
theorem dX9_after_32 : decode cX9_after 32 = .ok (.aload_n 0, 1) := by decide +kernel
theorem dX9_after_33 : decode cX9_after 33 = .ok (.getfield 34, 3) := by decide +kernel
theorem dX9_after_36 : decode cX9_after 36 = .ok (.iload_n 2, 1) := by decide +kernel
theorem dX9_after_37 : decode cX9_after 37 = .ok (.iaload, 1) := by decide +kernel
theorem dX9_after_38 : decode cX9_after 38 = .ok (.invokevirtual 254, 3) := by decide +kernel
theorem dX9_after_41 : decode cX9_after 41 = .ok (.iinc 2 1, 3) := by decide +kernel
theorem dX9_after_44 : decode cX9_after 44 = .ok (.goto (-27), 3) := by decide +kernel
theorem dX9_after_47 : decode cX9_after 47 = .ok (.iload_n 1, 1) := by decide +kernel
theorem dX9_after_48 : decode cX9_after 48 = .ok (.ifCond .ne 18, 3) := by decide +kernel
theorem dX9_after_51 : decode cX9_after 51 = .ok (.aload_n 0, 1) := by decide +kernel
theorem dX9_after_52 : decode cX9_after 52 = .ok (.invokevirtual 124, 3) := by decide +kernel
theorem dX9_after_55 : decode cX9_after 55 = .ok (.ifCond .ge 7, 3) := by decide +kernel
theorem dX9_after_58 : decode cX9_after 58 = .ok (.iconst 1, 1) := by decide +kernel
theorem dX9_after_59 : decode cX9_after 59 = .ok (.goto 31, 3) := by decide +kernel
theorem dX9_after_62 : decode cX9_after 62 = .ok (.iconst 0, 1) := by decide +kernel
theorem dX9_after_63 : decode cX9_after 63 = .ok (.goto 27, 3) := by decide +kernel
theorem dX9_after_66 : decode cX9_after 66 = .ok (.iload_n 1, 1) := by decide +kernel
theorem dX9_after_67 : decode cX9_after 67 = .ok (.iconst 1, 1) := by decide +kernel
theorem dX9_after_68 : decode cX9_after 68 = .ok (.if_icmp .ne 10, 3) := by decide +kernel
theorem dX9_after_71 : decode cX9_after 71 = .ok (.aload_n 0, 1) := by decide +kernel
theorem dX9_after_72 : decode cX9_after 72 = .ok (.invokevirtual 159, 3) := by decide +kernel
theorem dX9_after_75 : decode cX9_after 75 = .ok (.goto 15, 3) := by decide +kernel
theorem dX9_after_78 : decode cX9_after 78 = .ok (.aload_n 0, 1) := by decide +kernel
theorem dX9_after_79 : decode cX9_after 79 = .ok (.invokevirtual 162, 3) := by decide +kernel
theorem dX9_after_82 : decode cX9_after 82 = .ok (.ifCond .eq 7, 3) := by decide +kernel
theorem dX9_after_85 : decode cX9_after 85 = .ok (.iconst 1, 1) := by decide +kernel
theorem dX9_after_86 : decode cX9_after 86 = .ok (.goto 4, 3) := by decide +kernel
theorem dX9_after_89 : decode cX9_after 89 = .ok (.iconst 0, 1) := by decide +kernel
theorem dX9_after_90 : decode cX9_after 90 = .ok (.istore_n 2, 1) := by decide +kernel
theorem dX9_after_91 : decode cX9_after 91 = .ok (.aload_n 0, 1) := by decide +kernel
theorem dX9_after_92 : decode cX9_after 92 = .ok (.invokevirtual 153, 3) := by decide +kernel
theorem dX9_after_95 : decode cX9_after 95 = .ok (.iload_n 2, 1) := by decide +kernel
theorem dX9_after_96 : decode cX9_after 96 = .ok (.ireturn, 1) := by decide +kernel
set_option maxRecDepth 20000 in
theorem ggX9_book_X9_areTwo : GoodIn wsX9_book wsX9_areTwo := goodIn_r _ [9, 10, 11, 12, 8, 13, 14, 15, 16, 17, 18, 19, 20, 21, 22, 23, 24, 25, 26, 27, 28, 29, 30, 31, 32, 33, 34, 35, 36, 37, 38, 39, 40, 41, 42, 43, 44, 45, 46, 47, 48, 49, 50, 51, 52] (by decide +kernel) (by decide +kernel)
set_option maxRecDepth 20000 in
theorem gX9_book_X9_areTwo : GoodIn wsX9_book (wsV RX9 107 RX9 yX9_areTwo wsX9_areTwo) := goodIn_app (goodIn_of _ (by decide +kernel)) ggX9_book_X9_areTwo
set_option maxRecDepth 20000 in
theorem ggX9_book_X9_in : GoodIn wsX9_book wsX9_in := goodIn_r _ [17] (by decide +kernel) (by decide +kernel)
set_option maxRecDepth 20000 in
theorem gX9_book_X9_in : GoodIn wsX9_book (va_wsS RX9 95 yX9_in wsX9_in) := goodIn_app (goodIn_of _ (by decide +kernel)) ggX9_book_X9_in
theorem dX9_book_0 : decode cX9_book 0 = .ok (.iload_n 1, 1) := by decide +kernel
theorem dX9_book_1 : decode cX9_book 1 = .ok (.iconst (-1), 1) := by decide +kernel
theorem dX9_book_2 : decode cX9_book 2 = .ok (.if_icmp .ne 10, 3) := by decide +kernel
theorem dX9_book_5 : decode cX9_book 5 = .ok (.aload_n 0, 1) := by decide +kernel
theorem dX9_book_6 : decode cX9_book 6 = .ok (.iconst 0, 1) := by decide +kernel
theorem dX9_book_7 : decode cX9_book 7 = .ok (.putfield 258, 3) := by decide +kernel
theorem dX9_book_10 : decode cX9_book 10 = .ok (.iconst 0, 1) := by decide +kernel
theorem dX9_book_11 : decode cX9_book 11 = .ok (.ireturn, 1) := by decide +kernel
theorem dX9_book_12 : decode cX9_book 12 = .ok (.aload_n 0, 1) := by decide +kernel
theorem dX9_book_13 : decode cX9_book 13 = .ok (.iload_n 1, 1) := by decide +kernel
theorem dX9_book_14 : decode cX9_book 14 = .ok (.iload_n 2, 1) := by decide +kernel
theorem dX9_book_15 : decode cX9_book 15 = .ok (.invokevirtual 107, 3) := by decide +kernel
theorem dX9_book_18 : decode cX9_book 18 = .ok (.ifCond .ne 5, 3) := by decide +kernel
theorem dX9_book_21 : decode cX9_book 21 = .ok (.iconst (-1), 1) := by decide +kernel
theorem dX9_book_22 : decode cX9_book 22 = .ok (.ireturn, 1) := by decide +kernel
theorem dX9_book_23 : decode cX9_book 23 = .ok (.iload_n 3, 1) := by decide +kernel
theorem dX9_book_24 : decode cX9_book 24 = .ok (.iconst 0, 1) := by decide +kernel
theorem dX9_book_25 : decode cX9_book 25 = .ok (.bipush 40, 2) := by decide +kernel
theorem dX9_book_27 : decode cX9_book 27 = .ok (.invokestatic 95, 3) := by decide +kernel
theorem dX9_book_30 : decode cX9_book 30 = .ok (.ifCond .ne 6, 3) := by decide +kernel
theorem dX9_book_33 : decode cX9_book 33 = .ok (.bipush (-2), 2) := by decide +kernel
theorem dX9_book_35 : decode cX9_book 35 = .ok (.ireturn, 1) := by decide +kernel
theorem dX9_book_36 : decode cX9_book 36 = .ok (.aload_n 0, 1) := by decide +kernel
theorem dX9_book_37 : decode cX9_book 37 = .ok (.getfield 258, 3) := by decide +kernel
theorem dX9_book_40 : decode cX9_book 40 = .ok (.bipush 8, 2) := by decide +kernel
theorem dX9_book_42 : decode cX9_book 42 = .ok (.if_icmp .ne 6, 3) := by decide +kernel
theorem dX9_book_45 : decode cX9_book 45 = .ok (.bipush (-4), 2) := by decide +kernel
theorem dX9_book_47 : decode cX9_book 47 = .ok (.ireturn, 1) := by decide +kernel
theorem dX9_book_48 : decode cX9_book 48 = .ok (.aload_n 0, 1) := by decide +kernel
theorem dX9_book_49 : decode cX9_book 49 = .ok (.getfield 37, 3) := by decide +kernel
theorem dX9_book_52 : decode cX9_book 52 = .ok (.aload_n 0, 1) := by decide +kernel
theorem dX9_book_53 : decode cX9_book 53 = .ok (.getfield 258, 3) := by decide +kernel
theorem dX9_book_56 : decode cX9_book 56 = .ok (.iload_n 1, 1) := by decide +kernel
theorem dX9_book_57 : decode cX9_book 57 = .ok (.iastore, 1) := by decide +kernel
theorem dX9_book_58 : decode cX9_book 58 = .ok (.aload_n 0, 1) := by decide +kernel
theorem dX9_book_59 : decode cX9_book 59 = .ok (.getfield 40, 3) := by decide +kernel
theorem dX9_book_62 : decode cX9_book 62 = .ok (.aload_n 0, 1) := by decide +kernel
theorem dX9_book_63 : decode cX9_book 63 = .ok (.getfield 258, 3) := by decide +kernel
theorem dX9_book_66 : decode cX9_book 66 = .ok (.iload_n 2, 1) := by decide +kernel
theorem dX9_book_67 : decode cX9_book 67 = .ok (.iastore, 1) := by decide +kernel
theorem dX9_book_68 : decode cX9_book 68 = .ok (.aload_n 0, 1) := by decide +kernel
theorem dX9_book_69 : decode cX9_book 69 = .ok (.getfield 43, 3) := by decide +kernel
theorem dX9_book_72 : decode cX9_book 72 = .ok (.aload_n 0, 1) := by decide +kernel
theorem dX9_book_73 : decode cX9_book 73 = .ok (.getfield 258, 3) := by decide +kernel
theorem dX9_book_76 : decode cX9_book 76 = .ok (.iload_n 3, 1) := by decide +kernel
theorem dX9_book_77 : decode cX9_book 77 = .ok (.iastore, 1) := by decide +kernel
theorem dX9_book_78 : decode cX9_book 78 = .ok (.aload_n 0, 1) := by decide +kernel
theorem dX9_book_79 : decode cX9_book 79 = .ok (.dup, 1) := by decide +kernel
theorem dX9_book_80 : decode cX9_book 80 = .ok (.getfield 258, 3) := by decide +kernel
theorem dX9_book_83 : decode cX9_book 83 = .ok (.iconst 1, 1) := by decide +kernel
theorem dX9_book_84 : decode cX9_book 84 = .ok (.iadd, 1) := by decide +kernel
theorem dX9_book_85 : decode cX9_book 85 = .ok (.putfield 258, 3) := by decide +kernel
theorem dX9_book_88 : decode cX9_book 88 = .ok (.aload_n 0, 1) := by decide +kernel
theorem dX9_book_89 : decode cX9_book 89 = .ok (.getfield 258, 3) := by decide +kernel
theorem dX9_book_92 : decode cX9_book 92 = .ok (.ireturn, 1) := by decide +kernel
set_option maxRecDepth 20000 in
theorem ggX9_looked_X9_areTwo : GoodIn wsX9_looked wsX9_areTwo := goodIn_r _ [9, 10, 11, 12, 8, 13, 14, 15, 16, 17, 23, 24, 25, 26, 27, 28, 29, 30, 31, 32, 33, 34, 35, 36, 37, 38, 39, 40, 41, 42, 43, 44, 45, 46, 47, 48, 49, 50, 51, 52, 53, 54, 55, 56, 57] (by decide +kernel) (by decide +kernel)
set_option maxRecDepth 20000 in
theorem gX9_looked_X9_areTwo : GoodIn wsX9_looked (wsV RX9 107 RX9 yX9_areTwo wsX9_areTwo) := goodIn_app (goodIn_of _ (by decide +kernel)) ggX9_looked_X9_areTwo
set_option maxRecDepth 20000 in
theorem ggX9_looked_X9_d : GoodIn wsX9_looked wsX9_d := goodIn_r _ [21, 22, 23, 24, 25, 26, 27, 28, 29, 30, 31, 32, 33, 34, 35, 36, 37, 38, 39, 40, 41, 42, 43, 44, 45, 46, 47, 48, 49, 50, 51, 52, 53, 54, 55, 56, 57] (by decide +kernel) (by decide +kernel)
set_option maxRecDepth 20000 in
theorem gX9_looked_X9_d : GoodIn wsX9_looked (wsV RX9 111 RX9 yX9_d wsX9_d) := goodIn_app (goodIn_of _ (by decide +kernel)) ggX9_looked_X9_d
theorem dX9_looked_0 : decode cX9_looked 0 = .ok (.iconst 0, 1) := by decide +kernel
theorem dX9_looked_1 : decode cX9_looked 1 = .ok (.istore_n 1, 1) := by decide +kernel
theorem dX9_looked_2 : decode cX9_looked 2 = .ok (.iload_n 1, 1) := by decide +kernel
theorem dX9_looked_3 : decode cX9_looked 3 = .ok (.aload_n 0, 1) := by decide +kernel
theorem dX9_looked_4 : decode cX9_looked 4 = .ok (.getfield 258, 3) := by decide +kernel
theorem dX9_looked_7 : decode cX9_looked 7 = .ok (.if_icmp .ge 55, 3) := by decide +kernel
theorem dX9_looked_10 : decode cX9_looked 10 = .ok (.aload_n 0, 1) := by decide +kernel
theorem dX9_looked_11 : decode cX9_looked 11 = .ok (.aload_n 0, 1) := by decide +kernel
theorem dX9_looked_12 : decode cX9_looked 12 = .ok (.getfield 37, 3) := by decide +kernel
theorem dX9_looked_15 : decode cX9_looked 15 = .ok (.iload_n 1, 1) := by decide +kernel
theorem dX9_looked_16 : decode cX9_looked 16 = .ok (.iaload, 1) := by decide +kernel
theorem dX9_looked_17 : decode cX9_looked 17 = .ok (.aload_n 0, 1) := by decide +kernel
theorem dX9_looked_18 : decode cX9_looked 18 = .ok (.getfield 40, 3) := by decide +kernel
theorem dX9_looked_21 : decode cX9_looked 21 = .ok (.iload_n 1, 1) := by decide +kernel
theorem dX9_looked_22 : decode cX9_looked 22 = .ok (.iaload, 1) := by decide +kernel
theorem dX9_looked_23 : decode cX9_looked 23 = .ok (.invokevirtual 107, 3) := by decide +kernel
theorem dX9_looked_26 : decode cX9_looked 26 = .ok (.ifCond .eq 28, 3) := by decide +kernel
theorem dX9_looked_29 : decode cX9_looked 29 = .ok (.aload_n 0, 1) := by decide +kernel
theorem dX9_looked_30 : decode cX9_looked 30 = .ok (.aload_n 0, 1) := by decide +kernel
theorem dX9_looked_31 : decode cX9_looked 31 = .ok (.getfield 37, 3) := by decide +kernel
theorem dX9_looked_34 : decode cX9_looked 34 = .ok (.iload_n 1, 1) := by decide +kernel
theorem dX9_looked_35 : decode cX9_looked 35 = .ok (.iaload, 1) := by decide +kernel
theorem dX9_looked_36 : decode cX9_looked 36 = .ok (.aload_n 0, 1) := by decide +kernel
theorem dX9_looked_37 : decode cX9_looked 37 = .ok (.getfield 40, 3) := by decide +kernel
theorem dX9_looked_40 : decode cX9_looked 40 = .ok (.iload_n 1, 1) := by decide +kernel
theorem dX9_looked_41 : decode cX9_looked 41 = .ok (.iaload, 1) := by decide +kernel
theorem dX9_looked_42 : decode cX9_looked 42 = .ok (.invokevirtual 111, 3) := by decide +kernel
theorem dX9_looked_45 : decode cX9_looked 45 = .ok (.aload_n 0, 1) := by decide +kernel
theorem dX9_looked_46 : decode cX9_looked 46 = .ok (.getfield 43, 3) := by decide +kernel
theorem dX9_looked_49 : decode cX9_looked 49 = .ok (.iload_n 1, 1) := by decide +kernel
theorem dX9_looked_50 : decode cX9_looked 50 = .ok (.iaload, 1) := by decide +kernel
theorem dX9_looked_51 : decode cX9_looked 51 = .ok (.if_icmp .eq 5, 3) := by decide +kernel
theorem dX9_looked_54 : decode cX9_looked 54 = .ok (.iload_n 1, 1) := by decide +kernel
theorem dX9_looked_55 : decode cX9_looked 55 = .ok (.ireturn, 1) := by decide +kernel
theorem dX9_looked_56 : decode cX9_looked 56 = .ok (.iinc 1 1, 3) := by decide +kernel
theorem dX9_looked_59 : decode cX9_looked 59 = .ok (.goto (-57), 3) := by decide +kernel
theorem dX9_looked_62 : decode cX9_looked 62 = .ok (.bipush (-5), 2) := by decide +kernel
theorem dX9_looked_64 : decode cX9_looked 64 = .ok (.ireturn, 1) := by decide +kernel
set_option maxRecDepth 20000 in
theorem ggX9_feed_X9_in : GoodIn wsX9_feed wsX9_in := goodIn_r _ [6] (by decide +kernel) (by decide +kernel)
set_option maxRecDepth 20000 in
theorem gX9_feed_X9_in : GoodIn wsX9_feed (va_wsS RX9 95 yX9_in wsX9_in) := goodIn_app (goodIn_of _ (by decide +kernel)) ggX9_feed_X9_in
theorem dX9_feed_0 : decode cX9_feed 0 = .ok (.iload_n 1, 1) := by decide +kernel
theorem dX9_feed_1 : decode cX9_feed 1 = .ok (.iconst 0, 1) := by decide +kernel
theorem dX9_feed_2 : decode cX9_feed 2 = .ok (.bipush 127, 2) := by decide +kernel
theorem dX9_feed_4 : decode cX9_feed 4 = .ok (.invokestatic 95, 3) := by decide +kernel
theorem dX9_feed_7 : decode cX9_feed 7 = .ok (.ifCond .ne 6, 3) := by decide +kernel
theorem dX9_feed_10 : decode cX9_feed 10 = .ok (.bipush (-2), 2) := by decide +kernel
theorem dX9_feed_12 : decode cX9_feed 12 = .ok (.ireturn, 1) := by decide +kernel
theorem dX9_feed_13 : decode cX9_feed 13 = .ok (.aload_n 0, 1) := by decide +kernel
theorem dX9_feed_14 : decode cX9_feed 14 = .ok (.getfield 261, 3) := by decide +kernel
theorem dX9_feed_17 : decode cX9_feed 17 = .ok (.bipush 100, 2) := by decide +kernel
theorem dX9_feed_19 : decode cX9_feed 19 = .ok (.if_icmp .ne 6, 3) := by decide +kernel
theorem dX9_feed_22 : decode cX9_feed 22 = .ok (.bipush (-4), 2) := by decide +kernel
theorem dX9_feed_24 : decode cX9_feed 24 = .ok (.ireturn, 1) := by decide +kernel
theorem dX9_feed_25 : decode cX9_feed 25 = .ok (.aload_n 0, 1) := by decide +kernel
theorem dX9_feed_26 : decode cX9_feed 26 = .ok (.getfield 46, 3) := by decide +kernel
theorem dX9_feed_29 : decode cX9_feed 29 = .ok (.aload_n 0, 1) := by decide +kernel
theorem dX9_feed_30 : decode cX9_feed 30 = .ok (.getfield 261, 3) := by decide +kernel
theorem dX9_feed_33 : decode cX9_feed 33 = .ok (.iload_n 1, 1) := by decide +kernel
theorem dX9_feed_34 : decode cX9_feed 34 = .ok (.iastore, 1) := by decide +kernel
theorem dX9_feed_35 : decode cX9_feed 35 = .ok (.aload_n 0, 1) := by decide +kernel
theorem dX9_feed_36 : decode cX9_feed 36 = .ok (.dup, 1) := by decide +kernel
theorem dX9_feed_37 : decode cX9_feed 37 = .ok (.getfield 261, 3) := by decide +kernel
theorem dX9_feed_40 : decode cX9_feed 40 = .ok (.iconst 1, 1) := by decide +kernel
theorem dX9_feed_41 : decode cX9_feed 41 = .ok (.iadd, 1) := by decide +kernel
theorem dX9_feed_42 : decode cX9_feed 42 = .ok (.putfield 261, 3) := by decide +kernel
theorem dX9_feed_45 : decode cX9_feed 45 = .ok (.aload_n 0, 1) := by decide +kernel
theorem dX9_feed_46 : decode cX9_feed 46 = .ok (.getfield 261, 3) := by decide +kernel
theorem dX9_feed_49 : decode cX9_feed 49 = .ok (.ireturn, 1) := by decide +kernel
set_option maxRecDepth 20000 in
theorem ggX9_isDigit_X9_in : GoodIn wsX9_isDigit wsX9_in := goodIn_r _ [7] (by decide +kernel) (by decide +kernel)
set_option maxRecDepth 20000 in
theorem gX9_isDigit_X9_in : GoodIn wsX9_isDigit (va_wsS RX9 95 yX9_in wsX9_in) := goodIn_app (goodIn_of _ (by decide +kernel)) ggX9_isDigit_X9_in
theorem dX9_isDigit_0 : decode cX9_isDigit 0 = .ok (.aload_n 0, 1) := by decide +kernel
theorem dX9_isDigit_1 : decode cX9_isDigit 1 = .ok (.getfield 264, 3) := by decide +kernel
theorem dX9_isDigit_4 : decode cX9_isDigit 4 = .ok (.aload_n 0, 1) := by decide +kernel
theorem dX9_isDigit_5 : decode cX9_isDigit 5 = .ok (.getfield 261, 3) := by decide +kernel
theorem dX9_isDigit_8 : decode cX9_isDigit 8 = .ok (.if_icmp .ge 26, 3) := by decide +kernel
theorem dX9_isDigit_11 : decode cX9_isDigit 11 = .ok (.aload_n 0, 1) := by decide +kernel
theorem dX9_isDigit_12 : decode cX9_isDigit 12 = .ok (.getfield 46, 3) := by decide +kernel
theorem dX9_isDigit_15 : decode cX9_isDigit 15 = .ok (.aload_n 0, 1) := by decide +kernel
theorem dX9_isDigit_16 : decode cX9_isDigit 16 = .ok (.getfield 264, 3) := by decide +kernel
theorem dX9_isDigit_19 : decode cX9_isDigit 19 = .ok (.iaload, 1) := by decide +kernel
theorem dX9_isDigit_20 : decode cX9_isDigit 20 = .ok (.bipush 48, 2) := by decide +kernel
theorem dX9_isDigit_22 : decode cX9_isDigit 22 = .ok (.bipush 57, 2) := by decide +kernel
theorem dX9_isDigit_24 : decode cX9_isDigit 24 = .ok (.invokestatic 95, 3) := by decide +kernel
theorem dX9_isDigit_27 : decode cX9_isDigit 27 = .ok (.ifCond .eq 7, 3) := by decide +kernel
theorem dX9_isDigit_30 : decode cX9_isDigit 30 = .ok (.iconst 1, 1) := by decide +kernel
theorem dX9_isDigit_31 : decode cX9_isDigit 31 = .ok (.goto 4, 3) := by decide +kernel
theorem dX9_isDigit_34 : decode cX9_isDigit 34 = .ok (.iconst 0, 1) := by decide +kernel
theorem dX9_isDigit_35 : decode cX9_isDigit 35 = .ok (.ireturn, 1) := by decide +kernel
theorem dX9_takes_0 : decode cX9_takes 0 = .ok (.aload_n 0, 1) := by decide +kernel
theorem dX9_takes_1 : decode cX9_takes 1 = .ok (.getfield 264, 3) := by decide +kernel
theorem dX9_takes_4 : decode cX9_takes 4 = .ok (.aload_n 0, 1) := by decide +kernel
theorem dX9_takes_5 : decode cX9_takes 5 = .ok (.getfield 261, 3) := by decide +kernel
theorem dX9_takes_8 : decode cX9_takes 8 = .ok (.if_icmp .eq 16, 3) := by decide +kernel
theorem dX9_takes_11 : decode cX9_takes 11 = .ok (.aload_n 0, 1) := by decide +kernel
theorem dX9_takes_12 : decode cX9_takes 12 = .ok (.getfield 46, 3) := by decide +kernel
theorem dX9_takes_15 : decode cX9_takes 15 = .ok (.aload_n 0, 1) := by decide +kernel
theorem dX9_takes_16 : decode cX9_takes 16 = .ok (.getfield 264, 3) := by decide +kernel
theorem dX9_takes_19 : decode cX9_takes 19 = .ok (.iaload, 1) := by decide +kernel
theorem dX9_takes_20 : decode cX9_takes 20 = .ok (.iload_n 1, 1) := by decide +kernel
theorem dX9_takes_21 : decode cX9_takes 21 = .ok (.if_icmp .eq 5, 3) := by decide +kernel
theorem dX9_takes_24 : decode cX9_takes 24 = .ok (.iconst 0, 1) := by decide +kernel
theorem dX9_takes_25 : decode cX9_takes 25 = .ok (.ireturn, 1) := by decide +kernel
theorem dX9_takes_26 : decode cX9_takes 26 = .ok (.aload_n 0, 1) := by decide +kernel
theorem dX9_takes_27 : decode cX9_takes 27 = .ok (.dup, 1) := by decide +kernel
theorem dX9_takes_28 : decode cX9_takes 28 = .ok (.getfield 264, 3) := by decide +kernel
theorem dX9_takes_31 : decode cX9_takes 31 = .ok (.iconst 1, 1) := by decide +kernel
theorem dX9_takes_32 : decode cX9_takes 32 = .ok (.iadd, 1) := by decide +kernel
theorem dX9_takes_33 : decode cX9_takes 33 = .ok (.putfield 264, 3) := by decide +kernel
theorem dX9_takes_36 : decode cX9_takes 36 = .ok (.iconst 1, 1) := by decide +kernel
theorem dX9_takes_37 : decode cX9_takes 37 = .ok (.ireturn, 1) := by decide +kernel
theorem dX9_digit_0 : decode cX9_digit 0 = .ok (.aload_n 0, 1) := by decide +kernel
theorem dX9_digit_1 : decode cX9_digit 1 = .ok (.dup, 1) := by decide +kernel
theorem dX9_digit_2 : decode cX9_digit 2 = .ok (.getfield 264, 3) := by decide +kernel
theorem dX9_digit_5 : decode cX9_digit 5 = .ok (.iconst 1, 1) := by decide +kernel
theorem dX9_digit_6 : decode cX9_digit 6 = .ok (.iadd, 1) := by decide +kernel
theorem dX9_digit_7 : decode cX9_digit 7 = .ok (.putfield 264, 3) := by decide +kernel
theorem dX9_digit_10 : decode cX9_digit 10 = .ok (.aload_n 0, 1) := by decide +kernel
theorem dX9_digit_11 : decode cX9_digit 11 = .ok (.getfield 46, 3) := by decide +kernel
theorem dX9_digit_14 : decode cX9_digit 14 = .ok (.aload_n 0, 1) := by decide +kernel
theorem dX9_digit_15 : decode cX9_digit 15 = .ok (.getfield 264, 3) := by decide +kernel
theorem dX9_digit_18 : decode cX9_digit 18 = .ok (.iconst 1, 1) := by decide +kernel
theorem dX9_digit_19 : decode cX9_digit 19 = .ok (.isub, 1) := by decide +kernel
theorem dX9_digit_20 : decode cX9_digit 20 = .ok (.iaload, 1) := by decide +kernel
theorem dX9_digit_21 : decode cX9_digit 21 = .ok (.bipush 48, 2) := by decide +kernel
theorem dX9_digit_23 : decode cX9_digit 23 = .ok (.isub, 1) := by decide +kernel
theorem dX9_digit_24 : decode cX9_digit 24 = .ok (.ireturn, 1) := by decide +kernel
set_option maxRecDepth 20000 in
theorem ggX9_readNumber_X9_isDigit : GoodIn wsX9_readNumber wsX9_isDigit := goodIn_r _ [7, 8, 9, 10, 11, 12, 6, 13, 18, 19, 20, 21, 22, 23, 24, 25, 26, 27, 28, 29, 30, 31, 32, 33, 34, 35, 36, 37, 38, 39, 40, 41, 42, 43, 44, 45, 46, 47, 48, 49, 50, 51, 52] (by decide +kernel) (by decide +kernel)
set_option maxRecDepth 20000 in
theorem gX9_readNumber_X9_isDigit : GoodIn wsX9_readNumber (wsV RX9 267 RX9 yX9_isDigit wsX9_isDigit) := goodIn_app (goodIn_of _ (by decide +kernel)) ggX9_readNumber_X9_isDigit
set_option maxRecDepth 20000 in
theorem ggX9_readNumber_X9_digit : GoodIn wsX9_readNumber wsX9_digit := goodIn_r _ [17, 8, 10, 18, 19, 20, 21, 22, 23, 24, 25, 26, 27, 28, 29, 30, 31, 32, 33, 34, 35, 36, 37, 38, 39, 40, 41, 42, 43, 44, 45, 46, 47, 48, 49, 50, 51, 52] (by decide +kernel) (by decide +kernel)
set_option maxRecDepth 20000 in
theorem gX9_readNumber_X9_digit : GoodIn wsX9_readNumber (wsV RX9 270 RX9 yX9_digit wsX9_digit) := goodIn_app (goodIn_of _ (by decide +kernel)) ggX9_readNumber_X9_digit
theorem dX9_readNumber_0 : decode cX9_readNumber 0 = .ok (.aload_n 0, 1) := by decide +kernel
theorem dX9_readNumber_1 : decode cX9_readNumber 1 = .ok (.invokevirtual 267, 3) := by decide +kernel
theorem dX9_readNumber_4 : decode cX9_readNumber 4 = .ok (.ifCond .ne 5, 3) := by decide +kernel
theorem dX9_readNumber_7 : decode cX9_readNumber 7 = .ok (.iconst 0, 1) := by decide +kernel
theorem dX9_readNumber_8 : decode cX9_readNumber 8 = .ok (.ireturn, 1) := by decide +kernel
theorem dX9_readNumber_9 : decode cX9_readNumber 9 = .ok (.aload_n 0, 1) := by decide +kernel
theorem dX9_readNumber_10 : decode cX9_readNumber 10 = .ok (.invokevirtual 270, 3) := by decide +kernel
theorem dX9_readNumber_13 : decode cX9_readNumber 13 = .ok (.istore_n 1, 1) := by decide +kernel
theorem dX9_readNumber_14 : decode cX9_readNumber 14 = .ok (.aload_n 0, 1) := by decide +kernel
theorem dX9_readNumber_15 : decode cX9_readNumber 15 = .ok (.getfield 89, 3) := by decide +kernel
theorem dX9_readNumber_18 : decode cX9_readNumber 18 = .ok (.aload_n 0, 1) := by decide +kernel
theorem dX9_readNumber_19 : decode cX9_readNumber 19 = .ok (.getfield 273, 3) := by decide +kernel
theorem dX9_readNumber_22 : decode cX9_readNumber 22 = .ok (.aload_n 0, 1) := by decide +kernel
theorem dX9_readNumber_23 : decode cX9_readNumber 23 = .ok (.invokevirtual 267, 3) := by decide +kernel
theorem dX9_readNumber_26 : decode cX9_readNumber 26 = .ok (.ifCond .eq 15, 3) := by decide +kernel
theorem dX9_readNumber_29 : decode cX9_readNumber 29 = .ok (.bipush 10, 2) := by decide +kernel
theorem dX9_readNumber_31 : decode cX9_readNumber 31 = .ok (.iload_n 1, 1) := by decide +kernel
theorem dX9_readNumber_32 : decode cX9_readNumber 32 = .ok (.imul, 1) := by decide +kernel
theorem dX9_readNumber_33 : decode cX9_readNumber 33 = .ok (.aload_n 0, 1) := by decide +kernel
theorem dX9_readNumber_34 : decode cX9_readNumber 34 = .ok (.invokevirtual 270, 3) := by decide +kernel
theorem dX9_readNumber_37 : decode cX9_readNumber 37 = .ok (.iadd, 1) := by decide +kernel
theorem dX9_readNumber_38 : decode cX9_readNumber 38 = .ok (.goto 4, 3) := by decide +kernel
theorem dX9_readNumber_41 : decode cX9_readNumber 41 = .ok (.iload_n 1, 1) := by decide +kernel
theorem dX9_readNumber_42 : decode cX9_readNumber 42 = .ok (.iastore, 1) := by decide +kernel
theorem dX9_readNumber_43 : decode cX9_readNumber 43 = .ok (.iconst 1, 1) := by decide +kernel
theorem dX9_readNumber_44 : decode cX9_readNumber 44 = .ok (.ireturn, 1) := by decide +kernel
set_option maxRecDepth 20000 in
theorem ggX9_readClause_X9_readNumber : GoodIn wsX9_readClause wsX9_readNumber := goodIn_r _ [12, 13, 5, 14, 15, 16, 11, 17, 1, 2, 3, 18, 19, 20, 21, 22, 23, 24, 29, 30, 31, 32, 33, 34, 35, 36, 37, 38, 39, 40, 41, 42, 43, 44, 45, 46, 47, 48, 49, 50, 51, 52, 53, 54, 55, 56, 57, 58, 59, 60, 61, 62, 63] (by decide +kernel) (by decide +kernel)
set_option maxRecDepth 20000 in
theorem gX9_readClause_X9_readNumber : GoodIn wsX9_readClause (wsV RX9 276 RX9 yX9_readNumber wsX9_readNumber) := goodIn_app (goodIn_of _ (by decide +kernel)) ggX9_readClause_X9_readNumber
set_option maxRecDepth 20000 in
theorem ggX9_readClause_X9_isDigit : GoodIn wsX9_readClause wsX9_isDigit := goodIn_r _ [17, 1, 2, 3, 18, 19, 11, 20, 29, 30, 31, 32, 33, 34, 35, 36, 37, 38, 39, 40, 41, 42, 43, 44, 45, 46, 47, 48, 49, 50, 51, 52, 53, 54, 55, 56, 57, 58, 59, 60, 61, 62, 63] (by decide +kernel) (by decide +kernel)
set_option maxRecDepth 20000 in
theorem gX9_readClause_X9_isDigit : GoodIn wsX9_readClause (wsV RX9 267 RX9 yX9_isDigit wsX9_isDigit) := goodIn_app (goodIn_of _ (by decide +kernel)) ggX9_readClause_X9_isDigit
set_option maxRecDepth 20000 in
theorem ggX9_readClause_X9_digit : GoodIn wsX9_readClause wsX9_digit := goodIn_r _ [24, 1, 3, 29, 30, 31, 32, 33, 34, 35, 36, 37, 38, 39, 40, 41, 42, 43, 44, 45, 46, 47, 48, 49, 50, 51, 52, 53, 54, 55, 56, 57, 58, 59, 60, 61, 62, 63] (by decide +kernel) (by decide +kernel)
set_option maxRecDepth 20000 in
theorem gX9_readClause_X9_digit : GoodIn wsX9_readClause (wsV RX9 270 RX9 yX9_digit wsX9_digit) := goodIn_app (goodIn_of _ (by decide +kernel)) ggX9_readClause_X9_digit
set_option maxRecDepth 20000 in
theorem ggX9_readClause_X9_takes : GoodIn wsX9_readClause wsX9_takes := goodIn_r _ [28, 1, 2, 3, 29, 30, 31, 32, 33, 34, 35, 36, 37, 38, 39, 40, 41, 42, 43, 44, 45, 46, 47, 48, 49, 50, 51, 52, 53, 54, 55, 56, 57, 58, 59, 60, 61, 62, 63] (by decide +kernel) (by decide +kernel)
set_option maxRecDepth 20000 in
theorem gX9_readClause_X9_takes : GoodIn wsX9_readClause (wsV RX9 279 RX9 yX9_takes wsX9_takes) := goodIn_app (goodIn_of _ (by decide +kernel)) ggX9_readClause_X9_takes
theorem dX9_readClause_0 : decode cX9_readClause 0 = .ok (.aload_n 0, 1) := by decide +kernel
theorem dX9_readClause_1 : decode cX9_readClause 1 = .ok (.getfield 264, 3) := by decide +kernel
theorem dX9_readClause_4 : decode cX9_readClause 4 = .ok (.aload_n 0, 1) := by decide +kernel
theorem dX9_readClause_5 : decode cX9_readClause 5 = .ok (.getfield 261, 3) := by decide +kernel
theorem dX9_readClause_8 : decode cX9_readClause 8 = .ok (.if_icmp .ge 15, 3) := by decide +kernel
theorem dX9_readClause_11 : decode cX9_readClause 11 = .ok (.aload_n 0, 1) := by decide +kernel
theorem dX9_readClause_12 : decode cX9_readClause 12 = .ok (.getfield 46, 3) := by decide +kernel
theorem dX9_readClause_15 : decode cX9_readClause 15 = .ok (.aload_n 0, 1) := by decide +kernel
theorem dX9_readClause_16 : decode cX9_readClause 16 = .ok (.getfield 264, 3) := by decide +kernel
theorem dX9_readClause_19 : decode cX9_readClause 19 = .ok (.iaload, 1) := by decide +kernel
theorem dX9_readClause_20 : decode cX9_readClause 20 = .ok (.goto 4, 3) := by decide +kernel
theorem dX9_readClause_23 : decode cX9_readClause 23 = .ok (.iconst 0, 1) := by decide +kernel
theorem dX9_readClause_24 : decode cX9_readClause 24 = .ok (.istore_n 1, 1) := by decide +kernel
theorem dX9_readClause_25 : decode cX9_readClause 25 = .ok (.iload_n 1, 1) := by decide +kernel
theorem dX9_readClause_26 : decode cX9_readClause 26 = .ok (.bipush 110, 2) := by decide +kernel
theorem dX9_readClause_28 : decode cX9_readClause 28 = .ok (.if_icmp .eq 29, 3) := by decide +kernel
theorem dX9_readClause_31 : decode cX9_readClause 31 = .ok (.iload_n 1, 1) := by decide +kernel
theorem dX9_readClause_32 : decode cX9_readClause 32 = .ok (.bipush 100, 2) := by decide +kernel
theorem dX9_readClause_34 : decode cX9_readClause 34 = .ok (.if_icmp .eq 23, 3) := by decide +kernel
theorem dX9_readClause_37 : decode cX9_readClause 37 = .ok (.iload_n 1, 1) := by decide +kernel
theorem dX9_readClause_38 : decode cX9_readClause 38 = .ok (.bipush 115, 2) := by decide +kernel
theorem dX9_readClause_40 : decode cX9_readClause 40 = .ok (.if_icmp .eq 17, 3) := by decide +kernel
theorem dX9_readClause_43 : decode cX9_readClause 43 = .ok (.iload_n 1, 1) := by decide +kernel
theorem dX9_readClause_44 : decode cX9_readClause 44 = .ok (.bipush 109, 2) := by decide +kernel
theorem dX9_readClause_46 : decode cX9_readClause 46 = .ok (.if_icmp .eq 11, 3) := by decide +kernel
theorem dX9_readClause_49 : decode cX9_readClause 49 = .ok (.iload_n 1, 1) := by decide +kernel
theorem dX9_readClause_50 : decode cX9_readClause 50 = .ok (.bipush 104, 2) := by decide +kernel
theorem dX9_readClause_52 : decode cX9_readClause 52 = .ok (.if_icmp .eq 5, 3) := by decide +kernel
theorem dX9_readClause_55 : decode cX9_readClause 55 = .ok (.iconst 0, 1) := by decide +kernel
theorem dX9_readClause_56 : decode cX9_readClause 56 = .ok (.ireturn, 1) := by decide +kernel
theorem dX9_readClause_57 : decode cX9_readClause 57 = .ok (.aload_n 0, 1) := by decide +kernel
theorem dX9_readClause_58 : decode cX9_readClause 58 = .ok (.dup, 1) := by decide +kernel
theorem dX9_readClause_59 : decode cX9_readClause 59 = .ok (.getfield 264, 3) := by decide +kernel
theorem dX9_readClause_62 : decode cX9_readClause 62 = .ok (.iconst 1, 1) := by decide +kernel
theorem dX9_readClause_63 : decode cX9_readClause 63 = .ok (.iadd, 1) := by decide +kernel
theorem dX9_readClause_64 : decode cX9_readClause 64 = .ok (.putfield 264, 3) := by decide +kernel
theorem dX9_readClause_67 : decode cX9_readClause 67 = .ok (.aload_n 0, 1) := by decide +kernel
theorem dX9_readClause_68 : decode cX9_readClause 68 = .ok (.getfield 80, 3) := by decide +kernel
theorem dX9_readClause_71 : decode cX9_readClause 71 = .ok (.aload_n 0, 1) := by decide +kernel
theorem dX9_readClause_72 : decode cX9_readClause 72 = .ok (.getfield 273, 3) := by decide +kernel
theorem dX9_readClause_75 : decode cX9_readClause 75 = .ok (.iload_n 1, 1) := by decide +kernel
theorem dX9_readClause_76 : decode cX9_readClause 76 = .ok (.iastore, 1) := by decide +kernel
theorem dX9_readClause_77 : decode cX9_readClause 77 = .ok (.iload_n 1, 1) := by decide +kernel
theorem dX9_readClause_78 : decode cX9_readClause 78 = .ok (.bipush 104, 2) := by decide +kernel
theorem dX9_readClause_80 : decode cX9_readClause 80 = .ok (.if_icmp .ne 5, 3) := by decide +kernel
theorem dX9_readClause_83 : decode cX9_readClause 83 = .ok (.iconst 1, 1) := by decide +kernel
theorem dX9_readClause_84 : decode cX9_readClause 84 = .ok (.ireturn, 1) := by decide +kernel
theorem dX9_readClause_85 : decode cX9_readClause 85 = .ok (.iload_n 1, 1) := by decide +kernel
theorem dX9_readClause_86 : decode cX9_readClause 86 = .ok (.bipush 109, 2) := by decide +kernel
theorem dX9_readClause_88 : decode cX9_readClause 88 = .ok (.if_icmp .ne 8, 3) := by decide +kernel
theorem dX9_readClause_91 : decode cX9_readClause 91 = .ok (.aload_n 0, 1) := by decide +kernel
theorem dX9_readClause_92 : decode cX9_readClause 92 = .ok (.invokevirtual 276, 3) := by decide +kernel
theorem dX9_readClause_95 : decode cX9_readClause 95 = .ok (.ireturn, 1) := by decide +kernel
theorem dX9_readClause_96 : decode cX9_readClause 96 = .ok (.aload_n 0, 1) := by decide +kernel
theorem dX9_readClause_97 : decode cX9_readClause 97 = .ok (.invokevirtual 267, 3) := by decide +kernel
theorem dX9_readClause_100 : decode cX9_readClause 100 = .ok (.ifCond .ne 5, 3) := by decide +kernel
theorem dX9_readClause_103 : decode cX9_readClause 103 = .ok (.iconst 0, 1) := by decide +kernel
theorem dX9_readClause_104 : decode cX9_readClause 104 = .ok (.ireturn, 1) := by decide +kernel
theorem dX9_readClause_105 : decode cX9_readClause 105 = .ok (.aload_n 0, 1) := by decide +kernel
theorem dX9_readClause_106 : decode cX9_readClause 106 = .ok (.getfield 83, 3) := by decide +kernel
theorem dX9_readClause_109 : decode cX9_readClause 109 = .ok (.aload_n 0, 1) := by decide +kernel
theorem dX9_readClause_110 : decode cX9_readClause 110 = .ok (.getfield 273, 3) := by decide +kernel
theorem dX9_readClause_113 : decode cX9_readClause 113 = .ok (.aload_n 0, 1) := by decide +kernel
theorem dX9_readClause_114 : decode cX9_readClause 114 = .ok (.invokevirtual 270, 3) := by decide +kernel
theorem dX9_readClause_117 : decode cX9_readClause 117 = .ok (.iastore, 1) := by decide +kernel
theorem dX9_readClause_118 : decode cX9_readClause 118 = .ok (.iload_n 1, 1) := by decide +kernel
theorem dX9_readClause_119 : decode cX9_readClause 119 = .ok (.bipush 110, 2) := by decide +kernel
theorem dX9_readClause_121 : decode cX9_readClause 121 = .ok (.if_icmp .ne 5, 3) := by decide +kernel
theorem dX9_readClause_124 : decode cX9_readClause 124 = .ok (.iconst 1, 1) := by decide +kernel
theorem dX9_readClause_125 : decode cX9_readClause 125 = .ok (.ireturn, 1) := by decide +kernel
theorem dX9_readClause_126 : decode cX9_readClause 126 = .ok (.iload_n 1, 1) := by decide +kernel
theorem dX9_readClause_127 : decode cX9_readClause 127 = .ok (.bipush 100, 2) := by decide +kernel
theorem dX9_readClause_129 : decode cX9_readClause 129 = .ok (.if_icmp .ne 30, 3) := by decide +kernel
theorem dX9_readClause_132 : decode cX9_readClause 132 = .ok (.aload_n 0, 1) := by decide +kernel
theorem dX9_readClause_133 : decode cX9_readClause 133 = .ok (.invokevirtual 267, 3) := by decide +kernel
theorem dX9_readClause_136 : decode cX9_readClause 136 = .ok (.ifCond .ne 5, 3) := by decide +kernel
theorem dX9_readClause_139 : decode cX9_readClause 139 = .ok (.iconst 0, 1) := by decide +kernel
theorem dX9_readClause_140 : decode cX9_readClause 140 = .ok (.ireturn, 1) := by decide +kernel
theorem dX9_readClause_141 : decode cX9_readClause 141 = .ok (.aload_n 0, 1) := by decide +kernel
theorem dX9_readClause_142 : decode cX9_readClause 142 = .ok (.getfield 86, 3) := by decide +kernel
theorem dX9_readClause_145 : decode cX9_readClause 145 = .ok (.aload_n 0, 1) := by decide +kernel
theorem dX9_readClause_146 : decode cX9_readClause 146 = .ok (.getfield 273, 3) := by decide +kernel
theorem dX9_readClause_149 : decode cX9_readClause 149 = .ok (.aload_n 0, 1) := by decide +kernel
theorem dX9_readClause_150 : decode cX9_readClause 150 = .ok (.invokevirtual 270, 3) := by decide +kernel
theorem dX9_readClause_153 : decode cX9_readClause 153 = .ok (.iastore, 1) := by decide +kernel
theorem dX9_readClause_154 : decode cX9_readClause 154 = .ok (.aload_n 0, 1) := by decide +kernel
theorem dX9_readClause_155 : decode cX9_readClause 155 = .ok (.invokevirtual 276, 3) := by decide +kernel
theorem dX9_readClause_158 : decode cX9_readClause 158 = .ok (.ireturn, 1) := by decide +kernel
theorem dX9_readClause_159 : decode cX9_readClause 159 = .ok (.aload_n 0, 1) := by decide +kernel
theorem dX9_readClause_160 : decode cX9_readClause 160 = .ok (.getfield 83, 3) := by decide +kernel
theorem dX9_readClause_163 : decode cX9_readClause 163 = .ok (.aload_n 0, 1) := by decide +kernel
theorem dX9_readClause_164 : decode cX9_readClause 164 = .ok (.getfield 273, 3) := by decide +kernel
theorem dX9_readClause_167 : decode cX9_readClause 167 = .ok (.iconst 1, 1) := by decide +kernel
theorem dX9_readClause_168 : decode cX9_readClause 168 = .ok (.aload_n 0, 1) := by decide +kernel
theorem dX9_readClause_169 : decode cX9_readClause 169 = .ok (.getfield 83, 3) := by decide +kernel
theorem dX9_readClause_172 : decode cX9_readClause 172 = .ok (.aload_n 0, 1) := by decide +kernel
theorem dX9_readClause_173 : decode cX9_readClause 173 = .ok (.getfield 273, 3) := by decide +kernel
theorem dX9_readClause_176 : decode cX9_readClause 176 = .ok (.iaload, 1) := by decide +kernel
theorem dX9_readClause_177 : decode cX9_readClause 177 = .ok (.ishl, 1) := by decide +kernel
theorem dX9_readClause_178 : decode cX9_readClause 178 = .ok (.iastore, 1) := by decide +kernel
theorem dX9_readClause_179 : decode cX9_readClause 179 = .ok (.iconst 0, 1) := by decide +kernel
theorem dX9_readClause_180 : decode cX9_readClause 180 = .ok (.istore_n 2, 1) := by decide +kernel
theorem dX9_readClause_181 : decode cX9_readClause 181 = .ok (.iload_n 2, 1) := by decide +kernel
theorem dX9_readClause_182 : decode cX9_readClause 182 = .ok (.iconst 3, 1) := by decide +kernel
theorem dX9_readClause_183 : decode cX9_readClause 183 = .ok (.if_icmp .ge 34, 3) := by decide +kernel
theorem dX9_readClause_186 : decode cX9_readClause 186 = .ok (.aload_n 0, 1) := by decide +kernel
theorem dX9_readClause_187 : decode cX9_readClause 187 = .ok (.invokevirtual 267, 3) := by decide +kernel
theorem dX9_readClause_190 : decode cX9_readClause 190 = .ok (.ifCond .eq 27, 3) := by decide +kernel
theorem dX9_readClause_193 : decode cX9_readClause 193 = .ok (.aload_n 0, 1) := by decide +kernel
theorem dX9_readClause_194 : decode cX9_readClause 194 = .ok (.getfield 83, 3) := by decide +kernel
theorem dX9_readClause_197 : decode cX9_readClause 197 = .ok (.aload_n 0, 1) := by decide +kernel
theorem dX9_readClause_198 : decode cX9_readClause 198 = .ok (.getfield 273, 3) := by decide +kernel
theorem dX9_readClause_201 : decode cX9_readClause 201 = .ok (.dup2, 1) := by decide +kernel
theorem dX9_readClause_202 : decode cX9_readClause 202 = .ok (.iaload, 1) := by decide +kernel
theorem dX9_readClause_203 : decode cX9_readClause 203 = .ok (.iconst 1, 1) := by decide +kernel
theorem dX9_readClause_204 : decode cX9_readClause 204 = .ok (.aload_n 0, 1) := by decide +kernel
theorem dX9_readClause_205 : decode cX9_readClause 205 = .ok (.invokevirtual 270, 3) := by decide +kernel
theorem dX9_readClause_208 : decode cX9_readClause 208 = .ok (.ishl, 1) := by decide +kernel
theorem dX9_readClause_209 : decode cX9_readClause 209 = .ok (.ior, 1) := by decide +kernel
theorem dX9_readClause_210 : decode cX9_readClause 210 = .ok (.iastore, 1) := by decide +kernel
theorem dX9_readClause_211 : decode cX9_readClause 211 = .ok (.iinc 2 1, 3) := by decide +kernel
theorem dX9_readClause_214 : decode cX9_readClause 214 = .ok (.goto (-33), 3) := by decide +kernel
theorem dX9_readClause_217 : decode cX9_readClause 217 = .ok (.aload_n 0, 1) := by decide +kernel
theorem dX9_readClause_218 : decode cX9_readClause 218 = .ok (.bipush 32, 2) := by decide +kernel
theorem dX9_readClause_220 : decode cX9_readClause 220 = .ok (.invokevirtual 279, 3) := by decide +kernel
theorem dX9_readClause_223 : decode cX9_readClause 223 = .ok (.ifCond .eq 14, 3) := by decide +kernel
theorem dX9_readClause_226 : decode cX9_readClause 226 = .ok (.aload_n 0, 1) := by decide +kernel
theorem dX9_readClause_227 : decode cX9_readClause 227 = .ok (.invokevirtual 276, 3) := by decide +kernel
theorem dX9_readClause_230 : decode cX9_readClause 230 = .ok (.ifCond .eq 7, 3) := by decide +kernel
theorem dX9_readClause_233 : decode cX9_readClause 233 = .ok (.iconst 1, 1) := by decide +kernel
theorem dX9_readClause_234 : decode cX9_readClause 234 = .ok (.goto 4, 3) := by decide +kernel
theorem dX9_readClause_237 : decode cX9_readClause 237 = .ok (.iconst 0, 1) := by decide +kernel
theorem dX9_readClause_238 : decode cX9_readClause 238 = .ok (.ireturn, 1) := by decide +kernel
set_option maxRecDepth 20000 in
theorem ggX9_readAll_X9_readClause : GoodIn wsX9_readAll wsX9_readClause := goodIn_r _ [8, 1, 3, 9, 10, 2, 11, 12, 13, 14, 15, 7, 16, 17, 18, 19, 20, 21, 22, 23, 24, 25, 26, 27, 28, 29, 30, 31, 32, 33, 34, 35, 36, 37, 38, 39, 40, 41, 42, 43, 44, 45, 46, 47, 48, 49, 50, 51, 52, 53, 54, 55, 56, 57, 58, 59, 60, 61, 62, 63, 64, 65, 66, 67] (by decide +kernel) (by decide +kernel)
set_option maxRecDepth 20000 in
theorem gX9_readAll_X9_readClause : GoodIn wsX9_readAll (wsV RX9 282 RX9 yX9_readClause wsX9_readClause) := goodIn_app (goodIn_of _ (by decide +kernel)) ggX9_readAll_X9_readClause
set_option maxRecDepth 20000 in
theorem ggX9_readAll_X9_takes : GoodIn wsX9_readAll wsX9_takes := goodIn_r _ [32, 1, 3, 9, 33, 34, 35, 36, 37, 38, 39, 40, 41, 42, 43, 44, 45, 46, 47, 48, 49, 50, 51, 52, 53, 54, 55, 56, 57, 58, 59, 60, 61, 62, 63, 64, 65, 66, 67] (by decide +kernel) (by decide +kernel)
set_option maxRecDepth 20000 in
theorem gX9_readAll_X9_takes : GoodIn wsX9_readAll (wsV RX9 279 RX9 yX9_takes wsX9_takes) := goodIn_app (goodIn_of _ (by decide +kernel)) ggX9_readAll_X9_takes
theorem dX9_readAll_0 : decode cX9_readAll 0 = .ok (.aload_n 0, 1) := by decide +kernel
theorem dX9_readAll_1 : decode cX9_readAll 1 = .ok (.iconst 0, 1) := by decide +kernel
theorem dX9_readAll_2 : decode cX9_readAll 2 = .ok (.putfield 264, 3) := by decide +kernel
