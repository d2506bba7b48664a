theorem dX9_readAll_5 : decode cX9_readAll 5 = .ok (.aload_n 0, 1) := by decide +kernel
theorem dX9_readAll_6 : decode cX9_readAll 6 = .ok (.iconst 0, 1) := by decide +kernel
theorem dX9_readAll_7 : decode cX9_readAll 7 = .ok (.putfield 273, 3) := by decide +kernel
theorem dX9_readAll_10 : decode cX9_readAll 10 = .ok (.aload_n 0, 1) := by decide +kernel
theorem dX9_readAll_11 : decode cX9_readAll 11 = .ok (.invokevirtual 282, 3) := by decide +kernel
theorem dX9_readAll_14 : decode cX9_readAll 14 = .ok (.ifCond .ne 5, 3) := by decide +kernel
theorem dX9_readAll_17 : decode cX9_readAll 17 = .ok (.iconst 0, 1) := by decide +kernel
theorem dX9_readAll_18 : decode cX9_readAll 18 = .ok (.ireturn, 1) := by decide +kernel
theorem dX9_readAll_19 : decode cX9_readAll 19 = .ok (.aload_n 0, 1) := by decide +kernel
theorem dX9_readAll_20 : decode cX9_readAll 20 = .ok (.dup, 1) := by decide +kernel
theorem dX9_readAll_21 : decode cX9_readAll 21 = .ok (.getfield 273, 3) := by decide +kernel
theorem dX9_readAll_24 : decode cX9_readAll 24 = .ok (.iconst 1, 1) := by decide +kernel
theorem dX9_readAll_25 : decode cX9_readAll 25 = .ok (.iadd, 1) := by decide +kernel
theorem dX9_readAll_26 : decode cX9_readAll 26 = .ok (.putfield 273, 3) := by decide +kernel
theorem dX9_readAll_29 : decode cX9_readAll 29 = .ok (.aload_n 0, 1) := by decide +kernel
theorem dX9_readAll_30 : decode cX9_readAll 30 = .ok (.getfield 273, 3) := by decide +kernel
theorem dX9_readAll_33 : decode cX9_readAll 33 = .ok (.bipush 12, 2) := by decide +kernel
theorem dX9_readAll_35 : decode cX9_readAll 35 = .ok (.if_icmp .ge 12, 3) := by decide +kernel
theorem dX9_readAll_38 : decode cX9_readAll 38 = .ok (.aload_n 0, 1) := by decide +kernel
theorem dX9_readAll_39 : decode cX9_readAll 39 = .ok (.bipush 59, 2) := by decide +kernel
theorem dX9_readAll_41 : decode cX9_readAll 41 = .ok (.invokevirtual 279, 3) := by decide +kernel
theorem dX9_readAll_44 : decode cX9_readAll 44 = .ok (.ifCond .ne (-34), 3) := by decide +kernel
theorem dX9_readAll_47 : decode cX9_readAll 47 = .ok (.aload_n 0, 1) := by decide +kernel
theorem dX9_readAll_48 : decode cX9_readAll 48 = .ok (.getfield 264, 3) := by decide +kernel
theorem dX9_readAll_51 : decode cX9_readAll 51 = .ok (.aload_n 0, 1) := by decide +kernel
theorem dX9_readAll_52 : decode cX9_readAll 52 = .ok (.getfield 261, 3) := by decide +kernel
theorem dX9_readAll_55 : decode cX9_readAll 55 = .ok (.if_icmp .ne 7, 3) := by decide +kernel
theorem dX9_readAll_58 : decode cX9_readAll 58 = .ok (.iconst 1, 1) := by decide +kernel
theorem dX9_readAll_59 : decode cX9_readAll 59 = .ok (.goto 4, 3) := by decide +kernel
theorem dX9_readAll_62 : decode cX9_readAll 62 = .ok (.iconst 0, 1) := by decide +kernel
theorem dX9_readAll_63 : decode cX9_readAll 63 = .ok (.ireturn, 1) := by decide +kernel
set_option maxRecDepth 20000 in
theorem ggX9_isDone_X9_points : GoodIn wsX9_isDone wsX9_points := goodIn_r _ [14, 5, 15, 16, 17, 18, 13, 19, 20, 21, 22, 23, 24, 50, 51, 52, 53, 54, 55, 56, 57, 58, 59, 60, 61, 62, 63, 64, 65, 66, 67, 68, 69, 70, 71, 72, 73, 74, 75, 76, 77, 78, 79, 80, 81, 82, 83, 84] (by decide +kernel) (by decide +kernel)
set_option maxRecDepth 20000 in
theorem gX9_isDone_X9_points : GoodIn wsX9_isDone (wsV RX9 285 RX9 yX9_points wsX9_points) := goodIn_app (goodIn_of _ (by decide +kernel)) ggX9_isDone_X9_points
set_option maxRecDepth 20000 in
theorem ggX9_isDone_X9_set : GoodIn wsX9_isDone wsX9_set := goodIn_r _ [28, 29, 30, 31, 13, 32, 33, 34, 35, 36, 5, 17, 18, 19, 37, 38, 39, 40, 24, 20, 21, 22, 23, 50, 51, 52, 53, 54, 55, 56, 57, 58, 59, 60, 61, 62, 63, 64, 65, 66, 67, 68, 69, 70, 71, 72, 73, 74, 75, 76, 77, 78, 79, 80, 81, 82, 83, 84] (by decide +kernel) (by decide +kernel)
set_option maxRecDepth 20000 in
theorem gX9_isDone_X9_set : GoodIn wsX9_isDone (wsV RX9 287 RX9 yX9_set wsX9_set) := goodIn_app (goodIn_of _ (by decide +kernel)) ggX9_isDone_X9_set
set_option maxRecDepth 20000 in
theorem ggX9_isDone_X9_shorten : GoodIn wsX9_isDone wsX9_shorten := goodIn_r _ [44, 45, 46, 47, 13, 48, 5, 49, 6, 7, 8, 9, 37, 38, 39, 40, 24, 20, 21, 22, 23, 50, 51, 52, 53, 54, 55, 56, 57, 58, 59, 60, 61, 62, 63, 64, 65, 66, 67, 68, 69, 70, 71, 72, 73, 74, 75, 76, 77, 78, 79, 80, 81, 82, 83, 84] (by decide +kernel) (by decide +kernel)
set_option maxRecDepth 20000 in
theorem gX9_isDone_X9_shorten : GoodIn wsX9_isDone (wsV RX9 291 RX9 yX9_shorten wsX9_shorten) := goodIn_app (goodIn_of _ (by decide +kernel)) ggX9_isDone_X9_shorten
set_option maxRecDepth 20000 in
theorem ggX9_isDone_X9_d : GoodIn wsX9_isDone wsX9_d := goodIn_r _ [40, 24, 50, 51, 52, 53, 54, 55, 56, 57, 58, 59, 60, 61, 62, 63, 64, 65, 66, 67, 68, 69, 70, 71, 72, 73, 74, 75, 76, 77, 78, 79, 80, 81, 82, 83, 84] (by decide +kernel) (by decide +kernel)
set_option maxRecDepth 20000 in
theorem gX9_isDone_X9_d : GoodIn wsX9_isDone (wsV RX9 111 RX9 yX9_d wsX9_d) := goodIn_app (goodIn_of _ (by decide +kernel)) ggX9_isDone_X9_d
set_option maxRecDepth 20000 in
theorem ggX9_isDone_X9_lays : GoodIn wsX9_isDone wsX9_lays := goodIn_r _ [23, 24, 50, 51, 52, 53, 54, 55, 56, 57, 58, 59, 60, 61, 62, 63, 64, 65, 66, 67, 68, 69, 70, 71, 72, 73, 74, 75, 76, 77, 78, 79, 80, 81, 82, 83, 84] (by decide +kernel) (by decide +kernel)
set_option maxRecDepth 20000 in
theorem gX9_isDone_X9_lays : GoodIn wsX9_isDone (wsV RX9 103 RX9 yX9_lays wsX9_lays) := goodIn_app (goodIn_of _ (by decide +kernel)) ggX9_isDone_X9_lays
theorem dX9_isDone_0 : decode cX9_isDone 0 = .ok (.aload_n 0, 1) := by decide +kernel
theorem dX9_isDone_1 : decode cX9_isDone 1 = .ok (.getfield 89, 3) := by decide +kernel
theorem dX9_isDone_4 : decode cX9_isDone 4 = .ok (.iload_n 1, 1) := by decide +kernel
theorem dX9_isDone_5 : decode cX9_isDone 5 = .ok (.iaload, 1) := by decide +kernel
theorem dX9_isDone_6 : decode cX9_isDone 6 = .ok (.istore_n 2, 1) := by decide +kernel
theorem dX9_isDone_7 : decode cX9_isDone 7 = .ok (.aload_n 0, 1) := by decide +kernel
theorem dX9_isDone_8 : decode cX9_isDone 8 = .ok (.getfield 80, 3) := by decide +kernel
theorem dX9_isDone_11 : decode cX9_isDone 11 = .ok (.iload_n 1, 1) := by decide +kernel
theorem dX9_isDone_12 : decode cX9_isDone 12 = .ok (.iaload, 1) := by decide +kernel
theorem dX9_isDone_13 : decode cX9_isDone 13 = .ok (.lookupswitch 118 #[(100, 62), (104, 88), (110, 43), (115, 101)], 43) := by decide +kernel
theorem dX9_isDone_56 : decode cX9_isDone 56 = .ok (.aload_n 0, 1) := by decide +kernel
theorem dX9_isDone_57 : decode cX9_isDone 57 = .ok (.aload_n 0, 1) := by decide +kernel
theorem dX9_isDone_58 : decode cX9_isDone 58 = .ok (.getfield 83, 3) := by decide +kernel
theorem dX9_isDone_61 : decode cX9_isDone 61 = .ok (.iload_n 1, 1) := by decide +kernel
theorem dX9_isDone_62 : decode cX9_isDone 62 = .ok (.iaload, 1) := by decide +kernel
theorem dX9_isDone_63 : decode cX9_isDone 63 = .ok (.invokevirtual 285, 3) := by decide +kernel
theorem dX9_isDone_66 : decode cX9_isDone 66 = .ok (.ifCond .lt 7, 3) := by decide +kernel
theorem dX9_isDone_69 : decode cX9_isDone 69 = .ok (.iconst 1, 1) := by decide +kernel
theorem dX9_isDone_70 : decode cX9_isDone 70 = .ok (.goto 4, 3) := by decide +kernel
theorem dX9_isDone_73 : decode cX9_isDone 73 = .ok (.iconst 0, 1) := by decide +kernel
theorem dX9_isDone_74 : decode cX9_isDone 74 = .ok (.ireturn, 1) := by decide +kernel
theorem dX9_isDone_75 : decode cX9_isDone 75 = .ok (.aload_n 0, 1) := by decide +kernel
theorem dX9_isDone_76 : decode cX9_isDone 76 = .ok (.aload_n 0, 1) := by decide +kernel
theorem dX9_isDone_77 : decode cX9_isDone 77 = .ok (.getfield 83, 3) := by decide +kernel
theorem dX9_isDone_80 : decode cX9_isDone 80 = .ok (.iload_n 1, 1) := by decide +kernel
theorem dX9_isDone_81 : decode cX9_isDone 81 = .ok (.iaload, 1) := by decide +kernel
theorem dX9_isDone_82 : decode cX9_isDone 82 = .ok (.aload_n 0, 1) := by decide +kernel
theorem dX9_isDone_83 : decode cX9_isDone 83 = .ok (.getfield 86, 3) := by decide +kernel
theorem dX9_isDone_86 : decode cX9_isDone 86 = .ok (.iload_n 1, 1) := by decide +kernel
theorem dX9_isDone_87 : decode cX9_isDone 87 = .ok (.iaload, 1) := by decide +kernel
theorem dX9_isDone_88 : decode cX9_isDone 88 = .ok (.iload_n 2, 1) := by decide +kernel
theorem dX9_isDone_89 : decode cX9_isDone 89 = .ok (.invokevirtual 287, 3) := by decide +kernel
theorem dX9_isDone_92 : decode cX9_isDone 92 = .ok (.ifCond .lt 7, 3) := by decide +kernel
theorem dX9_isDone_95 : decode cX9_isDone 95 = .ok (.iconst 1, 1) := by decide +kernel
theorem dX9_isDone_96 : decode cX9_isDone 96 = .ok (.goto 4, 3) := by decide +kernel
theorem dX9_isDone_99 : decode cX9_isDone 99 = .ok (.iconst 0, 1) := by decide +kernel
theorem dX9_isDone_100 : decode cX9_isDone 100 = .ok (.ireturn, 1) := by decide +kernel
theorem dX9_isDone_101 : decode cX9_isDone 101 = .ok (.aload_n 0, 1) := by decide +kernel
theorem dX9_isDone_102 : decode cX9_isDone 102 = .ok (.invokevirtual 291, 3) := by decide +kernel
theorem dX9_isDone_105 : decode cX9_isDone 105 = .ok (.ifCond .lt 7, 3) := by decide +kernel
theorem dX9_isDone_108 : decode cX9_isDone 108 = .ok (.iconst 1, 1) := by decide +kernel
theorem dX9_isDone_109 : decode cX9_isDone 109 = .ok (.goto 4, 3) := by decide +kernel
theorem dX9_isDone_112 : decode cX9_isDone 112 = .ok (.iconst 0, 1) := by decide +kernel
theorem dX9_isDone_113 : decode cX9_isDone 113 = .ok (.ireturn, 1) := by decide +kernel
theorem dX9_isDone_114 : decode cX9_isDone 114 = .ok (.aload_n 0, 1) := by decide +kernel
theorem dX9_isDone_115 : decode cX9_isDone 115 = .ok (.getfield 83, 3) := by decide +kernel
theorem dX9_isDone_118 : decode cX9_isDone 118 = .ok (.iload_n 1, 1) := by decide +kernel
theorem dX9_isDone_119 : decode cX9_isDone 119 = .ok (.iaload, 1) := by decide +kernel
theorem dX9_isDone_120 : decode cX9_isDone 120 = .ok (.iconst 1, 1) := by decide +kernel
theorem dX9_isDone_121 : decode cX9_isDone 121 = .ok (.aload_n 0, 1) := by decide +kernel
theorem dX9_isDone_122 : decode cX9_isDone 122 = .ok (.getfield 9, 3) := by decide +kernel
theorem dX9_isDone_125 : decode cX9_isDone 125 = .ok (.ishl, 1) := by decide +kernel
theorem dX9_isDone_126 : decode cX9_isDone 126 = .ok (.if_icmp .lt 5, 3) := by decide +kernel
theorem dX9_isDone_129 : decode cX9_isDone 129 = .ok (.iconst 0, 1) := by decide +kernel
theorem dX9_isDone_130 : decode cX9_isDone 130 = .ok (.ireturn, 1) := by decide +kernel
theorem dX9_isDone_131 : decode cX9_isDone 131 = .ok (.iconst 0, 1) := by decide +kernel
theorem dX9_isDone_132 : decode cX9_isDone 132 = .ok (.istore_n 3, 1) := by decide +kernel
theorem dX9_isDone_133 : decode cX9_isDone 133 = .ok (.iload_n 3, 1) := by decide +kernel
theorem dX9_isDone_134 : decode cX9_isDone 134 = .ok (.aload_n 0, 1) := by decide +kernel
theorem dX9_isDone_135 : decode cX9_isDone 135 = .ok (.getfield 9, 3) := by decide +kernel
theorem dX9_isDone_138 : decode cX9_isDone 138 = .ok (.if_icmp .ge 104, 3) := by decide +kernel
theorem dX9_isDone_141 : decode cX9_isDone 141 = .ok (.iconst 0, 1) := by decide +kernel
theorem dX9_isDone_142 : decode cX9_isDone 142 = .ok (.istore 4, 2) := by decide +kernel
theorem dX9_isDone_144 : decode cX9_isDone 144 = .ok (.iload 4, 2) := by decide +kernel
theorem dX9_isDone_146 : decode cX9_isDone 146 = .ok (.iload_n 3, 1) := by decide +kernel
theorem dX9_isDone_147 : decode cX9_isDone 147 = .ok (.if_icmp .ge 89, 3) := by decide +kernel
theorem dX9_isDone_150 : decode cX9_isDone 150 = .ok (.aload_n 0, 1) := by decide +kernel
theorem dX9_isDone_151 : decode cX9_isDone 151 = .ok (.getfield 80, 3) := by decide +kernel
theorem dX9_isDone_154 : decode cX9_isDone 154 = .ok (.iload_n 1, 1) := by decide +kernel
theorem dX9_isDone_155 : decode cX9_isDone 155 = .ok (.iaload, 1) := by decide +kernel
theorem dX9_isDone_156 : decode cX9_isDone 156 = .ok (.bipush 109, 2) := by decide +kernel
theorem dX9_isDone_158 : decode cX9_isDone 158 = .ok (.if_icmp .ne 27, 3) := by decide +kernel
theorem dX9_isDone_161 : decode cX9_isDone 161 = .ok (.aload_n 0, 1) := by decide +kernel
theorem dX9_isDone_162 : decode cX9_isDone 162 = .ok (.iload_n 3, 1) := by decide +kernel
theorem dX9_isDone_163 : decode cX9_isDone 163 = .ok (.iload 4, 2) := by decide +kernel
theorem dX9_isDone_165 : decode cX9_isDone 165 = .ok (.bipush 40, 2) := by decide +kernel
theorem dX9_isDone_167 : decode cX9_isDone 167 = .ok (.aload_n 0, 1) := by decide +kernel
theorem dX9_isDone_168 : decode cX9_isDone 168 = .ok (.iload_n 3, 1) := by decide +kernel
theorem dX9_isDone_169 : decode cX9_isDone 169 = .ok (.iload 4, 2) := by decide +kernel
theorem dX9_isDone_171 : decode cX9_isDone 171 = .ok (.invokevirtual 111, 3) := by decide +kernel
theorem dX9_isDone_174 : decode cX9_isDone 174 = .ok (.iload_n 2, 1) := by decide +kernel
theorem dX9_isDone_175 : decode cX9_isDone 175 = .ok (.imul, 1) := by decide +kernel
theorem dX9_isDone_176 : decode cX9_isDone 176 = .ok (.invokestatic 115, 3) := by decide +kernel
theorem dX9_isDone_179 : decode cX9_isDone 179 = .ok (.invokevirtual 103, 3) := by decide +kernel
theorem dX9_isDone_182 : decode cX9_isDone 182 = .ok (.goto 48, 3) := by decide +kernel
theorem dX9_isDone_185 : decode cX9_isDone 185 = .ok (.aload_n 0, 1) := by decide +kernel
theorem dX9_isDone_186 : decode cX9_isDone 186 = .ok (.getfield 83, 3) := by decide +kernel
theorem dX9_isDone_189 : decode cX9_isDone 189 = .ok (.iload_n 1, 1) := by decide +kernel
theorem dX9_isDone_190 : decode cX9_isDone 190 = .ok (.iaload, 1) := by decide +kernel
theorem dX9_isDone_191 : decode cX9_isDone 191 = .ok (.iload_n 3, 1) := by decide +kernel
theorem dX9_isDone_192 : decode cX9_isDone 192 = .ok (.ishr, 1) := by decide +kernel
theorem dX9_isDone_193 : decode cX9_isDone 193 = .ok (.iconst 1, 1) := by decide +kernel
theorem dX9_isDone_194 : decode cX9_isDone 194 = .ok (.iand, 1) := by decide +kernel
theorem dX9_isDone_195 : decode cX9_isDone 195 = .ok (.aload_n 0, 1) := by decide +kernel
theorem dX9_isDone_196 : decode cX9_isDone 196 = .ok (.getfield 83, 3) := by decide +kernel
theorem dX9_isDone_199 : decode cX9_isDone 199 = .ok (.iload_n 1, 1) := by decide +kernel
theorem dX9_isDone_200 : decode cX9_isDone 200 = .ok (.iaload, 1) := by decide +kernel
theorem dX9_isDone_201 : decode cX9_isDone 201 = .ok (.iload 4, 2) := by decide +kernel
theorem dX9_isDone_203 : decode cX9_isDone 203 = .ok (.ishr, 1) := by decide +kernel
theorem dX9_isDone_204 : decode cX9_isDone 204 = .ok (.iconst 1, 1) := by decide +kernel
theorem dX9_isDone_205 : decode cX9_isDone 205 = .ok (.iand, 1) := by decide +kernel
theorem dX9_isDone_206 : decode cX9_isDone 206 = .ok (.if_icmp .eq 24, 3) := by decide +kernel
theorem dX9_isDone_209 : decode cX9_isDone 209 = .ok (.aload_n 0, 1) := by decide +kernel
theorem dX9_isDone_210 : decode cX9_isDone 210 = .ok (.iload_n 3, 1) := by decide +kernel
theorem dX9_isDone_211 : decode cX9_isDone 211 = .ok (.iload 4, 2) := by decide +kernel
theorem dX9_isDone_213 : decode cX9_isDone 213 = .ok (.bipush 40, 2) := by decide +kernel
theorem dX9_isDone_215 : decode cX9_isDone 215 = .ok (.aload_n 0, 1) := by decide +kernel
theorem dX9_isDone_216 : decode cX9_isDone 216 = .ok (.iload_n 3, 1) := by decide +kernel
theorem dX9_isDone_217 : decode cX9_isDone 217 = .ok (.iload 4, 2) := by decide +kernel
theorem dX9_isDone_219 : decode cX9_isDone 219 = .ok (.invokevirtual 111, 3) := by decide +kernel
theorem dX9_isDone_222 : decode cX9_isDone 222 = .ok (.iload_n 2, 1) := by decide +kernel
theorem dX9_isDone_223 : decode cX9_isDone 223 = .ok (.iadd, 1) := by decide +kernel
theorem dX9_isDone_224 : decode cX9_isDone 224 = .ok (.invokestatic 115, 3) := by decide +kernel
theorem dX9_isDone_227 : decode cX9_isDone 227 = .ok (.invokevirtual 103, 3) := by decide +kernel
theorem dX9_isDone_230 : decode cX9_isDone 230 = .ok (.iinc 4 1, 3) := by decide +kernel
theorem dX9_isDone_233 : decode cX9_isDone 233 = .ok (.goto (-89), 3) := by decide +kernel
theorem dX9_isDone_236 : decode cX9_isDone 236 = .ok (.iinc 3 1, 3) := by decide +kernel
theorem dX9_isDone_239 : decode cX9_isDone 239 = .ok (.goto (-106), 3) := by decide +kernel
theorem dX9_isDone_242 : decode cX9_isDone 242 = .ok (.iconst 1, 1) := by decide +kernel
theorem dX9_isDone_243 : decode cX9_isDone 243 = .ok (.ireturn, 1) := by decide +kernel
set_option maxRecDepth 20000 in
theorem ggX9_read_X9_readAll : GoodIn wsX9_read wsX9_readAll := goodIn_r _ [8, 2, 3, 1, 9, 10, 11, 7, 12, 13, 14, 15, 16, 17, 18, 19, 20, 21, 22, 23, 24, 25, 26, 27, 28, 29, 30, 31, 32, 33, 34, 35, 36, 82, 83, 84, 85, 86, 87, 88, 89, 90, 91, 92, 93, 94, 95, 96, 97, 98, 99, 100, 101, 102, 103, 104, 105, 106, 107, 108, 109, 110, 111, 112, 113, 114, 115, 116] (by decide +kernel) (by decide +kernel)
set_option maxRecDepth 20000 in
theorem gX9_read_X9_readAll : GoodIn wsX9_read (wsV RX9 294 RX9 yX9_readAll wsX9_readAll) := goodIn_app (goodIn_of _ (by decide +kernel)) ggX9_read_X9_readAll
set_option maxRecDepth 20000 in
theorem ggX9_read_X9_isDone : GoodIn wsX9_read wsX9_isDone := goodIn_r _ [40, 21, 14, 15, 16, 41, 42, 43, 44, 45, 46, 47, 48, 7, 49, 50, 51, 26, 27, 28, 52, 53, 54, 55, 56, 57, 58, 59, 60, 61, 62, 63, 64, 65, 66, 67, 68, 69, 70, 71, 72, 73, 74, 75, 76, 77, 78, 79, 80, 81, 82, 83, 84, 85, 86, 87, 88, 89, 90, 91, 92, 93, 94, 95, 96, 97, 98, 99, 100, 101, 102, 103, 104, 105, 106, 107, 108, 109, 110, 111, 112, 113, 114, 115, 116] (by decide +kernel) (by decide +kernel)
set_option maxRecDepth 20000 in
theorem gX9_read_X9_isDone : GoodIn wsX9_read (wsV RX9 297 RX9 yX9_isDone wsX9_isDone) := goodIn_app (goodIn_of _ (by decide +kernel)) ggX9_read_X9_isDone
theorem dX9_read_0 : decode cX9_read 0 = .ok (.aload_n 0, 1) := by decide +kernel
theorem dX9_read_1 : decode cX9_read 1 = .ok (.invokevirtual 294, 3) := by decide +kernel
theorem dX9_read_4 : decode cX9_read 4 = .ok (.istore_n 1, 1) := by decide +kernel
theorem dX9_read_5 : decode cX9_read 5 = .ok (.aload_n 0, 1) := by decide +kernel
theorem dX9_read_6 : decode cX9_read 6 = .ok (.iconst 0, 1) := by decide +kernel
theorem dX9_read_7 : decode cX9_read 7 = .ok (.putfield 261, 3) := by decide +kernel
theorem dX9_read_10 : decode cX9_read 10 = .ok (.iload_n 1, 1) := by decide +kernel
theorem dX9_read_11 : decode cX9_read 11 = .ok (.ifCond .ne 11, 3) := by decide +kernel
theorem dX9_read_14 : decode cX9_read 14 = .ok (.bipush (-10), 2) := by decide +kernel
theorem dX9_read_16 : decode cX9_read 16 = .ok (.aload_n 0, 1) := by decide +kernel
theorem dX9_read_17 : decode cX9_read 17 = .ok (.getfield 264, 3) := by decide +kernel
theorem dX9_read_20 : decode cX9_read 20 = .ok (.isub, 1) := by decide +kernel
theorem dX9_read_21 : decode cX9_read 21 = .ok (.ireturn, 1) := by decide +kernel
theorem dX9_read_22 : decode cX9_read 22 = .ok (.iconst 0, 1) := by decide +kernel
theorem dX9_read_23 : decode cX9_read 23 = .ok (.istore_n 2, 1) := by decide +kernel
theorem dX9_read_24 : decode cX9_read 24 = .ok (.iconst 0, 1) := by decide +kernel
theorem dX9_read_25 : decode cX9_read 25 = .ok (.istore_n 3, 1) := by decide +kernel
theorem dX9_read_26 : decode cX9_read 26 = .ok (.iload_n 3, 1) := by decide +kernel
theorem dX9_read_27 : decode cX9_read 27 = .ok (.aload_n 0, 1) := by decide +kernel
theorem dX9_read_28 : decode cX9_read 28 = .ok (.getfield 273, 3) := by decide +kernel
theorem dX9_read_31 : decode cX9_read 31 = .ok (.if_icmp .ge 25, 3) := by decide +kernel
theorem dX9_read_34 : decode cX9_read 34 = .ok (.iload_n 2, 1) := by decide +kernel
theorem dX9_read_35 : decode cX9_read 35 = .ok (.aload_n 0, 1) := by decide +kernel
theorem dX9_read_36 : decode cX9_read 36 = .ok (.iload_n 3, 1) := by decide +kernel
theorem dX9_read_37 : decode cX9_read 37 = .ok (.invokevirtual 297, 3) := by decide +kernel
theorem dX9_read_40 : decode cX9_read 40 = .ok (.ifCond .eq 7, 3) := by decide +kernel
theorem dX9_read_43 : decode cX9_read 43 = .ok (.iconst 1, 1) := by decide +kernel
theorem dX9_read_44 : decode cX9_read 44 = .ok (.goto 4, 3) := by decide +kernel
theorem dX9_read_47 : decode cX9_read 47 = .ok (.iconst 0, 1) := by decide +kernel
theorem dX9_read_48 : decode cX9_read 48 = .ok (.iadd, 1) := by decide +kernel
theorem dX9_read_49 : decode cX9_read 49 = .ok (.istore_n 2, 1) := by decide +kernel
theorem dX9_read_50 : decode cX9_read 50 = .ok (.iinc 3 1, 3) := by decide +kernel
theorem dX9_read_53 : decode cX9_read 53 = .ok (.goto (-27), 3) := by decide +kernel
theorem dX9_read_56 : decode cX9_read 56 = .ok (.iload_n 2, 1) := by decide +kernel
theorem dX9_read_57 : decode cX9_read 57 = .ok (.ireturn, 1) := by decide +kernel
set_option maxRecDepth 20000 in
theorem ggX9_isTape_X9_in : GoodIn wsX9_isTape wsX9_in := goodIn_r _ [4] (by decide +kernel) (by decide +kernel)
set_option maxRecDepth 20000 in
theorem gX9_isTape_X9_in : GoodIn wsX9_isTape (va_wsS RX9 95 yX9_in wsX9_in) := goodIn_app (goodIn_of _ (by decide +kernel)) ggX9_isTape_X9_in
theorem dX9_isTape_0 : decode cX9_isTape 0 = .ok (.iload_n 0, 1) := by decide +kernel
theorem dX9_isTape_1 : decode cX9_isTape 1 = .ok (.iconst 0, 1) := by decide +kernel
theorem dX9_isTape_2 : decode cX9_isTape 2 = .ok (.iconst 5, 1) := by decide +kernel
theorem dX9_isTape_3 : decode cX9_isTape 3 = .ok (.invokestatic 95, 3) := by decide +kernel
theorem dX9_isTape_6 : decode cX9_isTape 6 = .ok (.ireturn, 1) := by decide +kernel
set_option maxRecDepth 20000 in
theorem ggX9_judge_X9_isTape : GoodIn wsX9_judge wsX9_isTape := goodIn_r _ [8, 9, 10, 7, 11] (by decide +kernel) (by decide +kernel)
set_option maxRecDepth 20000 in
theorem gX9_judge_X9_isTape : GoodIn wsX9_judge (va_wsS RX9 300 yX9_isTape wsX9_isTape) := goodIn_app (goodIn_of _ (by decide +kernel)) ggX9_judge_X9_isTape
set_option maxRecDepth 20000 in
theorem ggX9_judge_X9_d : GoodIn wsX9_judge wsX9_d := goodIn_r _ [15, 16, 17, 18, 19, 20, 21, 22, 23, 24, 25, 26, 27, 28, 29, 30, 31, 32, 33, 34, 35, 36, 37, 38, 39, 40, 41, 42, 43, 44, 45, 46, 47, 48, 49, 50, 51] (by decide +kernel) (by decide +kernel)
set_option maxRecDepth 20000 in
theorem gX9_judge_X9_d : GoodIn wsX9_judge (wsV RX9 111 RX9 yX9_d wsX9_d) := goodIn_app (goodIn_of _ (by decide +kernel)) ggX9_judge_X9_d
theorem dX9_judge_0 : decode cX9_judge 0 = .ok (.iload_n 1, 1) := by decide +kernel
theorem dX9_judge_1 : decode cX9_judge 1 = .ok (.invokestatic 300, 3) := by decide +kernel
theorem dX9_judge_4 : decode cX9_judge 4 = .ok (.ifCond .ne 5, 3) := by decide +kernel
theorem dX9_judge_7 : decode cX9_judge 7 = .ok (.iconst (-1), 1) := by decide +kernel
theorem dX9_judge_8 : decode cX9_judge 8 = .ok (.ireturn, 1) := by decide +kernel
theorem dX9_judge_9 : decode cX9_judge 9 = .ok (.aload_n 0, 1) := by decide +kernel
theorem dX9_judge_10 : decode cX9_judge 10 = .ok (.getfield 49, 3) := by decide +kernel
theorem dX9_judge_13 : decode cX9_judge 13 = .ok (.iload_n 1, 1) := by decide +kernel
theorem dX9_judge_14 : decode cX9_judge 14 = .ok (.iaload, 1) := by decide +kernel
theorem dX9_judge_15 : decode cX9_judge 15 = .ok (.ifCond .lt 16, 3) := by decide +kernel
theorem dX9_judge_18 : decode cX9_judge 18 = .ok (.aload_n 0, 1) := by decide +kernel
theorem dX9_judge_19 : decode cX9_judge 19 = .ok (.getfield 49, 3) := by decide +kernel
theorem dX9_judge_22 : decode cX9_judge 22 = .ok (.iload_n 1, 1) := by decide +kernel
theorem dX9_judge_23 : decode cX9_judge 23 = .ok (.iaload, 1) := by decide +kernel
theorem dX9_judge_24 : decode cX9_judge 24 = .ok (.iconst 2, 1) := by decide +kernel
theorem dX9_judge_25 : decode cX9_judge 25 = .ok (.if_icmp .eq 6, 3) := by decide +kernel
theorem dX9_judge_28 : decode cX9_judge 28 = .ok (.bipush (-12), 2) := by decide +kernel
theorem dX9_judge_30 : decode cX9_judge 30 = .ok (.ireturn, 1) := by decide +kernel
theorem dX9_judge_31 : decode cX9_judge 31 = .ok (.iconst 0, 1) := by decide +kernel
theorem dX9_judge_32 : decode cX9_judge 32 = .ok (.istore_n 3, 1) := by decide +kernel
theorem dX9_judge_33 : decode cX9_judge 33 = .ok (.iconst 0, 1) := by decide +kernel
theorem dX9_judge_34 : decode cX9_judge 34 = .ok (.istore 4, 2) := by decide +kernel
theorem dX9_judge_36 : decode cX9_judge 36 = .ok (.iload 4, 2) := by decide +kernel
theorem dX9_judge_38 : decode cX9_judge 38 = .ok (.aload_n 0, 1) := by decide +kernel
theorem dX9_judge_39 : decode cX9_judge 39 = .ok (.getfield 9, 3) := by decide +kernel
theorem dX9_judge_42 : decode cX9_judge 42 = .ok (.if_icmp .ge 98, 3) := by decide +kernel
theorem dX9_judge_45 : decode cX9_judge 45 = .ok (.iload 4, 2) := by decide +kernel
theorem dX9_judge_47 : decode cX9_judge 47 = .ok (.iconst 1, 1) := by decide +kernel
theorem dX9_judge_48 : decode cX9_judge 48 = .ok (.iadd, 1) := by decide +kernel
theorem dX9_judge_49 : decode cX9_judge 49 = .ok (.istore 5, 2) := by decide +kernel
theorem dX9_judge_51 : decode cX9_judge 51 = .ok (.iload 5, 2) := by decide +kernel
theorem dX9_judge_53 : decode cX9_judge 53 = .ok (.aload_n 0, 1) := by decide +kernel
theorem dX9_judge_54 : decode cX9_judge 54 = .ok (.getfield 9, 3) := by decide +kernel
theorem dX9_judge_57 : decode cX9_judge 57 = .ok (.if_icmp .ge 77, 3) := by decide +kernel
theorem dX9_judge_60 : decode cX9_judge 60 = .ok (.aload_n 0, 1) := by decide +kernel
theorem dX9_judge_61 : decode cX9_judge 61 = .ok (.getfield 49, 3) := by decide +kernel
theorem dX9_judge_64 : decode cX9_judge 64 = .ok (.iload_n 1, 1) := by decide +kernel
theorem dX9_judge_65 : decode cX9_judge 65 = .ok (.iaload, 1) := by decide +kernel
theorem dX9_judge_66 : decode cX9_judge 66 = .ok (.ifCond .lt 19, 3) := by decide +kernel
theorem dX9_judge_69 : decode cX9_judge 69 = .ok (.iload_n 2, 1) := by decide +kernel
theorem dX9_judge_70 : decode cX9_judge 70 = .ok (.ifCond .lt 15, 3) := by decide +kernel
theorem dX9_judge_73 : decode cX9_judge 73 = .ok (.iload_n 2, 1) := by decide +kernel
theorem dX9_judge_74 : decode cX9_judge 74 = .ok (.aload_n 0, 1) := by decide +kernel
theorem dX9_judge_75 : decode cX9_judge 75 = .ok (.getfield 52, 3) := by decide +kernel
theorem dX9_judge_78 : decode cX9_judge 78 = .ok (.iload_n 1, 1) := by decide +kernel
theorem dX9_judge_79 : decode cX9_judge 79 = .ok (.iaload, 1) := by decide +kernel
theorem dX9_judge_80 : decode cX9_judge 80 = .ok (.iload_n 3, 1) := by decide +kernel
theorem dX9_judge_81 : decode cX9_judge 81 = .ok (.isub, 1) := by decide +kernel
theorem dX9_judge_82 : decode cX9_judge 82 = .ok (.if_icmp .lt 8, 3) := by decide +kernel
theorem dX9_judge_85 : decode cX9_judge 85 = .ok (.bipush 100, 2) := by decide +kernel
theorem dX9_judge_87 : decode cX9_judge 87 = .ok (.iload_n 3, 1) := by decide +kernel
theorem dX9_judge_88 : decode cX9_judge 88 = .ok (.iadd, 1) := by decide +kernel
theorem dX9_judge_89 : decode cX9_judge 89 = .ok (.ireturn, 1) := by decide +kernel
theorem dX9_judge_90 : decode cX9_judge 90 = .ok (.aload_n 0, 1) := by decide +kernel
theorem dX9_judge_91 : decode cX9_judge 91 = .ok (.getfield 55, 3) := by decide +kernel
theorem dX9_judge_94 : decode cX9_judge 94 = .ok (.bipush 60, 2) := by decide +kernel
theorem dX9_judge_96 : decode cX9_judge 96 = .ok (.iload_n 1, 1) := by decide +kernel
theorem dX9_judge_97 : decode cX9_judge 97 = .ok (.imul, 1) := by decide +kernel
theorem dX9_judge_98 : decode cX9_judge 98 = .ok (.iload_n 2, 1) := by decide +kernel
theorem dX9_judge_99 : decode cX9_judge 99 = .ok (.iadd, 1) := by decide +kernel
theorem dX9_judge_100 : decode cX9_judge 100 = .ok (.iload_n 3, 1) := by decide +kernel
theorem dX9_judge_101 : decode cX9_judge 101 = .ok (.iadd, 1) := by decide +kernel
theorem dX9_judge_102 : decode cX9_judge 102 = .ok (.laload, 1) := by decide +kernel
theorem dX9_judge_103 : decode cX9_judge 103 = .ok (.aload_n 0, 1) := by decide +kernel
theorem dX9_judge_104 : decode cX9_judge 104 = .ok (.iload 4, 2) := by decide +kernel
theorem dX9_judge_106 : decode cX9_judge 106 = .ok (.iload 5, 2) := by decide +kernel
theorem dX9_judge_108 : decode cX9_judge 108 = .ok (.invokevirtual 111, 3) := by decide +kernel
theorem dX9_judge_111 : decode cX9_judge 111 = .ok (.i2l, 1) := by decide +kernel
theorem dX9_judge_112 : decode cX9_judge 112 = .ok (.lcmp, 1) := by decide +kernel
theorem dX9_judge_113 : decode cX9_judge 113 = .ok (.ifCond .eq 12, 3) := by decide +kernel
theorem dX9_judge_116 : decode cX9_judge 116 = .ok (.bipush 10, 2) := by decide +kernel
theorem dX9_judge_118 : decode cX9_judge 118 = .ok (.iload 4, 2) := by decide +kernel
theorem dX9_judge_120 : decode cX9_judge 120 = .ok (.imul, 1) := by decide +kernel
theorem dX9_judge_121 : decode cX9_judge 121 = .ok (.iload 5, 2) := by decide +kernel
theorem dX9_judge_123 : decode cX9_judge 123 = .ok (.iadd, 1) := by decide +kernel
theorem dX9_judge_124 : decode cX9_judge 124 = .ok (.ireturn, 1) := by decide +kernel
theorem dX9_judge_125 : decode cX9_judge 125 = .ok (.iinc 3 1, 3) := by decide +kernel
theorem dX9_judge_128 : decode cX9_judge 128 = .ok (.iinc 5 1, 3) := by decide +kernel
theorem dX9_judge_131 : decode cX9_judge 131 = .ok (.goto (-80), 3) := by decide +kernel
theorem dX9_judge_134 : decode cX9_judge 134 = .ok (.iinc 4 1, 3) := by decide +kernel
theorem dX9_judge_137 : decode cX9_judge 137 = .ok (.goto (-101), 3) := by decide +kernel
theorem dX9_judge_140 : decode cX9_judge 140 = .ok (.bipush (-5), 2) := by decide +kernel
theorem dX9_judge_142 : decode cX9_judge 142 = .ok (.ireturn, 1) := by decide +kernel
set_option maxRecDepth 20000 in
theorem ggX9_image_X9_girth : GoodIn wsX9_image wsX9_girth := goodIn_r _ [21, 13, 22, 23, 24, 20, 25, 3, 26, 27, 28, 29, 30, 31, 32, 33, 34, 35, 36, 37, 38, 39, 40, 41, 42, 43, 44, 45, 46, 47, 48, 49, 50, 51, 52, 53, 54, 55, 56, 57, 58, 59, 60] (by decide +kernel) (by decide +kernel)
set_option maxRecDepth 20000 in
theorem gX9_image_X9_girth : GoodIn wsX9_image (wsV RX9 169 RX9 yX9_girth wsX9_girth) := goodIn_app (goodIn_of _ (by decide +kernel)) ggX9_image_X9_girth
theorem dX9_image_0 : decode cX9_image 0 = .ok (.aload_n 0, 1) := by decide +kernel
theorem dX9_image_1 : decode cX9_image 1 = .ok (.iconst 1, 1) := by decide +kernel
theorem dX9_image_2 : decode cX9_image 2 = .ok (.putfield 303, 3) := by decide +kernel
theorem dX9_image_5 : decode cX9_image 5 = .ok (.iconst 0, 1) := by decide +kernel
theorem dX9_image_6 : decode cX9_image 6 = .ok (.istore_n 1, 1) := by decide +kernel
theorem dX9_image_7 : decode cX9_image 7 = .ok (.iload_n 1, 1) := by decide +kernel
theorem dX9_image_8 : decode cX9_image 8 = .ok (.bipush 25, 2) := by decide +kernel
theorem dX9_image_10 : decode cX9_image 10 = .ok (.if_icmp .ge 21, 3) := by decide +kernel
theorem dX9_image_13 : decode cX9_image 13 = .ok (.aload_n 0, 1) := by decide +kernel
theorem dX9_image_14 : decode cX9_image 14 = .ok (.getfield 92, 3) := by decide +kernel
theorem dX9_image_17 : decode cX9_image 17 = .ok (.iload_n 1, 1) := by decide +kernel
theorem dX9_image_18 : decode cX9_image 18 = .ok (.aload_n 0, 1) := by decide +kernel
theorem dX9_image_19 : decode cX9_image 19 = .ok (.getfield 15, 3) := by decide +kernel
theorem dX9_image_22 : decode cX9_image 22 = .ok (.iload_n 1, 1) := by decide +kernel
theorem dX9_image_23 : decode cX9_image 23 = .ok (.iaload, 1) := by decide +kernel
theorem dX9_image_24 : decode cX9_image 24 = .ok (.iastore, 1) := by decide +kernel
theorem dX9_image_25 : decode cX9_image 25 = .ok (.iinc 1 1, 3) := by decide +kernel
theorem dX9_image_28 : decode cX9_image 28 = .ok (.goto (-21), 3) := by decide +kernel
theorem dX9_image_31 : decode cX9_image 31 = .ok (.iconst 0, 1) := by decide +kernel
theorem dX9_image_32 : decode cX9_image 32 = .ok (.istore_n 1, 1) := by decide +kernel
theorem dX9_image_33 : decode cX9_image 33 = .ok (.iload_n 1, 1) := by decide +kernel
theorem dX9_image_34 : decode cX9_image 34 = .ok (.iconst 5, 1) := by decide +kernel
theorem dX9_image_35 : decode cX9_image 35 = .ok (.if_icmp .ge 39, 3) := by decide +kernel
theorem dX9_image_38 : decode cX9_image 38 = .ok (.aload_n 0, 1) := by decide +kernel
theorem dX9_image_39 : decode cX9_image 39 = .ok (.getfield 92, 3) := by decide +kernel
theorem dX9_image_42 : decode cX9_image 42 = .ok (.bipush 25, 2) := by decide +kernel
theorem dX9_image_44 : decode cX9_image 44 = .ok (.iload_n 1, 1) := by decide +kernel
theorem dX9_image_45 : decode cX9_image 45 = .ok (.iadd, 1) := by decide +kernel
theorem dX9_image_46 : decode cX9_image 46 = .ok (.aload_n 0, 1) := by decide +kernel
theorem dX9_image_47 : decode cX9_image 47 = .ok (.getfield 19, 3) := by decide +kernel
theorem dX9_image_50 : decode cX9_image 50 = .ok (.iload_n 1, 1) := by decide +kernel
theorem dX9_image_51 : decode cX9_image 51 = .ok (.iaload, 1) := by decide +kernel
theorem dX9_image_52 : decode cX9_image 52 = .ok (.iastore, 1) := by decide +kernel
theorem dX9_image_53 : decode cX9_image 53 = .ok (.aload_n 0, 1) := by decide +kernel
theorem dX9_image_54 : decode cX9_image 54 = .ok (.getfield 92, 3) := by decide +kernel
theorem dX9_image_57 : decode cX9_image 57 = .ok (.bipush 30, 2) := by decide +kernel
theorem dX9_image_59 : decode cX9_image 59 = .ok (.iload_n 1, 1) := by decide +kernel
theorem dX9_image_60 : decode cX9_image 60 = .ok (.iadd, 1) := by decide +kernel
theorem dX9_image_61 : decode cX9_image 61 = .ok (.aload_n 0, 1) := by decide +kernel
theorem dX9_image_62 : decode cX9_image 62 = .ok (.getfield 22, 3) := by decide +kernel
theorem dX9_image_65 : decode cX9_image 65 = .ok (.iload_n 1, 1) := by decide +kernel
theorem dX9_image_66 : decode cX9_image 66 = .ok (.iaload, 1) := by decide +kernel
theorem dX9_image_67 : decode cX9_image 67 = .ok (.iastore, 1) := by decide +kernel
theorem dX9_image_68 : decode cX9_image 68 = .ok (.iinc 1 1, 3) := by decide +kernel
theorem dX9_image_71 : decode cX9_image 71 = .ok (.goto (-38), 3) := by decide +kernel
theorem dX9_image_74 : decode cX9_image 74 = .ok (.iconst 0, 1) := by decide +kernel
theorem dX9_image_75 : decode cX9_image 75 = .ok (.istore_n 1, 1) := by decide +kernel
theorem dX9_image_76 : decode cX9_image 76 = .ok (.iload_n 1, 1) := by decide +kernel
theorem dX9_image_77 : decode cX9_image 77 = .ok (.iconst 4, 1) := by decide +kernel
theorem dX9_image_78 : decode cX9_image 78 = .ok (.if_icmp .ge 39, 3) := by decide +kernel
theorem dX9_image_81 : decode cX9_image 81 = .ok (.aload_n 0, 1) := by decide +kernel
theorem dX9_image_82 : decode cX9_image 82 = .ok (.getfield 92, 3) := by decide +kernel
theorem dX9_image_85 : decode cX9_image 85 = .ok (.bipush 35, 2) := by decide +kernel
theorem dX9_image_87 : decode cX9_image 87 = .ok (.iload_n 1, 1) := by decide +kernel
theorem dX9_image_88 : decode cX9_image 88 = .ok (.iadd, 1) := by decide +kernel
theorem dX9_image_89 : decode cX9_image 89 = .ok (.aload_n 0, 1) := by decide +kernel
theorem dX9_image_90 : decode cX9_image 90 = .ok (.getfield 25, 3) := by decide +kernel
theorem dX9_image_93 : decode cX9_image 93 = .ok (.iload_n 1, 1) := by decide +kernel
theorem dX9_image_94 : decode cX9_image 94 = .ok (.iaload, 1) := by decide +kernel
theorem dX9_image_95 : decode cX9_image 95 = .ok (.iastore, 1) := by decide +kernel
theorem dX9_image_96 : decode cX9_image 96 = .ok (.aload_n 0, 1) := by decide +kernel
theorem dX9_image_97 : decode cX9_image 97 = .ok (.getfield 92, 3) := by decide +kernel
theorem dX9_image_100 : decode cX9_image 100 = .ok (.bipush 39, 2) := by decide +kernel
theorem dX9_image_102 : decode cX9_image 102 = .ok (.iload_n 1, 1) := by decide +kernel
theorem dX9_image_103 : decode cX9_image 103 = .ok (.iadd, 1) := by decide +kernel
theorem dX9_image_104 : decode cX9_image 104 = .ok (.aload_n 0, 1) := by decide +kernel
theorem dX9_image_105 : decode cX9_image 105 = .ok (.getfield 28, 3) := by decide +kernel
theorem dX9_image_108 : decode cX9_image 108 = .ok (.iload_n 1, 1) := by decide +kernel
theorem dX9_image_109 : decode cX9_image 109 = .ok (.iaload, 1) := by decide +kernel
theorem dX9_image_110 : decode cX9_image 110 = .ok (.iastore, 1) := by decide +kernel
theorem dX9_image_111 : decode cX9_image 111 = .ok (.iinc 1 1, 3) := by decide +kernel
theorem dX9_image_114 : decode cX9_image 114 = .ok (.goto (-38), 3) := by decide +kernel
theorem dX9_image_117 : decode cX9_image 117 = .ok (.iconst 0, 1) := by decide +kernel
theorem dX9_image_118 : decode cX9_image 118 = .ok (.istore_n 1, 1) := by decide +kernel
theorem dX9_image_119 : decode cX9_image 119 = .ok (.iload_n 1, 1) := by decide +kernel
theorem dX9_image_120 : decode cX9_image 120 = .ok (.bipush 8, 2) := by decide +kernel
theorem dX9_image_122 : decode cX9_image 122 = .ok (.if_icmp .ge 84, 3) := by decide +kernel
theorem dX9_image_125 : decode cX9_image 125 = .ok (.aload_n 0, 1) := by decide +kernel
theorem dX9_image_126 : decode cX9_image 126 = .ok (.getfield 92, 3) := by decide +kernel
theorem dX9_image_129 : decode cX9_image 129 = .ok (.bipush 43, 2) := by decide +kernel
theorem dX9_image_131 : decode cX9_image 131 = .ok (.iload_n 1, 1) := by decide +kernel
theorem dX9_image_132 : decode cX9_image 132 = .ok (.iadd, 1) := by decide +kernel
theorem dX9_image_133 : decode cX9_image 133 = .ok (.aload_n 0, 1) := by decide +kernel
theorem dX9_image_134 : decode cX9_image 134 = .ok (.getfield 31, 3) := by decide +kernel
theorem dX9_image_137 : decode cX9_image 137 = .ok (.iload_n 1, 1) := by decide +kernel
theorem dX9_image_138 : decode cX9_image 138 = .ok (.iaload, 1) := by decide +kernel
theorem dX9_image_139 : decode cX9_image 139 = .ok (.iastore, 1) := by decide +kernel
theorem dX9_image_140 : decode cX9_image 140 = .ok (.aload_n 0, 1) := by decide +kernel
theorem dX9_image_141 : decode cX9_image 141 = .ok (.getfield 92, 3) := by decide +kernel
theorem dX9_image_144 : decode cX9_image 144 = .ok (.bipush 51, 2) := by decide +kernel
theorem dX9_image_146 : decode cX9_image 146 = .ok (.iload_n 1, 1) := by decide +kernel
theorem dX9_image_147 : decode cX9_image 147 = .ok (.iadd, 1) := by decide +kernel
theorem dX9_image_148 : decode cX9_image 148 = .ok (.aload_n 0, 1) := by decide +kernel
theorem dX9_image_149 : decode cX9_image 149 = .ok (.getfield 34, 3) := by decide +kernel
theorem dX9_image_152 : decode cX9_image 152 = .ok (.iload_n 1, 1) := by decide +kernel
theorem dX9_image_153 : decode cX9_image 153 = .ok (.iaload, 1) := by decide +kernel
theorem dX9_image_154 : decode cX9_image 154 = .ok (.iastore, 1) := by decide +kernel
theorem dX9_image_155 : decode cX9_image 155 = .ok (.aload_n 0, 1) := by decide +kernel
theorem dX9_image_156 : decode cX9_image 156 = .ok (.getfield 92, 3) := by decide +kernel
theorem dX9_image_159 : decode cX9_image 159 = .ok (.bipush 59, 2) := by decide +kernel
theorem dX9_image_161 : decode cX9_image 161 = .ok (.iload_n 1, 1) := by decide +kernel
theorem dX9_image_162 : decode cX9_image 162 = .ok (.iadd, 1) := by decide +kernel
theorem dX9_image_163 : decode cX9_image 163 = .ok (.aload_n 0, 1) := by decide +kernel
theorem dX9_image_164 : decode cX9_image 164 = .ok (.getfield 37, 3) := by decide +kernel
theorem dX9_image_167 : decode cX9_image 167 = .ok (.iload_n 1, 1) := by decide +kernel
theorem dX9_image_168 : decode cX9_image 168 = .ok (.iaload, 1) := by decide +kernel
theorem dX9_image_169 : decode cX9_image 169 = .ok (.iastore, 1) := by decide +kernel
theorem dX9_image_170 : decode cX9_image 170 = .ok (.aload_n 0, 1) := by decide +kernel
theorem dX9_image_171 : decode cX9_image 171 = .ok (.getfield 92, 3) := by decide +kernel
theorem dX9_image_174 : decode cX9_image 174 = .ok (.bipush 67, 2) := by decide +kernel
theorem dX9_image_176 : decode cX9_image 176 = .ok (.iload_n 1, 1) := by decide +kernel
theorem dX9_image_177 : decode cX9_image 177 = .ok (.iadd, 1) := by decide +kernel
theorem dX9_image_178 : decode cX9_image 178 = .ok (.aload_n 0, 1) := by decide +kernel
theorem dX9_image_179 : decode cX9_image 179 = .ok (.getfield 40, 3) := by decide +kernel
theorem dX9_image_182 : decode cX9_image 182 = .ok (.iload_n 1, 1) := by decide +kernel
theorem dX9_image_183 : decode cX9_image 183 = .ok (.iaload, 1) := by decide +kernel
theorem dX9_image_184 : decode cX9_image 184 = .ok (.iastore, 1) := by decide +kernel
theorem dX9_image_185 : decode cX9_image 185 = .ok (.aload_n 0, 1) := by decide +kernel
theorem dX9_image_186 : decode cX9_image 186 = .ok (.getfield 92, 3) := by decide +kernel
theorem dX9_image_189 : decode cX9_image 189 = .ok (.bipush 75, 2) := by decide +kernel
theorem dX9_image_191 : decode cX9_image 191 = .ok (.iload_n 1, 1) := by decide +kernel
theorem dX9_image_192 : decode cX9_image 192 = .ok (.iadd, 1) := by decide +kernel
theorem dX9_image_193 : decode cX9_image 193 = .ok (.aload_n 0, 1) := by decide +kernel
theorem dX9_image_194 : decode cX9_image 194 = .ok (.getfield 43, 3) := by decide +kernel
theorem dX9_image_197 : decode cX9_image 197 = .ok (.iload_n 1, 1) := by decide +kernel
theorem dX9_image_198 : decode cX9_image 198 = .ok (.iaload, 1) := by decide +kernel
theorem dX9_image_199 : decode cX9_image 199 = .ok (.iastore, 1) := by decide +kernel
theorem dX9_image_200 : decode cX9_image 200 = .ok (.iinc 1 1, 3) := by decide +kernel
theorem dX9_image_203 : decode cX9_image 203 = .ok (.goto (-84), 3) := by decide +kernel
theorem dX9_image_206 : decode cX9_image 206 = .ok (.aload_n 0, 1) := by decide +kernel
theorem dX9_image_207 : decode cX9_image 207 = .ok (.getfield 92, 3) := by decide +kernel
theorem dX9_image_210 : decode cX9_image 210 = .ok (.bipush 83, 2) := by decide +kernel
theorem dX9_image_212 : decode cX9_image 212 = .ok (.aload_n 0, 1) := by decide +kernel
theorem dX9_image_213 : decode cX9_image 213 = .ok (.getfield 9, 3) := by decide +kernel
theorem dX9_image_216 : decode cX9_image 216 = .ok (.iastore, 1) := by decide +kernel
theorem dX9_image_217 : decode cX9_image 217 = .ok (.aload_n 0, 1) := by decide +kernel
theorem dX9_image_218 : decode cX9_image 218 = .ok (.getfield 92, 3) := by decide +kernel
theorem dX9_image_221 : decode cX9_image 221 = .ok (.bipush 84, 2) := by decide +kernel
theorem dX9_image_223 : decode cX9_image 223 = .ok (.aload_n 0, 1) := by decide +kernel
theorem dX9_image_224 : decode cX9_image 224 = .ok (.getfield 239, 3) := by decide +kernel
theorem dX9_image_227 : decode cX9_image 227 = .ok (.iastore, 1) := by decide +kernel
theorem dX9_image_228 : decode cX9_image 228 = .ok (.aload_n 0, 1) := by decide +kernel
theorem dX9_image_229 : decode cX9_image 229 = .ok (.getfield 92, 3) := by decide +kernel
theorem dX9_image_232 : decode cX9_image 232 = .ok (.bipush 85, 2) := by decide +kernel
theorem dX9_image_234 : decode cX9_image 234 = .ok (.aload_n 0, 1) := by decide +kernel
theorem dX9_image_235 : decode cX9_image 235 = .ok (.getfield 251, 3) := by decide +kernel
theorem dX9_image_238 : decode cX9_image 238 = .ok (.iastore, 1) := by decide +kernel
theorem dX9_image_239 : decode cX9_image 239 = .ok (.aload_n 0, 1) := by decide +kernel
theorem dX9_image_240 : decode cX9_image 240 = .ok (.getfield 92, 3) := by decide +kernel
theorem dX9_image_243 : decode cX9_image 243 = .ok (.bipush 86, 2) := by decide +kernel
theorem dX9_image_245 : decode cX9_image 245 = .ok (.aload_n 0, 1) := by decide +kernel
theorem dX9_image_246 : decode cX9_image 246 = .ok (.getfield 258, 3) := by decide +kernel
theorem dX9_image_249 : decode cX9_image 249 = .ok (.iastore, 1) := by decide +kernel
theorem dX9_image_250 : decode cX9_image 250 = .ok (.aload_n 0, 1) := by decide +kernel
theorem dX9_image_251 : decode cX9_image 251 = .ok (.invokevirtual 169, 3) := by decide +kernel
theorem dX9_image_254 : decode cX9_image 254 = .ok (.ireturn, 1) := by decide +kernel
set_option maxRecDepth 20000 in
theorem ggX9_undo_X9_girth : GoodIn wsX9_undo wsX9_girth := goodIn_r _ [21, 13, 22, 23, 24, 20, 25, 2, 26, 27, 28, 29, 30, 31, 32, 33, 34, 35, 36, 37, 38, 39, 40, 41, 42, 43, 44, 45, 46, 47, 48, 49, 50, 51, 52, 53, 54, 55, 56, 57, 58, 59, 60] (by decide +kernel) (by decide +kernel)
set_option maxRecDepth 20000 in
theorem gX9_undo_X9_girth : GoodIn wsX9_undo (wsV RX9 169 RX9 yX9_girth wsX9_girth) := goodIn_app (goodIn_of _ (by decide +kernel)) ggX9_undo_X9_girth
theorem dX9_undo_0 : decode cX9_undo 0 = .ok (.aload_n 0, 1) := by decide +kernel
theorem dX9_undo_1 : decode cX9_undo 1 = .ok (.getfield 303, 3) := by decide +kernel
theorem dX9_undo_4 : decode cX9_undo 4 = .ok (.ifCond .ne 6, 3) := by decide +kernel
theorem dX9_undo_7 : decode cX9_undo 7 = .ok (.bipush (-3), 2) := by decide +kernel
theorem dX9_undo_9 : decode cX9_undo 9 = .ok (.ireturn, 1) := by decide +kernel
theorem dX9_undo_10 : decode cX9_undo 10 = .ok (.iconst 0, 1) := by decide +kernel
theorem dX9_undo_11 : decode cX9_undo 11 = .ok (.istore_n 1, 1) := by decide +kernel
theorem dX9_undo_12 : decode cX9_undo 12 = .ok (.iload_n 1, 1) := by decide +kernel
theorem dX9_undo_13 : decode cX9_undo 13 = .ok (.bipush 25, 2) := by decide +kernel
theorem dX9_undo_15 : decode cX9_undo 15 = .ok (.if_icmp .ge 21, 3) := by decide +kernel
theorem dX9_undo_18 : decode cX9_undo 18 = .ok (.aload_n 0, 1) := by decide +kernel
theorem dX9_undo_19 : decode cX9_undo 19 = .ok (.getfield 15, 3) := by decide +kernel
theorem dX9_undo_22 : decode cX9_undo 22 = .ok (.iload_n 1, 1) := by decide +kernel
theorem dX9_undo_23 : decode cX9_undo 23 = .ok (.aload_n 0, 1) := by decide +kernel
theorem dX9_undo_24 : decode cX9_undo 24 = .ok (.getfield 92, 3) := by decide +kernel
theorem dX9_undo_27 : decode cX9_undo 27 = .ok (.iload_n 1, 1) := by decide +kernel
theorem dX9_undo_28 : decode cX9_undo 28 = .ok (.iaload, 1) := by decide +kernel
theorem dX9_undo_29 : decode cX9_undo 29 = .ok (.iastore, 1) := by decide +kernel
theorem dX9_undo_30 : decode cX9_undo 30 = .ok (.iinc 1 1, 3) := by decide +kernel
theorem dX9_undo_33 : decode cX9_undo 33 = .ok (.goto (-21), 3) := by decide +kernel
theorem dX9_undo_36 : decode cX9_undo 36 = .ok (.iconst 0, 1) := by decide +kernel
theorem dX9_undo_37 : decode cX9_undo 37 = .ok (.istore_n 1, 1) := by decide +kernel
theorem dX9_undo_38 : decode cX9_undo 38 = .ok (.iload_n 1, 1) := by decide +kernel
theorem dX9_undo_39 : decode cX9_undo 39 = .ok (.iconst 5, 1) := by decide +kernel
theorem dX9_undo_40 : decode cX9_undo 40 = .ok (.if_icmp .ge 39, 3) := by decide +kernel
theorem dX9_undo_43 : decode cX9_undo 43 = .ok (.aload_n 0, 1) := by decide +kernel
theorem dX9_undo_44 : decode cX9_undo 44 = .ok (.getfield 19, 3) := by decide +kernel
theorem dX9_undo_47 : decode cX9_undo 47 = .ok (.iload_n 1, 1) := by decide +kernel
theorem dX9_undo_48 : decode cX9_undo 48 = .ok (.aload_n 0, 1) := by decide +kernel
theorem dX9_undo_49 : decode cX9_undo 49 = .ok (.getfield 92, 3) := by decide +kernel
theorem dX9_undo_52 : decode cX9_undo 52 = .ok (.bipush 25, 2) := by decide +kernel
theorem dX9_undo_54 : decode cX9_undo 54 = .ok (.iload_n 1, 1) := by decide +kernel
theorem dX9_undo_55 : decode cX9_undo 55 = .ok (.iadd, 1) := by decide +kernel
theorem dX9_undo_56 : decode cX9_undo 56 = .ok (.iaload, 1) := by decide +kernel
theorem dX9_undo_57 : decode cX9_undo 57 = .ok (.iastore, 1) := by decide +kernel
theorem dX9_undo_58 : decode cX9_undo 58 = .ok (.aload_n 0, 1) := by decide +kernel
theorem dX9_undo_59 : decode cX9_undo 59 = .ok (.getfield 22, 3) := by decide +kernel
theorem dX9_undo_62 : decode cX9_undo 62 = .ok (.iload_n 1, 1) := by decide +kernel
theorem dX9_undo_63 : decode cX9_undo 63 = .ok (.aload_n 0, 1) := by decide +kernel
theorem dX9_undo_64 : decode cX9_undo 64 = .ok (.getfield 92, 3) := by decide +kernel
theorem dX9_undo_67 : decode cX9_undo 67 = .ok (.bipush 30, 2) := by decide +kernel
theorem dX9_undo_69 : decode cX9_undo 69 = .ok (.iload_n 1, 1) := by decide +kernel
theorem dX9_undo_70 : decode cX9_undo 70 = .ok (.iadd, 1) := by decide +kernel
theorem dX9_undo_71 : decode cX9_undo 71 = .ok (.iaload, 1) := by decide +kernel
theorem dX9_undo_72 : decode cX9_undo 72 = .ok (.iastore, 1) := by decide +kernel
theorem dX9_undo_73 : decode cX9_undo 73 = .ok (.iinc 1 1, 3) := by decide +kernel
theorem dX9_undo_76 : decode cX9_undo 76 = .ok (.goto (-38), 3) := by decide +kernel
theorem dX9_undo_79 : decode cX9_undo 79 = .ok (.iconst 0, 1) := by decide +kernel
theorem dX9_undo_80 : decode cX9_undo 80 = .ok (.istore_n 1, 1) := by decide +kernel
theorem dX9_undo_81 : decode cX9_undo 81 = .ok (.iload_n 1, 1) := by decide +kernel
theorem dX9_undo_82 : decode cX9_undo 82 = .ok (.iconst 4, 1) := by decide +kernel
theorem dX9_undo_83 : decode cX9_undo 83 = .ok (.if_icmp .ge 39, 3) := by decide +kernel
theorem dX9_undo_86 : decode cX9_undo 86 = .ok (.aload_n 0, 1) := by decide +kernel
theorem dX9_undo_87 : decode cX9_undo 87 = .ok (.getfield 25, 3) := by decide +kernel
theorem dX9_undo_90 : decode cX9_undo 90 = .ok (.iload_n 1, 1) := by decide +kernel
theorem dX9_undo_91 : decode cX9_undo 91 = .ok (.aload_n 0, 1) := by decide +kernel
theorem dX9_undo_92 : decode cX9_undo 92 = .ok (.getfield 92, 3) := by decide +kernel
theorem dX9_undo_95 : decode cX9_undo 95 = .ok (.bipush 35, 2) := by decide +kernel
theorem dX9_undo_97 : decode cX9_undo 97 = .ok (.iload_n 1, 1) := by decide +kernel
theorem dX9_undo_98 : decode cX9_undo 98 = .ok (.iadd, 1) := by decide +kernel
theorem dX9_undo_99 : decode cX9_undo 99 = .ok (.iaload, 1) := by decide +kernel
theorem dX9_undo_100 : decode cX9_undo 100 = .ok (.iastore, 1) := by decide +kernel
theorem dX9_undo_101 : decode cX9_undo 101 = .ok (.aload_n 0, 1) := by decide +kernel
theorem dX9_undo_102 : decode cX9_undo 102 = .ok (.getfield 28, 3) := by decide +kernel
theorem dX9_undo_105 : decode cX9_undo 105 = .ok (.iload_n 1, 1) := by decide +kernel
theorem dX9_undo_106 : decode cX9_undo 106 = .ok (.aload_n 0, 1) := by decide +kernel
theorem dX9_undo_107 : decode cX9_undo 107 = .ok (.getfield 92, 3) := by decide +kernel
theorem dX9_undo_110 : decode cX9_undo 110 = .ok (.bipush 39, 2) := by decide +kernel
theorem dX9_undo_112 : decode cX9_undo 112 = .ok (.iload_n 1, 1) := by decide +kernel
theorem dX9_undo_113 : decode cX9_undo 113 = .ok (.iadd, 1) := by decide +kernel
theorem dX9_undo_114 : decode cX9_undo 114 = .ok (.iaload, 1) := by decide +kernel
theorem dX9_undo_115 : decode cX9_undo 115 = .ok (.iastore, 1) := by decide +kernel
theorem dX9_undo_116 : decode cX9_undo 116 = .ok (.iinc 1 1, 3) := by decide +kernel
theorem dX9_undo_119 : decode cX9_undo 119 = .ok (.goto (-38), 3) := by decide +kernel
theorem dX9_undo_122 : decode cX9_undo 122 = .ok (.iconst 0, 1) := by decide +kernel
theorem dX9_undo_123 : decode cX9_undo 123 = .ok (.istore_n 1, 1) := by decide +kernel
theorem dX9_undo_124 : decode cX9_undo 124 = .ok (.iload_n 1, 1) := by decide +kernel
theorem dX9_undo_125 : decode cX9_undo 125 = .ok (.bipush 8, 2) := by decide +kernel
theorem dX9_undo_127 : decode cX9_undo 127 = .ok (.if_icmp .ge 84, 3) := by decide +kernel
theorem dX9_undo_130 : decode cX9_undo 130 = .ok (.aload_n 0, 1) := by decide +kernel
theorem dX9_undo_131 : decode cX9_undo 131 = .ok (.getfield 31, 3) := by decide +kernel
theorem dX9_undo_134 : decode cX9_undo 134 = .ok (.iload_n 1, 1) := by decide +kernel
theorem dX9_undo_135 : decode cX9_undo 135 = .ok (.aload_n 0, 1) := by decide +kernel
theorem dX9_undo_136 : decode cX9_undo 136 = .ok (.getfield 92, 3) := by decide +kernel
theorem dX9_undo_139 : decode cX9_undo 139 = .ok (.bipush 43, 2) := by decide +kernel
theorem dX9_undo_141 : decode cX9_undo 141 = .ok (.iload_n 1, 1) := by decide +kernel
theorem dX9_undo_142 : decode cX9_undo 142 = .ok (.iadd, 1) := by decide +kernel
theorem dX9_undo_143 : decode cX9_undo 143 = .ok (.iaload, 1) := by decide +kernel
theorem dX9_undo_144 : decode cX9_undo 144 = .ok (.iastore, 1) := by decide +kernel
theorem dX9_undo_145 : decode cX9_undo 145 = .ok (.aload_n 0, 1) := by decide +kernel
theorem dX9_undo_146 : decode cX9_undo 146 = .ok (.getfield 34, 3) := by decide +kernel
theorem dX9_undo_149 : decode cX9_undo 149 = .ok (.iload_n 1, 1) := by decide +kernel
theorem dX9_undo_150 : decode cX9_undo 150 = .ok (.aload_n 0, 1) := by decide +kernel
theorem dX9_undo_151 : decode cX9_undo 151 = .ok (.getfield 92, 3) := by decide +kernel
theorem dX9_undo_154 : decode cX9_undo 154 = .ok (.bipush 51, 2) := by decide +kernel
theorem dX9_undo_156 : decode cX9_undo 156 = .ok (.iload_n 1, 1) := by decide +kernel
theorem dX9_undo_157 : decode cX9_undo 157 = .ok (.iadd, 1) := by decide +kernel
theorem dX9_undo_158 : decode cX9_undo 158 = .ok (.iaload, 1) := by decide +kernel
theorem dX9_undo_159 : decode cX9_undo 159 = .ok (.iastore, 1) := by decide +kernel
theorem dX9_undo_160 : decode cX9_undo 160 = .ok (.aload_n 0, 1) := by decide +kernel
theorem dX9_undo_161 : decode cX9_undo 161 = .ok (.getfield 37, 3) := by decide +kernel
theorem dX9_undo_164 : decode cX9_undo 164 = .ok (.iload_n 1, 1) := by decide +kernel
theorem dX9_undo_165 : decode cX9_undo 165 = .ok (.aload_n 0, 1) := by decide +kernel
theorem dX9_undo_166 : decode cX9_undo 166 = .ok (.getfield 92, 3) := by decide +kernel
theorem dX9_undo_169 : decode cX9_undo 169 = .ok (.bipush 59, 2) := by decide +kernel
theorem dX9_undo_171 : decode cX9_undo 171 = .ok (.iload_n 1, 1) := by decide +kernel
theorem dX9_undo_172 : decode cX9_undo 172 = .ok (.iadd, 1) := by decide +kernel
theorem dX9_undo_173 : decode cX9_undo 173 = .ok (.iaload, 1) := by decide +kernel
theorem dX9_undo_174 : decode cX9_undo 174 = .ok (.iastore, 1) := by decide +kernel
theorem dX9_undo_175 : decode cX9_undo 175 = .ok (.aload_n 0, 1) := by decide +kernel
theorem dX9_undo_176 : decode cX9_undo 176 = .ok (.getfield 40, 3) := by decide +kernel
theorem dX9_undo_179 : decode cX9_undo 179 = .ok (.iload_n 1, 1) := by decide +kernel
theorem dX9_undo_180 : decode cX9_undo 180 = .ok (.aload_n 0, 1) := by decide +kernel
theorem dX9_undo_181 : decode cX9_undo 181 = .ok (.getfield 92, 3) := by decide +kernel
theorem dX9_undo_184 : decode cX9_undo 184 = .ok (.bipush 67, 2) := by decide +kernel
theorem dX9_undo_186 : decode cX9_undo 186 = .ok (.iload_n 1, 1) := by decide +kernel
theorem dX9_undo_187 : decode cX9_undo 187 = .ok (.iadd, 1) := by decide +kernel
theorem dX9_undo_188 : decode cX9_undo 188 = .ok (.iaload, 1) := by decide +kernel
theorem dX9_undo_189 : decode cX9_undo 189 = .ok (.iastore, 1) := by decide +kernel
theorem dX9_undo_190 : decode cX9_undo 190 = .ok (.aload_n 0, 1) := by decide +kernel
theorem dX9_undo_191 : decode cX9_undo 191 = .ok (.getfield 43, 3) := by decide +kernel
theorem dX9_undo_194 : decode cX9_undo 194 = .ok (.iload_n 1, 1) := by decide +kernel
theorem dX9_undo_195 : decode cX9_undo 195 = .ok (.aload_n 0, 1) := by decide +kernel
theorem dX9_undo_196 : decode cX9_undo 196 = .ok (.getfield 92, 3) := by decide +kernel
theorem dX9_undo_199 : decode cX9_undo 199 = .ok (.bipush 75, 2) := by decide +kernel
theorem dX9_undo_201 : decode cX9_undo 201 = .ok (.iload_n 1, 1) := by decide +kernel
theorem dX9_undo_202 : decode cX9_undo 202 = .ok (.iadd, 1) := by decide +kernel
theorem dX9_undo_203 : decode cX9_undo 203 = .ok (.iaload, 1) := by decide +kernel
theorem dX9_undo_204 : decode cX9_undo 204 = .ok (.iastore, 1) := by decide +kernel
theorem dX9_undo_205 : decode cX9_undo 205 = .ok (.iinc 1 1, 3) := by decide +kernel
theorem dX9_undo_208 : decode cX9_undo 208 = .ok (.goto (-84), 3) := by decide +kernel
theorem dX9_undo_211 : decode cX9_undo 211 = .ok (.aload_n 0, 1) := by decide +kernel
theorem dX9_undo_212 : decode cX9_undo 212 = .ok (.aload_n 0, 1) := by decide +kernel
theorem dX9_undo_213 : decode cX9_undo 213 = .ok (.getfield 92, 3) := by decide +kernel
theorem dX9_undo_216 : decode cX9_undo 216 = .ok (.bipush 83, 2) := by decide +kernel
theorem dX9_undo_218 : decode cX9_undo 218 = .ok (.iaload, 1) := by decide +kernel
theorem dX9_undo_219 : decode cX9_undo 219 = .ok (.putfield 9, 3) := by decide +kernel
theorem dX9_undo_222 : decode cX9_undo 222 = .ok (.aload_n 0, 1) := by decide +kernel
theorem dX9_undo_223 : decode cX9_undo 223 = .ok (.aload_n 0, 1) := by decide +kernel
theorem dX9_undo_224 : decode cX9_undo 224 = .ok (.getfield 92, 3) := by decide +kernel
theorem dX9_undo_227 : decode cX9_undo 227 = .ok (.bipush 84, 2) := by decide +kernel
theorem dX9_undo_229 : decode cX9_undo 229 = .ok (.iaload, 1) := by decide +kernel
theorem dX9_undo_230 : decode cX9_undo 230 = .ok (.putfield 239, 3) := by decide +kernel
theorem dX9_undo_233 : decode cX9_undo 233 = .ok (.aload_n 0, 1) := by decide +kernel
theorem dX9_undo_234 : decode cX9_undo 234 = .ok (.aload_n 0, 1) := by decide +kernel
theorem dX9_undo_235 : decode cX9_undo 235 = .ok (.getfield 92, 3) := by decide +kernel
theorem dX9_undo_238 : decode cX9_undo 238 = .ok (.bipush 85, 2) := by decide +kernel
theorem dX9_undo_240 : decode cX9_undo 240 = .ok (.iaload, 1) := by decide +kernel
theorem dX9_undo_241 : decode cX9_undo 241 = .ok (.putfield 251, 3) := by decide +kernel
theorem dX9_undo_244 : decode cX9_undo 244 = .ok (.aload_n 0, 1) := by decide +kernel
theorem dX9_undo_245 : decode cX9_undo 245 = .ok (.aload_n 0, 1) := by decide +kernel
theorem dX9_undo_246 : decode cX9_undo 246 = .ok (.getfield 92, 3) := by decide +kernel
theorem dX9_undo_249 : decode cX9_undo 249 = .ok (.bipush 86, 2) := by decide +kernel
theorem dX9_undo_251 : decode cX9_undo 251 = .ok (.iaload, 1) := by decide +kernel
theorem dX9_undo_252 : decode cX9_undo 252 = .ok (.putfield 258, 3) := by decide +kernel
theorem dX9_undo_255 : decode cX9_undo 255 = .ok (.aload_n 0, 1) := by decide +kernel
theorem dX9_undo_256 : decode cX9_undo 256 = .ok (.invokevirtual 169, 3) := by decide +kernel
theorem dX9_undo_259 : decode cX9_undo 259 = .ok (.ireturn, 1) := by decide +kernel
theorem dX9_count_0 : decode cX9_count 0 = .ok (.iload_n 1, 1) := by decide +kernel
theorem dX9_count_1 : decode cX9_count 1 = .ok (.tableswitch 51 0 3 #[31, 36, 41, 46], 31) := by decide +kernel
theorem dX9_count_32 : decode cX9_count 32 = .ok (.aload_n 0, 1) := by decide +kernel
theorem dX9_count_33 : decode cX9_count 33 = .ok (.getfield 239, 3) := by decide +kernel
theorem dX9_count_36 : decode cX9_count 36 = .ok (.ireturn, 1) := by decide +kernel
theorem dX9_count_37 : decode cX9_count 37 = .ok (.aload_n 0, 1) := by decide +kernel
theorem dX9_count_38 : decode cX9_count 38 = .ok (.getfield 251, 3) := by decide +kernel
theorem dX9_count_41 : decode cX9_count 41 = .ok (.ireturn, 1) := by decide +kernel
theorem dX9_count_42 : decode cX9_count 42 = .ok (.aload_n 0, 1) := by decide +kernel
theorem dX9_count_43 : decode cX9_count 43 = .ok (.getfield 258, 3) := by decide +kernel
theorem dX9_count_46 : decode cX9_count 46 = .ok (.ireturn, 1) := by decide +kernel
theorem dX9_count_47 : decode cX9_count 47 = .ok (.aload_n 0, 1) := by decide +kernel
theorem dX9_count_48 : decode cX9_count 48 = .ok (.getfield 261, 3) := by decide +kernel
theorem dX9_count_51 : decode cX9_count 51 = .ok (.ireturn, 1) := by decide +kernel
theorem dX9_count_52 : decode cX9_count 52 = .ok (.bipush (-2), 2) := by decide +kernel
theorem dX9_count_54 : decode cX9_count 54 = .ok (.ireturn, 1) := by decide +kernel
set_option maxRecDepth 20000 in
theorem ggX9_tape_X9_isTape : GoodIn wsX9_tape wsX9_isTape := goodIn_r _ [7, 8, 9, 6, 10] (by decide +kernel) (by decide +kernel)
set_option maxRecDepth 20000 in
theorem gX9_tape_X9_isTape : GoodIn wsX9_tape (va_wsS RX9 300 yX9_isTape wsX9_isTape) := goodIn_app (goodIn_of _ (by decide +kernel)) ggX9_tape_X9_isTape
set_option maxRecDepth 20000 in
theorem ggX9_tape_X9_in : GoodIn wsX9_tape wsX9_in := goodIn_r _ [10] (by decide +kernel) (by decide +kernel)
set_option maxRecDepth 20000 in
theorem gX9_tape_X9_in : GoodIn wsX9_tape (va_wsS RX9 95 yX9_in wsX9_in) := goodIn_app (goodIn_of _ (by decide +kernel)) ggX9_tape_X9_in
theorem dX9_tape_0 : decode cX9_tape 0 = .ok (.iload_n 1, 1) := by decide +kernel
theorem dX9_tape_1 : decode cX9_tape 1 = .ok (.invokestatic 300, 3) := by decide +kernel
theorem dX9_tape_4 : decode cX9_tape 4 = .ok (.ifCond .ne 5, 3) := by decide +kernel
theorem dX9_tape_7 : decode cX9_tape 7 = .ok (.iconst (-1), 1) := by decide +kernel
theorem dX9_tape_8 : decode cX9_tape 8 = .ok (.ireturn, 1) := by decide +kernel
theorem dX9_tape_9 : decode cX9_tape 9 = .ok (.iload_n 2, 1) := by decide +kernel
theorem dX9_tape_10 : decode cX9_tape 10 = .ok (.iconst (-1), 1) := by decide +kernel
theorem dX9_tape_11 : decode cX9_tape 11 = .ok (.iconst 4, 1) := by decide +kernel
theorem dX9_tape_12 : decode cX9_tape 12 = .ok (.invokestatic 95, 3) := by decide +kernel
theorem dX9_tape_15 : decode cX9_tape 15 = .ok (.ifCond .eq 13, 3) := by decide +kernel
theorem dX9_tape_18 : decode cX9_tape 18 = .ok (.iload_n 2, 1) := by decide +kernel
theorem dX9_tape_19 : decode cX9_tape 19 = .ok (.ifCond .lt 12, 3) := by decide +kernel
theorem dX9_tape_22 : decode cX9_tape 22 = .ok (.iload_n 3, 1) := by decide +kernel
theorem dX9_tape_23 : decode cX9_tape 23 = .ok (.bipush 60, 2) := by decide +kernel
theorem dX9_tape_25 : decode cX9_tape 25 = .ok (.if_icmp .le 6, 3) := by decide +kernel
theorem dX9_tape_28 : decode cX9_tape 28 = .ok (.bipush (-2), 2) := by decide +kernel
theorem dX9_tape_30 : decode cX9_tape 30 = .ok (.ireturn, 1) := by decide +kernel
theorem dX9_tape_31 : decode cX9_tape 31 = .ok (.iload_n 2, 1) := by decide +kernel
theorem dX9_tape_32 : decode cX9_tape 32 = .ok (.ifCond .lt 10, 3) := by decide +kernel
theorem dX9_tape_35 : decode cX9_tape 35 = .ok (.iload_n 3, 1) := by decide +kernel
theorem dX9_tape_36 : decode cX9_tape 36 = .ok (.ifCond .ge 6, 3) := by decide +kernel
theorem dX9_tape_39 : decode cX9_tape 39 = .ok (.bipush (-14), 2) := by decide +kernel
theorem dX9_tape_41 : decode cX9_tape 41 = .ok (.ireturn, 1) := by decide +kernel
theorem dX9_tape_42 : decode cX9_tape 42 = .ok (.aload_n 0, 1) := by decide +kernel
theorem dX9_tape_43 : decode cX9_tape 43 = .ok (.getfield 49, 3) := by decide +kernel
theorem dX9_tape_46 : decode cX9_tape 46 = .ok (.iload_n 1, 1) := by decide +kernel
theorem dX9_tape_47 : decode cX9_tape 47 = .ok (.iload_n 2, 1) := by decide +kernel
theorem dX9_tape_48 : decode cX9_tape 48 = .ok (.iastore, 1) := by decide +kernel
theorem dX9_tape_49 : decode cX9_tape 49 = .ok (.aload_n 0, 1) := by decide +kernel
theorem dX9_tape_50 : decode cX9_tape 50 = .ok (.getfield 52, 3) := by decide +kernel
theorem dX9_tape_53 : decode cX9_tape 53 = .ok (.iload_n 1, 1) := by decide +kernel
theorem dX9_tape_54 : decode cX9_tape 54 = .ok (.iload_n 2, 1) := by decide +kernel
theorem dX9_tape_55 : decode cX9_tape 55 = .ok (.ifCond .ge 7, 3) := by decide +kernel
theorem dX9_tape_58 : decode cX9_tape 58 = .ok (.iconst 0, 1) := by decide +kernel
theorem dX9_tape_59 : decode cX9_tape 59 = .ok (.goto 4, 3) := by decide +kernel
theorem dX9_tape_62 : decode cX9_tape 62 = .ok (.iload_n 3, 1) := by decide +kernel
theorem dX9_tape_63 : decode cX9_tape 63 = .ok (.iastore, 1) := by decide +kernel
theorem dX9_tape_64 : decode cX9_tape 64 = .ok (.iconst 0, 1) := by decide +kernel
theorem dX9_tape_65 : decode cX9_tape 65 = .ok (.istore 4, 2) := by decide +kernel
theorem dX9_tape_67 : decode cX9_tape 67 = .ok (.iload 4, 2) := by decide +kernel
theorem dX9_tape_69 : decode cX9_tape 69 = .ok (.aload_n 0, 1) := by decide +kernel
theorem dX9_tape_70 : decode cX9_tape 70 = .ok (.getfield 52, 3) := by decide +kernel
theorem dX9_tape_73 : decode cX9_tape 73 = .ok (.iload_n 1, 1) := by decide +kernel
theorem dX9_tape_74 : decode cX9_tape 74 = .ok (.iaload, 1) := by decide +kernel
theorem dX9_tape_75 : decode cX9_tape 75 = .ok (.if_icmp .ge 22, 3) := by decide +kernel
theorem dX9_tape_78 : decode cX9_tape 78 = .ok (.aload_n 0, 1) := by decide +kernel
theorem dX9_tape_79 : decode cX9_tape 79 = .ok (.getfield 55, 3) := by decide +kernel
theorem dX9_tape_82 : decode cX9_tape 82 = .ok (.bipush 60, 2) := by decide +kernel
theorem dX9_tape_84 : decode cX9_tape 84 = .ok (.iload_n 1, 1) := by decide +kernel
theorem dX9_tape_85 : decode cX9_tape 85 = .ok (.imul, 1) := by decide +kernel
theorem dX9_tape_86 : decode cX9_tape 86 = .ok (.iload 4, 2) := by decide +kernel
theorem dX9_tape_88 : decode cX9_tape 88 = .ok (.iadd, 1) := by decide +kernel
theorem dX9_tape_89 : decode cX9_tape 89 = .ok (.lconst 0, 1) := by decide +kernel
theorem dX9_tape_90 : decode cX9_tape 90 = .ok (.lastore, 1) := by decide +kernel
theorem dX9_tape_91 : decode cX9_tape 91 = .ok (.iinc 4 1, 3) := by decide +kernel
theorem dX9_tape_94 : decode cX9_tape 94 = .ok (.goto (-27), 3) := by decide +kernel
theorem dX9_tape_97 : decode cX9_tape 97 = .ok (.iconst 1, 1) := by decide +kernel
theorem dX9_tape_98 : decode cX9_tape 98 = .ok (.ireturn, 1) := by decide +kernel
theorem dX9_lowest_0 : decode cX9_lowest 0 = .ok (.iload_n 0, 1) := by decide +kernel
theorem dX9_lowest_1 : decode cX9_lowest 1 = .ok (.tableswitch 47 0 3 #[31, 36, 41, 45], 31) := by decide +kernel
theorem dX9_lowest_32 : decode cX9_lowest 32 = .ok (.lload_n 1, 1) := by decide +kernel
theorem dX9_lowest_33 : decode cX9_lowest 33 = .ok (.l2i, 1) := by decide +kernel
theorem dX9_lowest_34 : decode cX9_lowest 34 = .ok (.i2b, 1) := by decide +kernel
theorem dX9_lowest_35 : decode cX9_lowest 35 = .ok (.i2l, 1) := by decide +kernel
theorem dX9_lowest_36 : decode cX9_lowest 36 = .ok (.lreturn, 1) := by decide +kernel
theorem dX9_lowest_37 : decode cX9_lowest 37 = .ok (.lload_n 1, 1) := by decide +kernel
theorem dX9_lowest_38 : decode cX9_lowest 38 = .ok (.l2i, 1) := by decide +kernel
theorem dX9_lowest_39 : decode cX9_lowest 39 = .ok (.i2s, 1) := by decide +kernel
theorem dX9_lowest_40 : decode cX9_lowest 40 = .ok (.i2l, 1) := by decide +kernel
theorem dX9_lowest_41 : decode cX9_lowest 41 = .ok (.lreturn, 1) := by decide +kernel
theorem dX9_lowest_42 : decode cX9_lowest 42 = .ok (.lload_n 1, 1) := by decide +kernel
theorem dX9_lowest_43 : decode cX9_lowest 43 = .ok (.l2i, 1) := by decide +kernel
theorem dX9_lowest_44 : decode cX9_lowest 44 = .ok (.i2l, 1) := by decide +kernel
theorem dX9_lowest_45 : decode cX9_lowest 45 = .ok (.lreturn, 1) := by decide +kernel
theorem dX9_lowest_46 : decode cX9_lowest 46 = .ok (.lload_n 1, 1) := by decide +kernel
theorem dX9_lowest_47 : decode cX9_lowest 47 = .ok (.lreturn, 1) := by decide +kernel
theorem dX9_lowest_48 : decode cX9_lowest 48 = .ok (.lload_n 1, 1) := by decide +kernel
theorem dX9_lowest_49 : decode cX9_lowest 49 = .ok (.lconst 0, 1) := by decide +kernel
theorem dX9_lowest_50 : decode cX9_lowest 50 = .ok (.lcmp, 1) := by decide +kernel
theorem dX9_lowest_51 : decode cX9_lowest 51 = .ok (.ifCond .eq 7, 3) := by decide +kernel
theorem dX9_lowest_54 : decode cX9_lowest 54 = .ok (.lconst 1, 1) := by decide +kernel
theorem dX9_lowest_55 : decode cX9_lowest 55 = .ok (.goto 4, 3) := by decide +kernel
theorem dX9_lowest_58 : decode cX9_lowest 58 = .ok (.lconst 0, 1) := by decide +kernel
theorem dX9_lowest_59 : decode cX9_lowest 59 = .ok (.lreturn, 1) := by decide +kernel
set_option maxRecDepth 20000 in
theorem ggX9_item_X9_isTape : GoodIn wsX9_item wsX9_isTape := goodIn_r _ [7, 8, 9, 6, 10] (by decide +kernel) (by decide +kernel)
set_option maxRecDepth 20000 in
theorem gX9_item_X9_isTape : GoodIn wsX9_item (va_wsS RX9 300 yX9_isTape wsX9_isTape) := goodIn_app (goodIn_of _ (by decide +kernel)) ggX9_item_X9_isTape
set_option maxRecDepth 20000 in
theorem ggX9_item_X9_in : GoodIn wsX9_item wsX9_in := goodIn_r _ [10] (by decide +kernel) (by decide +kernel)
set_option maxRecDepth 20000 in
theorem gX9_item_X9_in : GoodIn wsX9_item (va_wsS RX9 95 yX9_in wsX9_in) := goodIn_app (goodIn_of _ (by decide +kernel)) ggX9_item_X9_in
set_option maxRecDepth 20000 in
theorem ggX9_item_X9_lowest : GoodIn wsX9_item wsX9_lowest := goodIn_r _ [13] (by decide +kernel) (by decide +kernel)
set_option maxRecDepth 20000 in
theorem gX9_item_X9_lowest : GoodIn wsX9_item (va_wsS RX9 307 yX9_lowest wsX9_lowest) := goodIn_app (goodIn_of _ (by decide +kernel)) ggX9_item_X9_lowest
theorem dX9_item_0 : decode cX9_item 0 = .ok (.iload_n 1, 1) := by decide +kernel
theorem dX9_item_1 : decode cX9_item 1 = .ok (.invokestatic 300, 3) := by decide +kernel
theorem dX9_item_4 : decode cX9_item 4 = .ok (.ifCond .ne 5, 3) := by decide +kernel
theorem dX9_item_7 : decode cX9_item 7 = .ok (.iconst (-1), 1) := by decide +kernel
theorem dX9_item_8 : decode cX9_item 8 = .ok (.ireturn, 1) := by decide +kernel
theorem dX9_item_9 : decode cX9_item 9 = .ok (.aload_n 0, 1) := by decide +kernel
theorem dX9_item_10 : decode cX9_item 10 = .ok (.getfield 49, 3) := by decide +kernel
theorem dX9_item_13 : decode cX9_item 13 = .ok (.iload_n 1, 1) := by decide +kernel
theorem dX9_item_14 : decode cX9_item 14 = .ok (.iaload, 1) := by decide +kernel
theorem dX9_item_15 : decode cX9_item 15 = .ok (.ifCond .ge 6, 3) := by decide +kernel
theorem dX9_item_18 : decode cX9_item 18 = .ok (.bipush (-11), 2) := by decide +kernel
theorem dX9_item_20 : decode cX9_item 20 = .ok (.ireturn, 1) := by decide +kernel
theorem dX9_item_21 : decode cX9_item 21 = .ok (.iload_n 2, 1) := by decide +kernel
theorem dX9_item_22 : decode cX9_item 22 = .ok (.iconst 0, 1) := by decide +kernel
theorem dX9_item_23 : decode cX9_item 23 = .ok (.aload_n 0, 1) := by decide +kernel
theorem dX9_item_24 : decode cX9_item 24 = .ok (.getfield 52, 3) := by decide +kernel
theorem dX9_item_27 : decode cX9_item 27 = .ok (.iload_n 1, 1) := by decide +kernel
theorem dX9_item_28 : decode cX9_item 28 = .ok (.iaload, 1) := by decide +kernel
theorem dX9_item_29 : decode cX9_item 29 = .ok (.iconst 1, 1) := by decide +kernel
theorem dX9_item_30 : decode cX9_item 30 = .ok (.isub, 1) := by decide +kernel
theorem dX9_item_31 : decode cX9_item 31 = .ok (.invokestatic 95, 3) := by decide +kernel
theorem dX9_item_34 : decode cX9_item 34 = .ok (.ifCond .ne 6, 3) := by decide +kernel
theorem dX9_item_37 : decode cX9_item 37 = .ok (.bipush (-13), 2) := by decide +kernel
theorem dX9_item_39 : decode cX9_item 39 = .ok (.ireturn, 1) := by decide +kernel
theorem dX9_item_40 : decode cX9_item 40 = .ok (.aload_n 0, 1) := by decide +kernel
theorem dX9_item_41 : decode cX9_item 41 = .ok (.getfield 55, 3) := by decide +kernel
theorem dX9_item_44 : decode cX9_item 44 = .ok (.bipush 60, 2) := by decide +kernel
theorem dX9_item_46 : decode cX9_item 46 = .ok (.iload_n 1, 1) := by decide +kernel
theorem dX9_item_47 : decode cX9_item 47 = .ok (.imul, 1) := by decide +kernel
theorem dX9_item_48 : decode cX9_item 48 = .ok (.iload_n 2, 1) := by decide +kernel
theorem dX9_item_49 : decode cX9_item 49 = .ok (.iadd, 1) := by decide +kernel
theorem dX9_item_50 : decode cX9_item 50 = .ok (.aload_n 0, 1) := by decide +kernel
theorem dX9_item_51 : decode cX9_item 51 = .ok (.getfield 49, 3) := by decide +kernel
theorem dX9_item_54 : decode cX9_item 54 = .ok (.iload_n 1, 1) := by decide +kernel
theorem dX9_item_55 : decode cX9_item 55 = .ok (.iaload, 1) := by decide +kernel
theorem dX9_item_56 : decode cX9_item 56 = .ok (.lload_n 3, 1) := by decide +kernel
theorem dX9_item_57 : decode cX9_item 57 = .ok (.invokestatic 307, 3) := by decide +kernel
theorem dX9_item_60 : decode cX9_item 60 = .ok (.lastore, 1) := by decide +kernel
theorem dX9_item_61 : decode cX9_item 61 = .ok (.iconst 1, 1) := by decide +kernel
theorem dX9_item_62 : decode cX9_item 62 = .ok (.ireturn, 1) := by decide +kernel
set_option maxRecDepth 20000 in
theorem ggX9_peek_X9_isTape : GoodIn wsX9_peek wsX9_isTape := goodIn_r _ [8, 9, 10, 7, 11] (by decide +kernel) (by decide +kernel)
set_option maxRecDepth 20000 in
theorem gX9_peek_X9_isTape : GoodIn wsX9_peek (va_wsS RX9 300 yX9_isTape wsX9_isTape) := goodIn_app (goodIn_of _ (by decide +kernel)) ggX9_peek_X9_isTape
set_option maxRecDepth 20000 in
theorem ggX9_peek_X9_in : GoodIn wsX9_peek wsX9_in := goodIn_r _ [11] (by decide +kernel) (by decide +kernel)
set_option maxRecDepth 20000 in
theorem gX9_peek_X9_in : GoodIn wsX9_peek (va_wsS RX9 95 yX9_in wsX9_in) := goodIn_app (goodIn_of _ (by decide +kernel)) ggX9_peek_X9_in
theorem dX9_peek_0 : decode cX9_peek 0 = .ok (.iload_n 1, 1) := by decide +kernel
theorem dX9_peek_1 : decode cX9_peek 1 = .ok (.invokestatic 300, 3) := by decide +kernel
theorem dX9_peek_4 : decode cX9_peek 4 = .ok (.ifCond .eq 42, 3) := by decide +kernel
theorem dX9_peek_7 : decode cX9_peek 7 = .ok (.aload_n 0, 1) := by decide +kernel
theorem dX9_peek_8 : decode cX9_peek 8 = .ok (.getfield 49, 3) := by decide +kernel
theorem dX9_peek_11 : decode cX9_peek 11 = .ok (.iload_n 1, 1) := by decide +kernel
theorem dX9_peek_12 : decode cX9_peek 12 = .ok (.iaload, 1) := by decide +kernel
theorem dX9_peek_13 : decode cX9_peek 13 = .ok (.ifCond .lt 33, 3) := by decide +kernel
theorem dX9_peek_16 : decode cX9_peek 16 = .ok (.iload_n 2, 1) := by decide +kernel
theorem dX9_peek_17 : decode cX9_peek 17 = .ok (.iconst 0, 1) := by decide +kernel
theorem dX9_peek_18 : decode cX9_peek 18 = .ok (.aload_n 0, 1) := by decide +kernel
theorem dX9_peek_19 : decode cX9_peek 19 = .ok (.getfield 52, 3) := by decide +kernel
theorem dX9_peek_22 : decode cX9_peek 22 = .ok (.iload_n 1, 1) := by decide +kernel
theorem dX9_peek_23 : decode cX9_peek 23 = .ok (.iaload, 1) := by decide +kernel
theorem dX9_peek_24 : decode cX9_peek 24 = .ok (.iconst 1, 1) := by decide +kernel
theorem dX9_peek_25 : decode cX9_peek 25 = .ok (.isub, 1) := by decide +kernel
theorem dX9_peek_26 : decode cX9_peek 26 = .ok (.invokestatic 95, 3) := by decide +kernel
theorem dX9_peek_29 : decode cX9_peek 29 = .ok (.ifCond .eq 17, 3) := by decide +kernel
theorem dX9_peek_32 : decode cX9_peek 32 = .ok (.aload_n 0, 1) := by decide +kernel
theorem dX9_peek_33 : decode cX9_peek 33 = .ok (.getfield 55, 3) := by decide +kernel
theorem dX9_peek_36 : decode cX9_peek 36 = .ok (.bipush 60, 2) := by decide +kernel
theorem dX9_peek_38 : decode cX9_peek 38 = .ok (.iload_n 1, 1) := by decide +kernel
theorem dX9_peek_39 : decode cX9_peek 39 = .ok (.imul, 1) := by decide +kernel
theorem dX9_peek_40 : decode cX9_peek 40 = .ok (.iload_n 2, 1) := by decide +kernel
theorem dX9_peek_41 : decode cX9_peek 41 = .ok (.iadd, 1) := by decide +kernel
theorem dX9_peek_42 : decode cX9_peek 42 = .ok (.laload, 1) := by decide +kernel
theorem dX9_peek_43 : decode cX9_peek 43 = .ok (.goto 6, 3) := by decide +kernel
theorem dX9_peek_46 : decode cX9_peek 46 = .ok (.ldc2_w 245, 3) := by decide +kernel
theorem dX9_peek_49 : decode cX9_peek 49 = .ok (.lreturn, 1) := by decide +kernel
set_option maxRecDepth 20000 in
theorem ggX9_shift_X9_isTape : GoodIn wsX9_shift wsX9_isTape := goodIn_r _ [8, 9, 10, 7, 11] (by decide +kernel) (by decide +kernel)
set_option maxRecDepth 20000 in
theorem gX9_shift_X9_isTape : GoodIn wsX9_shift (va_wsS RX9 300 yX9_isTape wsX9_isTape) := goodIn_app (goodIn_of _ (by decide +kernel)) ggX9_shift_X9_isTape
theorem dX9_shift_0 : decode cX9_shift 0 = .ok (.iload_n 1, 1) := by decide +kernel
theorem dX9_shift_1 : decode cX9_shift 1 = .ok (.invokestatic 300, 3) := by decide +kernel
theorem dX9_shift_4 : decode cX9_shift 4 = .ok (.ifCond .eq 10, 3) := by decide +kernel
theorem dX9_shift_7 : decode cX9_shift 7 = .ok (.iload_n 3, 1) := by decide +kernel
theorem dX9_shift_8 : decode cX9_shift 8 = .ok (.invokestatic 300, 3) := by decide +kernel
theorem dX9_shift_11 : decode cX9_shift 11 = .ok (.ifCond .ne 5, 3) := by decide +kernel
theorem dX9_shift_14 : decode cX9_shift 14 = .ok (.iconst (-1), 1) := by decide +kernel
theorem dX9_shift_15 : decode cX9_shift 15 = .ok (.ireturn, 1) := by decide +kernel
theorem dX9_shift_16 : decode cX9_shift 16 = .ok (.aload_n 0, 1) := by decide +kernel
theorem dX9_shift_17 : decode cX9_shift 17 = .ok (.getfield 49, 3) := by decide +kernel
theorem dX9_shift_20 : decode cX9_shift 20 = .ok (.iload_n 1, 1) := by decide +kernel
theorem dX9_shift_21 : decode cX9_shift 21 = .ok (.iaload, 1) := by decide +kernel
theorem dX9_shift_22 : decode cX9_shift 22 = .ok (.ifCond .lt 12, 3) := by decide +kernel
theorem dX9_shift_25 : decode cX9_shift 25 = .ok (.aload_n 0, 1) := by decide +kernel
theorem dX9_shift_26 : decode cX9_shift 26 = .ok (.getfield 49, 3) := by decide +kernel
theorem dX9_shift_29 : decode cX9_shift 29 = .ok (.iload_n 3, 1) := by decide +kernel
theorem dX9_shift_30 : decode cX9_shift 30 = .ok (.iaload, 1) := by decide +kernel
theorem dX9_shift_31 : decode cX9_shift 31 = .ok (.ifCond .ge 6, 3) := by decide +kernel
theorem dX9_shift_34 : decode cX9_shift 34 = .ok (.bipush (-11), 2) := by decide +kernel
theorem dX9_shift_36 : decode cX9_shift 36 = .ok (.ireturn, 1) := by decide +kernel
theorem dX9_shift_37 : decode cX9_shift 37 = .ok (.aload_n 0, 1) := by decide +kernel
theorem dX9_shift_38 : decode cX9_shift 38 = .ok (.getfield 49, 3) := by decide +kernel
theorem dX9_shift_41 : decode cX9_shift 41 = .ok (.iload_n 1, 1) := by decide +kernel
theorem dX9_shift_42 : decode cX9_shift 42 = .ok (.iaload, 1) := by decide +kernel
theorem dX9_shift_43 : decode cX9_shift 43 = .ok (.aload_n 0, 1) := by decide +kernel
theorem dX9_shift_44 : decode cX9_shift 44 = .ok (.getfield 49, 3) := by decide +kernel
theorem dX9_shift_47 : decode cX9_shift 47 = .ok (.iload_n 3, 1) := by decide +kernel
theorem dX9_shift_48 : decode cX9_shift 48 = .ok (.iaload, 1) := by decide +kernel
theorem dX9_shift_49 : decode cX9_shift 49 = .ok (.if_icmp .eq 6, 3) := by decide +kernel
theorem dX9_shift_52 : decode cX9_shift 52 = .ok (.bipush (-12), 2) := by decide +kernel
theorem dX9_shift_54 : decode cX9_shift 54 = .ok (.ireturn, 1) := by decide +kernel
theorem dX9_shift_55 : decode cX9_shift 55 = .ok (.iload 5, 2) := by decide +kernel
theorem dX9_shift_57 : decode cX9_shift 57 = .ok (.ifCond .lt 47, 3) := by decide +kernel
theorem dX9_shift_60 : decode cX9_shift 60 = .ok (.iload_n 2, 1) := by decide +kernel
theorem dX9_shift_61 : decode cX9_shift 61 = .ok (.ifCond .lt 43, 3) := by decide +kernel
theorem dX9_shift_64 : decode cX9_shift 64 = .ok (.iload 4, 2) := by decide +kernel
theorem dX9_shift_66 : decode cX9_shift 66 = .ok (.ifCond .lt 38, 3) := by decide +kernel
theorem dX9_shift_69 : decode cX9_shift 69 = .ok (.iload_n 2, 1) := by decide +kernel
theorem dX9_shift_70 : decode cX9_shift 70 = .ok (.i2l, 1) := by decide +kernel
theorem dX9_shift_71 : decode cX9_shift 71 = .ok (.iload 5, 2) := by decide +kernel
theorem dX9_shift_73 : decode cX9_shift 73 = .ok (.i2l, 1) := by decide +kernel
theorem dX9_shift_74 : decode cX9_shift 74 = .ok (.ladd, 1) := by decide +kernel
theorem dX9_shift_75 : decode cX9_shift 75 = .ok (.aload_n 0, 1) := by decide +kernel
theorem dX9_shift_76 : decode cX9_shift 76 = .ok (.getfield 52, 3) := by decide +kernel
theorem dX9_shift_79 : decode cX9_shift 79 = .ok (.iload_n 1, 1) := by decide +kernel
theorem dX9_shift_80 : decode cX9_shift 80 = .ok (.iaload, 1) := by decide +kernel
theorem dX9_shift_81 : decode cX9_shift 81 = .ok (.i2l, 1) := by decide +kernel
theorem dX9_shift_82 : decode cX9_shift 82 = .ok (.lcmp, 1) := by decide +kernel
theorem dX9_shift_83 : decode cX9_shift 83 = .ok (.ifCond .gt 21, 3) := by decide +kernel
theorem dX9_shift_86 : decode cX9_shift 86 = .ok (.iload 4, 2) := by decide +kernel
theorem dX9_shift_88 : decode cX9_shift 88 = .ok (.i2l, 1) := by decide +kernel
theorem dX9_shift_89 : decode cX9_shift 89 = .ok (.iload 5, 2) := by decide +kernel
theorem dX9_shift_91 : decode cX9_shift 91 = .ok (.i2l, 1) := by decide +kernel
theorem dX9_shift_92 : decode cX9_shift 92 = .ok (.ladd, 1) := by decide +kernel
theorem dX9_shift_93 : decode cX9_shift 93 = .ok (.aload_n 0, 1) := by decide +kernel
theorem dX9_shift_94 : decode cX9_shift 94 = .ok (.getfield 52, 3) := by decide +kernel
theorem dX9_shift_97 : decode cX9_shift 97 = .ok (.iload_n 3, 1) := by decide +kernel
theorem dX9_shift_98 : decode cX9_shift 98 = .ok (.iaload, 1) := by decide +kernel
theorem dX9_shift_99 : decode cX9_shift 99 = .ok (.i2l, 1) := by decide +kernel
theorem dX9_shift_100 : decode cX9_shift 100 = .ok (.lcmp, 1) := by decide +kernel
theorem dX9_shift_101 : decode cX9_shift 101 = .ok (.ifCond .le 6, 3) := by decide +kernel
theorem dX9_shift_104 : decode cX9_shift 104 = .ok (.bipush (-13), 2) := by decide +kernel
theorem dX9_shift_106 : decode cX9_shift 106 = .ok (.ireturn, 1) := by decide +kernel
theorem dX9_shift_107 : decode cX9_shift 107 = .ok (.iconst 0, 1) := by decide +kernel
theorem dX9_shift_108 : decode cX9_shift 108 = .ok (.istore 6, 2) := by decide +kernel
theorem dX9_shift_110 : decode cX9_shift 110 = .ok (.iload 6, 2) := by decide +kernel
theorem dX9_shift_112 : decode cX9_shift 112 = .ok (.iload 5, 2) := by decide +kernel
theorem dX9_shift_114 : decode cX9_shift 114 = .ok (.if_icmp .ge 30, 3) := by decide +kernel
theorem dX9_shift_117 : decode cX9_shift 117 = .ok (.aload_n 0, 1) := by decide +kernel
theorem dX9_shift_118 : decode cX9_shift 118 = .ok (.getfield 59, 3) := by decide +kernel
theorem dX9_shift_121 : decode cX9_shift 121 = .ok (.iload 6, 2) := by decide +kernel
theorem dX9_shift_123 : decode cX9_shift 123 = .ok (.aload_n 0, 1) := by decide +kernel
theorem dX9_shift_124 : decode cX9_shift 124 = .ok (.getfield 55, 3) := by decide +kernel
theorem dX9_shift_127 : decode cX9_shift 127 = .ok (.bipush 60, 2) := by decide +kernel
theorem dX9_shift_129 : decode cX9_shift 129 = .ok (.iload_n 1, 1) := by decide +kernel
theorem dX9_shift_130 : decode cX9_shift 130 = .ok (.imul, 1) := by decide +kernel
theorem dX9_shift_131 : decode cX9_shift 131 = .ok (.iload_n 2, 1) := by decide +kernel
theorem dX9_shift_132 : decode cX9_shift 132 = .ok (.iadd, 1) := by decide +kernel
theorem dX9_shift_133 : decode cX9_shift 133 = .ok (.iload 6, 2) := by decide +kernel
theorem dX9_shift_135 : decode cX9_shift 135 = .ok (.iadd, 1) := by decide +kernel
theorem dX9_shift_136 : decode cX9_shift 136 = .ok (.laload, 1) := by decide +kernel
theorem dX9_shift_137 : decode cX9_shift 137 = .ok (.lastore, 1) := by decide +kernel
theorem dX9_shift_138 : decode cX9_shift 138 = .ok (.iinc 6 1, 3) := by decide +kernel
theorem dX9_shift_141 : decode cX9_shift 141 = .ok (.goto (-31), 3) := by decide +kernel
theorem dX9_shift_144 : decode cX9_shift 144 = .ok (.iconst 0, 1) := by decide +kernel
theorem dX9_shift_145 : decode cX9_shift 145 = .ok (.istore 6, 2) := by decide +kernel
theorem dX9_shift_147 : decode cX9_shift 147 = .ok (.iload 6, 2) := by decide +kernel
theorem dX9_shift_149 : decode cX9_shift 149 = .ok (.iload 5, 2) := by decide +kernel
theorem dX9_shift_151 : decode cX9_shift 151 = .ok (.if_icmp .ge 31, 3) := by decide +kernel
theorem dX9_shift_154 : decode cX9_shift 154 = .ok (.aload_n 0, 1) := by decide +kernel
theorem dX9_shift_155 : decode cX9_shift 155 = .ok (.getfield 55, 3) := by decide +kernel
theorem dX9_shift_158 : decode cX9_shift 158 = .ok (.bipush 60, 2) := by decide +kernel
theorem dX9_shift_160 : decode cX9_shift 160 = .ok (.iload_n 3, 1) := by decide +kernel
theorem dX9_shift_161 : decode cX9_shift 161 = .ok (.imul, 1) := by decide +kernel
theorem dX9_shift_162 : decode cX9_shift 162 = .ok (.iload 4, 2) := by decide +kernel
theorem dX9_shift_164 : decode cX9_shift 164 = .ok (.iadd, 1) := by decide +kernel
theorem dX9_shift_165 : decode cX9_shift 165 = .ok (.iload 6, 2) := by decide +kernel
theorem dX9_shift_167 : decode cX9_shift 167 = .ok (.iadd, 1) := by decide +kernel
theorem dX9_shift_168 : decode cX9_shift 168 = .ok (.aload_n 0, 1) := by decide +kernel
theorem dX9_shift_169 : decode cX9_shift 169 = .ok (.getfield 59, 3) := by decide +kernel
theorem dX9_shift_172 : decode cX9_shift 172 = .ok (.iload 6, 2) := by decide +kernel
theorem dX9_shift_174 : decode cX9_shift 174 = .ok (.laload, 1) := by decide +kernel
theorem dX9_shift_175 : decode cX9_shift 175 = .ok (.lastore, 1) := by decide +kernel
theorem dX9_shift_176 : decode cX9_shift 176 = .ok (.iinc 6 1, 3) := by decide +kernel
theorem dX9_shift_179 : decode cX9_shift 179 = .ok (.goto (-32), 3) := by decide +kernel
theorem dX9_shift_182 : decode cX9_shift 182 = .ok (.iload 5, 2) := by decide +kernel
theorem dX9_shift_184 : decode cX9_shift 184 = .ok (.ireturn, 1) := by decide +kernel
theorem dJ6_bitCount_0f7a4_0 : decode cJ6_bitCount_0f7a4 0 = .ok (.iload_n 0, 1) := by decide +kernel
theorem dJ6_bitCount_0f7a4_1 : decode cJ6_bitCount_0f7a4 1 = .ok (.iload_n 0, 1) := by decide +kernel
theorem dJ6_bitCount_0f7a4_2 : decode cJ6_bitCount_0f7a4 2 = .ok (.iconst 1, 1) := by decide +kernel
theorem dJ6_bitCount_0f7a4_3 : decode cJ6_bitCount_0f7a4 3 = .ok (.iushr, 1) := by decide +kernel
theorem dJ6_bitCount_0f7a4_4 : decode cJ6_bitCount_0f7a4 4 = .ok (.ldc_w 265, 3) := by decide +kernel
theorem dJ6_bitCount_0f7a4_7 : decode cJ6_bitCount_0f7a4 7 = .ok (.iand, 1) := by decide +kernel
theorem dJ6_bitCount_0f7a4_8 : decode cJ6_bitCount_0f7a4 8 = .ok (.isub, 1) := by decide +kernel
theorem dJ6_bitCount_0f7a4_9 : decode cJ6_bitCount_0f7a4 9 = .ok (.istore_n 0, 1) := by decide +kernel
theorem dJ6_bitCount_0f7a4_10 : decode cJ6_bitCount_0f7a4 10 = .ok (.iload_n 0, 1) := by decide +kernel
theorem dJ6_bitCount_0f7a4_11 : decode cJ6_bitCount_0f7a4 11 = .ok (.ldc_w 266, 3) := by decide +kernel
theorem dJ6_bitCount_0f7a4_14 : decode cJ6_bitCount_0f7a4 14 = .ok (.iand, 1) := by decide +kernel
theorem dJ6_bitCount_0f7a4_15 : decode cJ6_bitCount_0f7a4 15 = .ok (.iload_n 0, 1) := by decide +kernel
theorem dJ6_bitCount_0f7a4_16 : decode cJ6_bitCount_0f7a4 16 = .ok (.iconst 2, 1) := by decide +kernel
theorem dJ6_bitCount_0f7a4_17 : decode cJ6_bitCount_0f7a4 17 = .ok (.iushr, 1) := by decide +kernel
theorem dJ6_bitCount_0f7a4_18 : decode cJ6_bitCount_0f7a4 18 = .ok (.ldc_w 266, 3) := by decide +kernel
theorem dJ6_bitCount_0f7a4_21 : decode cJ6_bitCount_0f7a4 21 = .ok (.iand, 1) := by decide +kernel
theorem dJ6_bitCount_0f7a4_22 : decode cJ6_bitCount_0f7a4 22 = .ok (.iadd, 1) := by decide +kernel
theorem dJ6_bitCount_0f7a4_23 : decode cJ6_bitCount_0f7a4 23 = .ok (.istore_n 0, 1) := by decide +kernel
theorem dJ6_bitCount_0f7a4_24 : decode cJ6_bitCount_0f7a4 24 = .ok (.iload_n 0, 1) := by decide +kernel
theorem dJ6_bitCount_0f7a4_25 : decode cJ6_bitCount_0f7a4 25 = .ok (.iload_n 0, 1) := by decide +kernel
theorem dJ6_bitCount_0f7a4_26 : decode cJ6_bitCount_0f7a4 26 = .ok (.iconst 4, 1) := by decide +kernel
theorem dJ6_bitCount_0f7a4_27 : decode cJ6_bitCount_0f7a4 27 = .ok (.iushr, 1) := by decide +kernel
theorem dJ6_bitCount_0f7a4_28 : decode cJ6_bitCount_0f7a4 28 = .ok (.iadd, 1) := by decide +kernel
theorem dJ6_bitCount_0f7a4_29 : decode cJ6_bitCount_0f7a4 29 = .ok (.ldc_w 267, 3) := by decide +kernel
theorem dJ6_bitCount_0f7a4_32 : decode cJ6_bitCount_0f7a4 32 = .ok (.iand, 1) := by decide +kernel
theorem dJ6_bitCount_0f7a4_33 : decode cJ6_bitCount_0f7a4 33 = .ok (.istore_n 0, 1) := by decide +kernel
theorem dJ6_bitCount_0f7a4_34 : decode cJ6_bitCount_0f7a4 34 = .ok (.iload_n 0, 1) := by decide +kernel
theorem dJ6_bitCount_0f7a4_35 : decode cJ6_bitCount_0f7a4 35 = .ok (.iload_n 0, 1) := by decide +kernel
theorem dJ6_bitCount_0f7a4_36 : decode cJ6_bitCount_0f7a4 36 = .ok (.bipush 8, 2) := by decide +kernel
theorem dJ6_bitCount_0f7a4_38 : decode cJ6_bitCount_0f7a4 38 = .ok (.iushr, 1) := by decide +kernel
theorem dJ6_bitCount_0f7a4_39 : decode cJ6_bitCount_0f7a4 39 = .ok (.iadd, 1) := by decide +kernel
theorem dJ6_bitCount_0f7a4_40 : decode cJ6_bitCount_0f7a4 40 = .ok (.istore_n 0, 1) := by decide +kernel
theorem dJ6_bitCount_0f7a4_41 : decode cJ6_bitCount_0f7a4 41 = .ok (.iload_n 0, 1) := by decide +kernel
theorem dJ6_bitCount_0f7a4_42 : decode cJ6_bitCount_0f7a4 42 = .ok (.iload_n 0, 1) := by decide +kernel
theorem dJ6_bitCount_0f7a4_43 : decode cJ6_bitCount_0f7a4 43 = .ok (.bipush 16, 2) := by decide +kernel
theorem dJ6_bitCount_0f7a4_45 : decode cJ6_bitCount_0f7a4 45 = .ok (.iushr, 1) := by decide +kernel
theorem dJ6_bitCount_0f7a4_46 : decode cJ6_bitCount_0f7a4 46 = .ok (.iadd, 1) := by decide +kernel
theorem dJ6_bitCount_0f7a4_47 : decode cJ6_bitCount_0f7a4 47 = .ok (.istore_n 0, 1) := by decide +kernel
theorem dJ6_bitCount_0f7a4_48 : decode cJ6_bitCount_0f7a4 48 = .ok (.iload_n 0, 1) := by decide +kernel
theorem dJ6_bitCount_0f7a4_49 : decode cJ6_bitCount_0f7a4 49 = .ok (.bipush 63, 2) := by decide +kernel
theorem dJ6_bitCount_0f7a4_51 : decode cJ6_bitCount_0f7a4 51 = .ok (.iand, 1) := by decide +kernel
theorem dJ6_bitCount_0f7a4_52 : decode cJ6_bitCount_0f7a4 52 = .ok (.ireturn, 1) := by decide +kernel
theorem dJ9_abs_0f7a4_0 : decode cJ9_abs_0f7a4 0 = .ok (.iload_n 0, 1) := by decide +kernel
theorem dJ9_abs_0f7a4_1 : decode cJ9_abs_0f7a4 1 = .ok (.ifCond .ge 8, 3) := by decide +kernel
theorem dJ9_abs_0f7a4_4 : decode cJ9_abs_0f7a4 4 = .ok (.iload_n 0, 1) := by decide +kernel
theorem dJ9_abs_0f7a4_5 : decode cJ9_abs_0f7a4 5 = .ok (.ineg, 1) := by decide +kernel
theorem dJ9_abs_0f7a4_6 : decode cJ9_abs_0f7a4 6 = .ok (.goto 4, 3) := by decide +kernel
theorem dJ9_abs_0f7a4_9 : decode cJ9_abs_0f7a4 9 = .ok (.iload_n 0, 1) := by decide +kernel
theorem dJ9_abs_0f7a4_10 : decode cJ9_abs_0f7a4 10 = .ok (.ireturn, 1) := by decide +kernel
theorem dJ9_max_7cf53_0 : decode cJ9_max_7cf53 0 = .ok (.iload_n 0, 1) := by decide +kernel
theorem dJ9_max_7cf53_1 : decode cJ9_max_7cf53 1 = .ok (.iload_n 1, 1) := by decide +kernel
theorem dJ9_max_7cf53_2 : decode cJ9_max_7cf53 2 = .ok (.if_icmp .lt 7, 3) := by decide +kernel
theorem dJ9_max_7cf53_5 : decode cJ9_max_7cf53 5 = .ok (.iload_n 0, 1) := by decide +kernel
theorem dJ9_max_7cf53_6 : decode cJ9_max_7cf53 6 = .ok (.goto 4, 3) := by decide +kernel
theorem dJ9_max_7cf53_9 : decode cJ9_max_7cf53 9 = .ok (.iload_n 1, 1) := by decide +kernel
theorem dJ9_max_7cf53_10 : decode cJ9_max_7cf53 10 = .ok (.ireturn, 1) := by decide +kernel
theorem dJ9_min_7cf53_0 : decode cJ9_min_7cf53 0 = .ok (.iload_n 0, 1) := by decide +kernel
theorem dJ9_min_7cf53_1 : decode cJ9_min_7cf53 1 = .ok (.iload_n 1, 1) := by decide +kernel
theorem dJ9_min_7cf53_2 : decode cJ9_min_7cf53 2 = .ok (.if_icmp .gt 7, 3) := by decide +kernel
theorem dJ9_min_7cf53_5 : decode cJ9_min_7cf53 5 = .ok (.iload_n 0, 1) := by decide +kernel
theorem dJ9_min_7cf53_6 : decode cJ9_min_7cf53 6 = .ok (.goto 4, 3) := by decide +kernel
theorem dJ9_min_7cf53_9 : decode cJ9_min_7cf53 9 = .ok (.iload_n 1, 1) := by decide +kernel
theorem dJ9_min_7cf53_10 : decode cJ9_min_7cf53 10 = .ok (.ireturn, 1) := by decide +kernel
